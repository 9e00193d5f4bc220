/-! A STEP OF THE ABSTRACT MACHINE HOLDS WHAT THE SMALL ONE DOES: groups 1 to 4 -/
def aIdx : Instr → Option Nat
  | .getfield k => some k
  | .putfield k => some k
  | .invokevirtual k => some k
  | .invokestatic k => some k
  | .invokespecial k => some k
  | .ldc k => some k
  | .ldc_w k => some k
  | .ldc2_w k => some k
  | .new k => some k
  | _ => none
/-- an instruction's row says what its link is -/
def aChk (own : Nat) (e : aIn) : Bool := match aIdx e.1 with
  | none => true
  | some k => match mjR own k with
    | none => Nat.beq e.2.2.1 99
    | some (_, _, kd, a, v) => Nat.beq e.2.2.1 kd && (Nat.beq e.2.2.2.1 a && (ieq e.2.2.2.2.1 v && (bif Nat.ble 1 kd && Nat.ble kd 5 then (match mNp a, mjM a with
      | some np, some q => Nat.beq np e.2.2.2.2.2.1 && (Nat.beq q.2.2.1 e.2.2.2.2.2.2.1 && Nat.beq q.2.2.2.2 e.2.2.2.2.2.2.2)
      | _, _ => false) else true)))
theorem aChk_R {own k : Nat} {e : aIn} (hi : aIdx e.1 = some k) (h : aChk own e = true) (h9 : e.2.2.1 ≠ 99) : ∃ o1 o2, mjR own k = some (o1, o2, e.2.2.1, e.2.2.2.1, e.2.2.2.2.1) ∧ (1 ≤ e.2.2.1 → e.2.2.1 ≤ 5 → mNp e.2.2.2.1 = some e.2.2.2.2.2.1 ∧ ∃ q, mjM e.2.2.2.1 = some q ∧ q.2.2.1 = e.2.2.2.2.2.2.1 ∧ q.2.2.2.2 = e.2.2.2.2.2.2.2) := by
  unfold aChk at h
  rw [hi] at h
  simp only at h
  split at h
  · exact absurd (Nat.eq_of_beq_eq_true h) h9
  · next o1 o2 kd a v hR =>
    rw [Bool.and_eq_true, Bool.and_eq_true, Bool.and_eq_true, ieq_iff] at h
    obtain ⟨h1, h2, h3, h4⟩ := h
    have h1 := Nat.eq_of_beq_eq_true h1
    have h2 := Nat.eq_of_beq_eq_true h2
    refine ⟨o1, o2, by rw [hR, h1, h2, h3], fun g1 g2 => ?_⟩
    rw [h1] at g1 g2
    have hb : (Nat.ble 1 kd && Nat.ble kd 5) = true := by rw [Bool.and_eq_true, Nat.ble_eq, Nat.ble_eq]; exact ⟨g1, g2⟩
    rw [hb, cond_true] at h4
    rw [h2]
    split at h4
    · next np q hn hq =>
      rw [Bool.and_eq_true, Bool.and_eq_true] at h4
      exact ⟨by rw [hn, Nat.eq_of_beq_eq_true h4.1], q, hq, Nat.eq_of_beq_eq_true h4.2.1, Nat.eq_of_beq_eq_true h4.2.2⟩
    · cases h4
section AOK
variable {E : List Int} {cs : aC} {own nL y pc : Nat} {al : List (Nat × aV)} {ast : List aV} {h : aHe} {lv : List (Nat × Value)} {st : List Value} {M : mHe} {e : aIn} {brs : List (aC × aRs)} {fr : mFr}
theorem aGo_ok {y' pc' : Nat} {al' : List (Nat × aV)} {ast' : List aV} {h' : aHe} {f : mRes} {lv' : List (Nat × Value)} {st' : List Value} {M' : mHe} (hr : aGo cs y' pc' al' ast' h' = some brs) (hE : xE E cs) (hf : f = mGo y' pc' lv' st' M') (hL : xL E al' lv') (hS : xS E ast' st') (hH : xH E h' M') : ∃ b ∈ brs, xE E b.1 ∧ xR E f fr M b.2 := by
  unfold aGo at hr
  cases hr
  exact ⟨_, List.mem_cons_self, hE, lv', st', M', Or.inl hf, hL, hS, hH⟩
theorem aTo_ok {l : List aC} {cs' : aC} {y' pc' : Nat} {al' : List (Nat × aV)} {ast' : List aV} {h' : aHe} {f : mRes} {lv' : List (Nat × Value)} {st' : List Value} {M' : mHe} (hc : cs' ∈ l) (hE : xE E cs') (hf : f = mGo y' pc' lv' st' M') (hL : xL E al' lv') (hS : xS E ast' st') (hH : xH E h' M') : ∃ b ∈ aTo l y' pc' al' ast' h', xE E b.1 ∧ xR E f fr M b.2 :=
  ⟨_, List.mem_map.mpr ⟨cs', hc, rfl⟩, hE, lv', st', M', Or.inl hf, hL, hS, hH⟩
theorem xS_mk {a : aV} {v : Value} {l : List aV} {m : List Value} (h1 : xV E a v) (h2 : xS E l m) : xS E (a :: l) (v :: m) := ⟨h1, h2⟩
theorem aTo_l {r l2 : List (aC × aRs)} {f : mRes} (hr : ∃ b ∈ r, xE E b.1 ∧ xR E f fr M b.2) : ∃ b ∈ r ++ l2, xE E b.1 ∧ xR E f fr M b.2 := by
  obtain ⟨b, hb, h1⟩ := hr
  exact ⟨b, List.mem_append_left _ hb, h1⟩
theorem aTo_r {r l2 : List (aC × aRs)} {f : mRes} (hr : ∃ b ∈ r, xE E b.1 ∧ xR E f fr M b.2) : ∃ b ∈ l2 ++ r, xE E b.1 ∧ xR E f fr M b.2 := by
  obtain ⟨b, hb, h1⟩ := hr
  exact ⟨b, List.mem_append_right _ hb, h1⟩
/-- a split: one of the cases is so -/
theorem aSplit_ok {v : aV} {x : Int32} {f : mRes} (hr : aSplit cs y pc al ast h v = some brs) (hE : xE E cs) (hv : xV E v (.int x)) (hL : xL E al lv) (hS : xS E ast st) (hH : xH E h M) : ∃ b ∈ brs, xE E b.1 ∧ xR E f (y, pc, lv, st) M b.2 := by
  unfold aSplit at hr
  split at hr
  · next i c b1 =>
    split at hr
    · cases hr
    · next l u hi =>
      cases hb : (ilt l u && ilt (u - l) 300)
      · rw [hb] at hr; cases hr
      · rw [hb, cond_true] at hr
        cases hr
        obtain ⟨x', e, e1, he, -⟩ := hv
        have hlu := hE.2.2.1 _ _ _ _ hi he
        have hk : e = l + ((e - l).toNat : Nat) := by omega
        refine ⟨_, List.mem_map.mpr ⟨(e - l).toNat, List.mem_range.mpr (by omega), rfl⟩, ?_, lv, st, M, Or.inr ⟨rfl, rfl⟩, hL, hS, hH⟩
        refine xE_of hE (bOK_set (xE_b hE) (fun e' he' => ?_))
        rw [he] at he'
        cases he'
        omega
  · cases hr
theorem i32_of {v : Int} (h : in32 v v = true) : (Int32.ofInt v).toInt = v := by
  have := (in32_iff _ _).mp h
  exact Int32.toInt_ofInt_of_le (by omega) (by omega)
theorem i64_of {v : Int} (h : in64 v v = true) : (Int64.ofInt v).toInt = v := by
  have := (in64_iff _ _).mp h
  exact Int64.toInt_ofInt_of_le (by omega) (by omega)
theorem lconst_of : ∀ v : Fin 2, (Int64.ofNat v.val).toInt = (v.val : Int) := by decide +kernel
set_option maxHeartbeats 4000000 in
theorem aOp1_ok (hE : xE E cs) (hL : xL E al lv) (hS : xS E ast st) (hH : xH E h M) (hk : aChk own e = true) (hr : aOp1 e cs y pc al ast h = some brs) : ∃ b ∈ brs, xE E b.1 ∧ xR E (mOp1 own y pc e.2.1 lv st M e.1) fr M b.2 := by
  unfold aOp1 at hr
  split at hr
  · split at hr
    · next v hv =>
      cases hb : aIsI v
      · rw [hb] at hr; cases hr
      · rw [hb, cond_true] at hr
        obtain ⟨c, h1, h2⟩ := hL _ _ hv
        obtain ⟨x, rfl⟩ := xV_int hb h2
        exact aGo_ok hr hE (by simp only [mOp1, h1, if_pos]) hL (xS_mk h2 hS) hH
    · cases hr
  · split at hr
    · next r b1 b2 hv =>
      obtain ⟨c, h1, h2⟩ := hL _ _ hv
      have h2 : c = .ref r := h2
      subst h2
      exact aGo_ok hr hE (by simp only [mOp1, h1, if_pos]) hL (xS_mk (v := .ref _) rfl hS) hH
    · cases hr
  · split at hr
    · next v hv =>
      cases hb : aIsL v
      · rw [hb] at hr; cases hr
      · rw [hb, cond_true] at hr
        obtain ⟨c, h1, h2⟩ := hL _ _ hv
        obtain ⟨x, rfl⟩ := xV_long hb h2
        exact aGo_ok hr hE (by simp only [mOp1, h1, if_pos]) hL (xS_mk h2 hS) hH
    · cases hr
  · split at hr
    · next v hv =>
      cases hb : aIsI v
      · rw [hb] at hr; cases hr
      · rw [hb, cond_true] at hr
        obtain ⟨c, h1, h2⟩ := hL _ _ hv
        obtain ⟨x, rfl⟩ := xV_int hb h2
        exact aGo_ok hr hE (by simp only [mOp1, h1, if_pos]) hL (xS_mk h2 hS) hH
    · cases hr
  · split at hr
    · next r b1 b2 hv =>
      obtain ⟨c, h1, h2⟩ := hL _ _ hv
      have h2 : c = .ref r := h2
      subst h2
      exact aGo_ok hr hE (by simp only [mOp1, h1, if_pos]) hL (xS_mk (v := .ref _) rfl hS) hH
    · cases hr
  · split at hr
    · next v hv =>
      cases hb : aIsL v
      · rw [hb] at hr; cases hr
      · rw [hb, cond_true] at hr
        obtain ⟨c, h1, h2⟩ := hL _ _ hv
        obtain ⟨x, rfl⟩ := xV_long hb h2
        exact aGo_ok hr hE (by simp only [mOp1, h1, if_pos]) hL (xS_mk h2 hS) hH
    · cases hr
  · next v r =>
    cases hb : in32 v v
    · rw [hb] at hr; cases hr
    · rw [hb, cond_true] at hr
      exact aGo_ok hr hE (by simp only [mOp1, if_pos]) hL (xS_mk (xV_kI E (i32_of hb)) hS) hH
  · next v r => exact aGo_ok hr hE (by simp only [mOp1, if_pos]) hL (xS_mk (xV_kL E (lconst_of v)) hS) hH
  · next v r =>
    cases hb : (ile (-128) v && ile v 127)
    · rw [hb] at hr; cases hr
    · rw [hb, cond_true] at hr
      rw [Bool.and_eq_true, ile_iff, ile_iff] at hb
      have hv : ((Int8.ofInt v).toInt32).toInt = v := by rw [Int8.toInt_toInt32, Int8.toInt_ofInt_of_le (by omega) (by omega)]
      exact aGo_ok hr hE (by simp only [mOp1, if_pos]) hL (xS_mk (xV_kI E hv) hS) hH
  · next v r =>
    cases hb : (ile (-32768) v && ile v 32767)
    · rw [hb] at hr; cases hr
    · rw [hb, cond_true] at hr
      rw [Bool.and_eq_true, ile_iff, ile_iff] at hb
      have hv : ((Int16.ofInt v).toInt32).toInt = v := by rw [Int16.toInt_toInt32, Int16.toInt_ofInt_of_le (by omega) (by omega)]
      exact aGo_ok hr hE (by simp only [mOp1, if_pos]) hL (xS_mk (xV_kI E hv) hS) hH
  · next k a v r =>
    cases hb : in32 v v
    · rw [hb] at hr; cases hr
    · rw [hb, cond_true] at hr
      obtain ⟨o1, o2, hR, -⟩ := aChk_R (k := k) rfl hk (by simp)
      exact aGo_ok hr hE (by simp only [mOp1, hR, if_pos]) hL (xS_mk (xV_kI E (i32_of hb)) hS) hH
  · next k a v =>
    cases hb : Nat.blt a 8
    · rw [hb] at hr; cases hr
    · rw [hb, cond_true] at hr
      obtain ⟨o1, o2, hR, -⟩ := aChk_R (k := k) rfl hk (by simp)
      have ha : a < 8 := by simpa [Nat.blt_eq] using hb
      exact aGo_ok hr hE (by simp only [mOp1, hR, if_pos, ha, and_self]) hL (xS_mk (v := .ref _) rfl hS) hH
  · next k a v r =>
    cases hb : in32 v v
    · rw [hb] at hr; cases hr
    · rw [hb, cond_true] at hr
      obtain ⟨o1, o2, hR, -⟩ := aChk_R (k := k) rfl hk (by simp)
      exact aGo_ok hr hE (by simp only [mOp1, hR, if_pos]) hL (xS_mk (xV_kI E (i32_of hb)) hS) hH
  · next k a v r =>
    cases hb : in64 v v
    · rw [hb] at hr; cases hr
    · rw [hb, cond_true] at hr
      obtain ⟨o1, o2, hR, -⟩ := aChk_R (k := k) rfl hk (by simp)
      exact aGo_ok hr hE (by simp only [mOp1, hR, if_pos]) hL (xS_mk (xV_kL E (i64_of hb)) hS) hH
  · cases hr
set_option maxHeartbeats 4000000 in
theorem aOp2_ok (hE : xE E cs) (hL : xL E al lv) (hS : xS E ast st) (hH : xH E h M) (hr : aOp2 nL e cs y pc al ast h = some brs) : ∃ b ∈ brs, xE E b.1 ∧ xR E (mOp2 nL y pc e.2.1 lv st M e.1) fr M b.2 := by
  unfold aOp2 at hr
  split at hr
  · next k r v ast' =>
    cases hb : (aIsI v && Nat.blt k nL)
    · rw [hb] at hr; cases hr
    · rw [hb, cond_true] at hr
      rw [Bool.and_eq_true] at hb
      have hk2 : (k : Nat) < nL := by simpa [Nat.blt_eq] using hb.2
      obtain ⟨c, m, rfl, h1, h2⟩ := xS_cons hS
      obtain ⟨x, rfl⟩ := xV_int hb.1 h1
      exact aGo_ok hr hE (by simp only [mOp2, hk2, and_self, if_true]) (xL_put hL h1) h2 hH
  · next k r v ast' =>
    cases hb : (aIsI v && Nat.blt k nL)
    · rw [hb] at hr; cases hr
    · rw [hb, cond_true] at hr
      rw [Bool.and_eq_true] at hb
      have hk2 : (k : Nat) < nL := by simpa [Nat.blt_eq] using hb.2
      obtain ⟨c, m, rfl, h1, h2⟩ := xS_cons hS
      obtain ⟨x, rfl⟩ := xV_int hb.1 h1
      exact aGo_ok hr hE (by simp only [mOp2, hk2, and_self, if_true]) (xL_put hL h1) h2 hH
  · next k r0 r b1 b2 ast' =>
    cases hb : Nat.blt k nL
    · rw [hb] at hr; cases hr
    · rw [hb, cond_true] at hr
      have hk2 : (k : Nat) < nL := by simpa [Nat.blt_eq] using hb
      obtain ⟨c, m, rfl, h1, h2⟩ := xS_cons hS
      have h1 : c = .ref r := h1
      subst h1
      exact aGo_ok hr hE (by simp only [mOp2, hk2, and_self, if_true]) (xL_put (a := kR r) hL rfl) h2 hH
  · next k r0 r b1 b2 ast' =>
    cases hb : Nat.blt k nL
    · rw [hb] at hr; cases hr
    · rw [hb, cond_true] at hr
      have hk2 : (k : Nat) < nL := by simpa [Nat.blt_eq] using hb
      obtain ⟨c, m, rfl, h1, h2⟩ := xS_cons hS
      have h1 : c = .ref r := h1
      subst h1
      exact aGo_ok hr hE (by simp only [mOp2, hk2, and_self, if_true]) (xL_put (a := kR r) hL rfl) h2 hH
  · next k v r =>
    split at hr
    · next x hx =>
      cases hb : (aIsI x && Nat.blt k nL && in32 v v)
      · rw [hb] at hr; cases hr
      · rw [hb, cond_true] at hr
        rw [Bool.and_eq_true, Bool.and_eq_true] at hb
        have hk2 : k < nL := by simpa [Nat.blt_eq] using hb.1.2
        obtain ⟨c, h1, h2⟩ := hL _ _ hx
        obtain ⟨z, rfl⟩ := xV_int hb.1.1 h2
        exact aGo_ok hr hE (by simp only [mOp2, h1, hk2, and_self, if_true]) (xL_put hL (aAdd_ok hE h2 (xV_kI E (i32_of hb.2)))) hS hH
    · cases hr
  · next r a ast' =>
    cases hb : Nat.beq (aCat a) 1
    · rw [hb] at hr; cases hr
    · rw [hb, cond_true] at hr
      obtain ⟨c, m, rfl, h1, h2⟩ := xS_cons hS
      have hc : c.category = 1 := by rw [xV_cat h1]; exact Nat.eq_of_beq_eq_true hb
      exact aGo_ok hr hE (by simp only [mOp2, hc, and_self, if_true]) hL (xS_mk h1 (xS_mk h1 h2)) hH
  · next r a ast' =>
    cases hb : Nat.beq (aCat a) 1
    · rw [hb] at hr; cases hr
    · rw [hb, cond_true] at hr
      obtain ⟨c, m, rfl, h1, h2⟩ := xS_cons hS
      have hc : c.category = 1 := by rw [xV_cat h1]; exact Nat.eq_of_beq_eq_true hb
      exact aGo_ok hr hE (by simp only [mOp2, hc, and_self, if_true]) hL h2 hH
  · next r a b ast' =>
    cases hb : (Nat.beq (aCat a) 1 && Nat.beq (aCat b) 1)
    · rw [hb] at hr; cases hr
    · rw [hb, cond_true] at hr
      rw [Bool.and_eq_true] at hb
      obtain ⟨c, m, rfl, h1, h2⟩ := xS_cons hS
      obtain ⟨c2, m2, rfl, h3, h4⟩ := xS_cons h2
      have hc : c.category = 1 := by rw [xV_cat h1]; exact Nat.eq_of_beq_eq_true hb.1
      have hc2 : c2.category = 1 := by rw [xV_cat h3]; exact Nat.eq_of_beq_eq_true hb.2
      exact aGo_ok hr hE (by simp only [mOp2, hc, hc2, and_self, if_true]) hL (xS_mk h1 (xS_mk h3 (xS_mk h1 (xS_mk h3 h4)))) hH
  · cases hr
set_option maxHeartbeats 4000000 in
theorem aOp3_ok (hE : xE E cs) (hL : xL E al lv) (hS : xS E ast st) (hH : xH E h M) (hfr : fr = (y, pc, lv, st)) (hr : aOp3 e cs y pc al ast h = some brs) : ∃ b ∈ brs, xE E b.1 ∧ xR E (mOp3 y pc e.2.1 lv st M e.1) fr M b.2 := by
  obtain ⟨i, n, rest⟩ := e
  unfold aOp3 at hr
  simp only at hr ⊢
  split at hr
  · next b a ast' =>
    cases hb : (aIsI a && aIsI b)
    · rw [hb] at hr; cases hr
    · rw [hb, cond_true] at hr
      rw [Bool.and_eq_true] at hb
      obtain ⟨c, m, rfl, h1, h2⟩ := xS_cons hS
      obtain ⟨c2, m2, rfl, h3, h4⟩ := xS_cons h2
      obtain ⟨x, rfl⟩ := xV_int hb.2 h1
      obtain ⟨z, rfl⟩ := xV_int hb.1 h3
      exact aGo_ok hr hE (by simp only [mOp3, if_pos]) hL (xS_mk (aAdd_ok hE h3 h1) h4) hH
  · next b a ast' =>
    cases hb : (aIsI a && aIsI b)
    · rw [hb] at hr; cases hr
    · rw [hb, cond_true] at hr
      rw [Bool.and_eq_true] at hb
      obtain ⟨c, m, rfl, h1, h2⟩ := xS_cons hS
      obtain ⟨c2, m2, rfl, h3, h4⟩ := xS_cons h2
      obtain ⟨x, rfl⟩ := xV_int hb.2 h1
      obtain ⟨z, rfl⟩ := xV_int hb.1 h3
      exact aGo_ok hr hE (by simp only [mOp3, if_pos]) hL (xS_mk (aSb_ok hE h3 h1) h4) hH
  · next b a ast' =>
    cases hb : (aIsI a && aIsI b)
    · rw [hb] at hr; cases hr
    · rw [hb, cond_true] at hr
      rw [Bool.and_eq_true] at hb
      obtain ⟨c, m, rfl, h1, h2⟩ := xS_cons hS
      obtain ⟨c2, m2, rfl, h3, h4⟩ := xS_cons h2
      obtain ⟨x, rfl⟩ := xV_int hb.2 h1
      obtain ⟨z, rfl⟩ := xV_int hb.1 h3
      exact aGo_ok hr hE (by simp only [mOp3, if_pos]) hL (xS_mk (aMul_ok hE h3 h1) h4) hH
  · next b a ast' =>
    cases hb : (aIsI a && aIsI b)
    · rw [hb] at hr; cases hr
    · rw [hb, cond_true] at hr
      rw [Bool.and_eq_true] at hb
      obtain ⟨c, m, rfl, h1, h2⟩ := xS_cons hS
      obtain ⟨c2, m2, rfl, h3, h4⟩ := xS_cons h2
      obtain ⟨x, rfl⟩ := xV_int hb.2 h1
      obtain ⟨z, rfl⟩ := xV_int hb.1 h3
      unfold aSgl at hr
      split at hr
      · cases hr
      · next v hv =>
        obtain ⟨g1, g2⟩ := aDiv_ok hE h3 h1 hv
        exact aGo_ok hr hE (by simp only [mOp3, if_pos, if_neg g1]) hL (xS_mk (g2) h4) hH
  · next b a ast' =>
    cases hb : (aIsI a && aIsI b)
    · rw [hb] at hr; cases hr
    · rw [hb, cond_true] at hr
      rw [Bool.and_eq_true] at hb
      obtain ⟨c, m, rfl, h1, h2⟩ := xS_cons hS
      obtain ⟨c2, m2, rfl, h3, h4⟩ := xS_cons h2
      obtain ⟨x, rfl⟩ := xV_int hb.2 h1
      obtain ⟨z, rfl⟩ := xV_int hb.1 h3
      cases hmod : aMod cs a b
      · rw [hmod, cond_false] at hr
        unfold aSgl at hr
        split at hr
        · cases hr
        · next v hv =>
          obtain ⟨g1, g2⟩ := aRem_ok hE h3 h1 hv
          exact aGo_ok hr hE (by simp only [mOp3, if_pos, if_neg g1]) hL (xS_mk (g2) h4) hH
      · rw [hmod, cond_true] at hr
        rw [hfr]
        exact aSplit_ok hr hE h3 hL hS hH
  · next b a ast' =>
    cases hb : (aIsI a && aIsI b)
    · rw [hb] at hr; cases hr
    · rw [hb, cond_true] at hr
      rw [Bool.and_eq_true] at hb
      obtain ⟨c, m, rfl, h1, h2⟩ := xS_cons hS
      obtain ⟨c2, m2, rfl, h3, h4⟩ := xS_cons h2
      obtain ⟨x, rfl⟩ := xV_int hb.2 h1
      obtain ⟨z, rfl⟩ := xV_int hb.1 h3
      exact aGo_ok hr hE (by simp only [mOp3, if_pos]) hL (xS_mk (aAnd_ok hE h3 h1) h4) hH
  · next b a ast' =>
    cases hb : (aIsI a && aIsI b)
    · rw [hb] at hr; cases hr
    · rw [hb, cond_true] at hr
      rw [Bool.and_eq_true] at hb
      obtain ⟨c, m, rfl, h1, h2⟩ := xS_cons hS
      obtain ⟨c2, m2, rfl, h3, h4⟩ := xS_cons h2
      obtain ⟨x, rfl⟩ := xV_int hb.2 h1
      obtain ⟨z, rfl⟩ := xV_int hb.1 h3
      exact aGo_ok hr hE (by simp only [mOp3, if_pos]) hL (xS_mk (aEx2_ok (f := fun a b => a ||| b) hE h3 h1) h4) hH
  · next b a ast' =>
    cases hb : (aIsI a && aIsI b)
    · rw [hb] at hr; cases hr
    · rw [hb, cond_true] at hr
      rw [Bool.and_eq_true] at hb
      obtain ⟨c, m, rfl, h1, h2⟩ := xS_cons hS
      obtain ⟨c2, m2, rfl, h3, h4⟩ := xS_cons h2
      obtain ⟨x, rfl⟩ := xV_int hb.2 h1
      obtain ⟨z, rfl⟩ := xV_int hb.1 h3
      exact aGo_ok hr hE (by simp only [mOp3, if_pos]) hL (xS_mk (aEx2_ok (f := fun a b => a ^^^ b) hE h3 h1) h4) hH
  · next b a ast' =>
    cases hb : (aIsI a && aIsI b)
    · rw [hb] at hr; cases hr
    · rw [hb, cond_true] at hr
      rw [Bool.and_eq_true] at hb
      obtain ⟨c, m, rfl, h1, h2⟩ := xS_cons hS
      obtain ⟨c2, m2, rfl, h3, h4⟩ := xS_cons h2
      obtain ⟨x, rfl⟩ := xV_int hb.2 h1
      obtain ⟨z, rfl⟩ := xV_int hb.1 h3
      exact aGo_ok hr hE (by simp only [mOp3, if_pos]) hL (xS_mk (aEx2_ok (f := fun a b => a <<< (b &&& 31)) hE h3 h1) h4) hH
  · next b a ast' =>
    cases hb : (aIsI a && aIsI b)
    · rw [hb] at hr; cases hr
    · rw [hb, cond_true] at hr
      rw [Bool.and_eq_true] at hb
      obtain ⟨c, m, rfl, h1, h2⟩ := xS_cons hS
      obtain ⟨c2, m2, rfl, h3, h4⟩ := xS_cons h2
      obtain ⟨x, rfl⟩ := xV_int hb.2 h1
      obtain ⟨z, rfl⟩ := xV_int hb.1 h3
      exact aGo_ok hr hE (by simp only [mOp3, if_pos]) hL (xS_mk (aEx2_ok (f := fun a b => a >>> (b &&& 31)) hE h3 h1) h4) hH
  · next b a ast' =>
    cases hb : (aIsI a && aIsI b)
    · rw [hb] at hr; cases hr
    · rw [hb, cond_true] at hr
      rw [Bool.and_eq_true] at hb
      obtain ⟨c, m, rfl, h1, h2⟩ := xS_cons hS
      obtain ⟨c2, m2, rfl, h3, h4⟩ := xS_cons h2
      obtain ⟨x, rfl⟩ := xV_int hb.2 h1
      obtain ⟨z, rfl⟩ := xV_int hb.1 h3
      exact aGo_ok hr hE (by simp only [mOp3, if_pos]) hL (xS_mk (aEx2_ok (f := fun a b => (a.toUInt32 >>> (b.toUInt32 &&& Int32.toUInt32 31)).toInt32) hE h3 h1) h4) hH
  · next a ast' =>
    cases hb : aIsI a
    · rw [hb] at hr; cases hr
    · rw [hb, cond_true] at hr
      obtain ⟨c, m, rfl, h1, h2⟩ := xS_cons hS
      obtain ⟨x, rfl⟩ := xV_int hb h1
      exact aGo_ok hr hE (by simp only [mOp3, if_pos]) hL (xS_mk (aNeg_ok hE h1) h2) hH
  · next a ast' =>
    cases hb : aIsI a
    · rw [hb] at hr; cases hr
    · rw [hb, cond_true] at hr
      obtain ⟨c, m, rfl, h1, h2⟩ := xS_cons hS
      obtain ⟨x, rfl⟩ := xV_int hb h1
      exact aGo_ok hr hE (by simp only [mOp3, if_pos]) hL (xS_mk (aI2l_ok h1) h2) hH
  · next b a ast' =>
    cases hb : (aIsL a && aIsL b)
    · rw [hb] at hr; cases hr
    · rw [hb, cond_true] at hr
      rw [Bool.and_eq_true] at hb
      obtain ⟨c, m, rfl, h1, h2⟩ := xS_cons hS
      obtain ⟨c2, m2, rfl, h3, h4⟩ := xS_cons h2
      obtain ⟨x, rfl⟩ := xV_long hb.2 h1
      obtain ⟨z, rfl⟩ := xV_long hb.1 h3
      exact aGo_ok hr hE (by simp only [mOp3, if_pos]) hL (xS_mk (aLadd_ok hE h3 h1) h4) hH
  · next b a ast' =>
    cases hb : (aIsL a && aIsL b)
    · rw [hb] at hr; cases hr
    · rw [hb, cond_true] at hr
      rw [Bool.and_eq_true] at hb
      obtain ⟨c, m, rfl, h1, h2⟩ := xS_cons hS
      obtain ⟨c2, m2, rfl, h3, h4⟩ := xS_cons h2
      obtain ⟨x, rfl⟩ := xV_long hb.2 h1
      obtain ⟨z, rfl⟩ := xV_long hb.1 h3
      simp only [Option.some.injEq] at hr
      subst hr
      have hf : mOp3 y pc 1 lv (.long x :: .long z :: m2) M .lcmp = mGo y (pc + 1) lv (.int (lg_cmp z x) :: m2) M := by simp only [mOp3, if_pos]
      rcases Int.lt_trichotomy z.toInt x.toInt with hlt | heq | hgt
      · obtain ⟨c', hc1, hc2⟩ := aLe_ok hE (xN_long h3) (xN_long h1) (d := -1) (by omega)
        have hv : lg_cmp z x = -1 := by
          unfold lg_cmp
          rw [if_neg (fun q => by have := Int64.lt_iff_toInt_lt.mp q; omega), if_neg (fun q => by rw [q] at hlt; omega)]
        rw [hv] at hf
        exact aTo_l (aTo_l (aTo_ok hc1 hc2 hf hL (xS_mk (xV_kI E rfl) h4) hH))
      · obtain ⟨c', hc1, hc2⟩ := aEq_ok hE (xN_long h3) (xN_long h1) heq
        have hv : lg_cmp z x = 0 := by
          unfold lg_cmp
          rw [if_neg (fun q => by have := Int64.lt_iff_toInt_lt.mp q; omega), if_pos (Int64.toInt_inj.mp heq)]
        rw [hv] at hf
        exact aTo_l (aTo_r (aTo_ok hc1 hc2 hf hL (xS_mk (xV_kI E rfl) h4) hH))
      · obtain ⟨c', hc1, hc2⟩ := aLe_ok hE (xN_long h1) (xN_long h3) (d := -1) (by omega)
        have hv : lg_cmp z x = 1 := by
          unfold lg_cmp
          rw [if_pos (Int64.lt_iff_toInt_lt.mpr hgt)]
        rw [hv] at hf
        exact aTo_r (aTo_ok hc1 hc2 hf hL (xS_mk (xV_kI E rfl) h4) hH)
  · cases hr
theorem aBr_ok {off : Int} {al' : List (Nat × aV)} {ast' : List aV} {h' : aHe} {f : mRes} {lv' : List (Nat × Value)} {st' : List Value} {M' : mHe} (hr : aBr cs y pc off al' ast' h' = some brs) (hE : xE E cs) (hf : f = mBr y pc off lv' st' M') (hL : xL E al' lv') (hS : xS E ast' st') (hH : xH E h' M') : ∃ b ∈ brs, xE E b.1 ∧ xR E f fr M b.2 := by
  unfold aBr at hr
  split at hr
  · cases hr
  · next t ht =>
    refine aGo_ok hr hE ?_ hL hS hH
    rw [hf]
    unfold mBr
    rw [ht]
theorem aTbl_ok {a : aV} {x : Int32} (hE : xE E cs) (ha : xV E a (.int x)) (hL : xL E al lv) (hS : xS E ast st) (hH : xH E h M) : ∀ (offs : List Int) (k : Int) (brs : List (aC × aRs)) (off : Int) (f : mRes), aTbl cs a y pc al ast h k offs = some brs → k ≤ x.toInt → offs[(x.toInt - k).toNat]? = some off → f = mBr y pc off lv st M → ∃ b ∈ brs, xE E b.1 ∧ xR E f fr M b.2 := by
  intro offs
  induction offs with
  | nil => intro k brs off f hr hk ho; simp at ho
  | cons o offs ih =>
    intro k brs off f hr hk ho hf
    unfold aTbl at hr
    split at hr
    · next r t h1 h2 =>
      cases hr
      by_cases hq : x.toInt = k
      · have h0 : (x.toInt - k).toNat = 0 := by omega
        rw [h0] at ho
        simp only [List.getElem?_cons_zero, Option.some.injEq] at ho
        subst ho
        obtain ⟨c', hc1, hc2⟩ := aEq_ok hE (xN_int ha) (b := kI k) (n := k) ⟨Int.le_refl _, Int.le_refl _⟩ hq
        refine aTo_l (aTo_ok hc1 hc2 ?_ hL hS hH)
        rw [hf]; unfold mBr; rw [h2]
      · refine aTo_r (ih (k + 1) r off f h1 (by omega) ?_ hf)
        have h0 : (x.toInt - k).toNat = (x.toInt - (k + 1)).toNat + 1 := by omega
        rw [h0] at ho
        simpa using ho
    · cases hr
set_option maxHeartbeats 4000000 in
theorem aOp4_ok (hE : xE E cs) (hL : xL E al lv) (hS : xS E ast st) (hH : xH E h M) (hfr : fr = (y, pc, lv, st)) (hr : aOp4 e cs y pc al ast h = some brs) : ∃ b ∈ brs, xE E b.1 ∧ xR E (mOp4 y pc e.2.1 lv st M e.1) fr M b.2 := by
  obtain ⟨i, n, rest⟩ := e
  unfold aOp4 at hr
  simp only at hr ⊢
  split at hr
  · exact aBr_ok hr hE (by simp only [mOp4, if_pos]) hL hS hH
  · next k off a ast' =>
    cases hb : aIsI a
    · rw [hb] at hr; cases hr
    · rw [hb, cond_true] at hr
      obtain ⟨c, m, rfl, h1, h2⟩ := xS_cons hS
      obtain ⟨x, rfl⟩ := xV_int hb h1
      split at hr
      · cases hr
      · next t ht =>
        simp only [Option.some.injEq] at hr
        subst hr
        by_cases hc : mCd k x 0 = true
        · obtain ⟨c', hc1, hc2⟩ := aCd_ok hE h1 (xV_kI E (c := 0) (x := 0) rfl) hc
          exact aTo_l (aTo_ok hc1 hc2 (by simp only [mOp4, if_pos, ht, hc]) hL h2 hH)
        · obtain ⟨c', hc1, hc2⟩ := aCd_ok hE h1 (xV_kI E (c := 0) (x := 0) rfl) (aCn_ok hc)
          exact aTo_r (aTo_ok hc1 hc2 (by simp only [mOp4, if_pos, ht, if_neg hc]) hL h2 hH)
  · next k off b a ast' =>
    cases hb : (aIsI a && aIsI b)
    · rw [hb] at hr; cases hr
    · rw [hb, cond_true] at hr
      rw [Bool.and_eq_true] at hb
      obtain ⟨c, m, rfl, h1, h2⟩ := xS_cons hS
      obtain ⟨c2, m2, rfl, h3, h4⟩ := xS_cons h2
      obtain ⟨x, rfl⟩ := xV_int hb.2 h1
      obtain ⟨z, rfl⟩ := xV_int hb.1 h3
      split at hr
      · cases hr
      · next t ht =>
        simp only [Option.some.injEq] at hr
        subst hr
        by_cases hc : mCd k z x = true
        · obtain ⟨c', hc1, hc2⟩ := aCd_ok hE h3 h1 hc
          exact aTo_l (aTo_ok hc1 hc2 (by simp only [mOp4, if_pos, ht, hc]) hL h4 hH)
        · obtain ⟨c', hc1, hc2⟩ := aCd_ok hE h3 h1 (aCn_ok hc)
          exact aTo_r (aTo_ok hc1 hc2 (by simp only [mOp4, if_pos, ht, if_neg hc]) hL h4 hH)
  · next d lo hi offs a ast' =>
    cases hb : (aIsI a && in32 lo lo && in32 hi hi && ieq (lo + offs.size) (hi + 1))
    · rw [hb] at hr; cases hr
    · rw [hb, cond_true] at hr
      rw [Bool.and_eq_true, Bool.and_eq_true, Bool.and_eq_true, ieq_iff] at hb
      obtain ⟨c, m, rfl, h1, h2⟩ := xS_cons hS
      obtain ⟨x, rfl⟩ := xV_int hb.1.1.1 h1
      split at hr
      · next k hk =>
        have hxk := aK_ok hE h1 hk
        cases hq : (ilt k lo || ilt hi k)
        · rw [hq, cond_false] at hr
          have hno : ¬ (x.toInt < lo ∨ hi < x.toInt) := by
            intro z
            have : (ilt k lo || ilt hi k) = true := by
              rw [Bool.or_eq_true, ilt_iff, ilt_iff]
              omega
            rw [this] at hq; cases hq
          split at hr
          · next off ho =>
            rw [← hxk] at ho
            exact aBr_ok hr hE (by simp only [mOp4, if_neg hno, ho]) hL h2 hH
          · cases hr
        · rw [hq, cond_true] at hr
          rw [Bool.or_eq_true, ilt_iff, ilt_iff] at hq
          exact aBr_ok hr hE (by simp only [mOp4]; rw [if_pos (by omega)]) hL h2 hH
      · split at hr
        · next r t h3 h4 =>
          cases hr
          by_cases hc : x.toInt < lo ∨ hi < x.toInt
          · have hf : mOp4 y pc n lv (.int x :: m) M (.tableswitch d lo hi offs) = mGo y t lv m M := by
              simp only [mOp4]; rw [if_pos hc]; unfold mBr; rw [h4]
            refine aTo_r ?_
            rcases hc with hc | hc
            · obtain ⟨c', hc1, hc2⟩ := aLe_ok hE (xN_int h1) (b := kI lo) (n := lo) ⟨Int.le_refl _, Int.le_refl _⟩ (d := -1) (by omega)
              exact aTo_ok (List.mem_append_left _ hc1) hc2 hf hL h2 hH
            · obtain ⟨c', hc1, hc2⟩ := aLe_ok hE (a := kI hi) (m := hi) ⟨Int.le_refl _, Int.le_refl _⟩ (xN_int h1) (d := -1) (by omega)
              exact aTo_ok (List.mem_append_right _ hc1) hc2 hf hL h2 hH
          · have hlt : (x.toInt - lo).toNat < offs.size := by omega
            have ho : offs[(x.toInt - lo).toNat]? = some offs[(x.toInt - lo).toNat] := Array.getElem?_eq_getElem hlt
            have ho2 : offs.toList[(x.toInt - lo).toNat]? = some offs[(x.toInt - lo).toNat] := by rw [Array.getElem?_toList]; exact ho
            exact aTo_l (aTbl_ok hE h1 hL h2 hH _ _ _ _ _ h3 (by omega) ho2 (by simp only [mOp4]; rw [if_neg hc, ho]))
        · cases hr
  · next d ps a ast' =>
    cases hb : (aIsI a && (ps.toList.zip (ps.toList.drop 1)).all (fun q => decide (q.1.1 < q.2.1)))
    · rw [hb] at hr; cases hr
    · rw [hb, cond_true] at hr
      rw [Bool.and_eq_true] at hb
      obtain ⟨c, m, rfl, h1, h2⟩ := xS_cons hS
      obtain ⟨x, rfl⟩ := xV_int hb.1 h1
      split at hr
      · next k hk =>
        have hxk := aK_ok hE h1 hk
        rw [← hxk] at hr
        exact aBr_ok hr hE (by simp only [mOp4]; rw [if_pos hb.2]) hL h2 hH
      · rw [hfr]
        exact aSplit_ok hr hE h1 hL hS hH
  · cases hr
end AOK
