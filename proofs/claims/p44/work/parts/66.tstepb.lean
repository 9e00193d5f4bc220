/-! THE TYPED MACHINE: fields, rows, calls, ends; a step -/
def tFit (cs : aC) (ty : FieldType) (v : aV) : Bool := match ty with
  | .int => tIsI v
  | .boolean => tIsI v && (match tBd cs v with
    | (l, h) => ile 0 l && ile h 1)
  | _ => false
def tLs (r : tLr) (y pc : Nat) (lv : List (Nat × aV)) (st : List aV) : tBr := r.map (fun b => (b.2.1, .inl ((y, pc, lv, b.1 :: st), b.2.2)))
/-- the law's script: atom 0 is its length -/
def tLdS (cs : aC) (h : tF) (i : aV) : Option tLr := bif tIsI i && (match tBd cs i with
  | (l, _) => ile 0 l) && tImp cs i (4, 0, 0, 0) (-1) then some (match tPl cs 9999 i with
    | none => tNw cs h none (-2147483648) 2147483647
    | some p => match tFind h p with
      | some v => tOl cs h p v
      | none => tNw cs h (some p) (-2147483648) 2147483647) else none
def tOp5 (sc : Bool) (Ws : List (List tG)) (e : aIn) (cs : aC) (y pc : Nat) (lv : List (Nat × aV)) (st : List aV) (h : tF) : Option tBr := match e with
  | (.getfield _, 3, 0, ci, k, _) => match st with
    | (1, r, _, _) :: st => bif Nat.ble 9 r then (match tTy (r - 9), vwCl[ci]? with
      | some (.inr (ci', fts)), some q => bif Nat.beq ci' ci && Nat.blt k.toNat q.2.2 then (match fts[k.toNat]? with
        | some ft => some (tLs (tLf cs h (r - 9) k.toNat ft) y (pc + 3) lv st)
        | none => none) else none
      | _, _ => none) else none
    | _ => none
  | (.putfield _, 3, 0, ci, k, _) => match st with
    | v :: (1, r, _, _) :: st => bif Nat.ble 9 r then (match tTy (r - 9), vwCl[ci]?, mTy ci k.toNat with
      | some (.inr (ci', fts)), some q, some ty => bif Nat.beq ci' ci && Nat.blt k.toNat q.2.2 && tFit cs ty v && !(q.2.1 k.toNat).2.2.2 then (match fts[k.toNat]? with
        | some ft => (match tSf cs h Ws (r - 9) k.toNat ft v with
          | some h' => tGo cs y (pc + 3) lv st h'
          | none => none)
        | none => none) else none
      | _, _, _ => none) else none
    | _ => none
  | (.iaload, 1, _) => match st with
    | i :: (1, r, _, _) :: st => bif Nat.beq r 0 then (bif sc then (match tLdS cs h i with
      | some l => some (tLs l y (pc + 1) lv st)
      | none => none) else none) else bif Nat.ble 9 r then (match tLd cs h (r - 9) i with
      | some l => some (tLs l y (pc + 1) lv st)
      | none => none) else none
    | _ => none
  | (.iastore, 1, _) => match st with
    | x :: i :: (1, r, _, _) :: st => bif Nat.ble 9 r then (match tSa cs h Ws (r - 9) i x with
      | some h' => tGo cs y (pc + 1) lv st h'
      | none => none) else none
    | _ => none
  | (.arraylength, 1, _) => match st with
    | (1, r, _, _) :: st => bif Nat.beq r 0 then (bif sc then tGo cs y (pc + 1) lv ((4, 0, 0, 0) :: st) h else none) else bif Nat.ble 9 r then (match tTy (r - 9) with
      | some (.inl (n, _, _)) => bif Nat.blt n 2000000 then tGo cs y (pc + 1) lv (kI (Int.ofNat n) :: st) h else none
      | _ => none) else none
    | _ => none
  | _ => none
def tCall (e : aIn) (cs : aC) (y pc : Nat) (lv : List (Nat × aV)) (rest vs : List aV) : Option tBr := match e with
  | (_, _, _, y', _, _, mx, oc) => bif Nat.ble (aCats rest) 8 && Nat.ble (aCats vs) mx && Nat.ble mx 100 && !(Nat.beq oc 13) then some [(cs, .inr (.inl (y', vs, (y, pc + 3, lv, rest))))] else none
def tOp6 (d : Nat) (e : aIn) (cs : aC) (y pc : Nat) (lv : List (Nat × aV)) (st : List aV) (h : tF) : Option tBr := match e with
  | (.invokevirtual _, 3, 1, _, _, np, _, oc) => match st.drop np with
    | (1, r, _, _) :: rest => bif Nat.ble 9 r && Nat.ble np st.length then (match tTy (r - 9) with
      | some (.inr (ci, _)) => bif Nat.beq ci oc then tCall e cs y pc lv rest (kR r :: (st.take np).reverse) else none
      | _ => none) else none
    | _ => none
  | (.invokevirtual _, 3, 11, _) => match st with
    | (1, r, _, _) :: rest => bif Nat.ble 1 r && Nat.blt r 9 && Nat.ble (aCats rest) 8 && Nat.ble 3 d then (match mjLen[r - 1]? with
      | some k => tGo cs y (pc + 3) lv (kI (Int.ofNat k) :: rest) h
      | none => none) else none
    | _ => none
  | (.invokevirtual _, 3, 12, _) => match st with
    | i :: (1, r, _, _) :: rest => bif tIsI i && Nat.ble 1 r && Nat.blt r 9 && Nat.ble (aCats rest) 8 && Nat.ble 6 d && (match tBd cs i with
      | (l, u) => ile 0 l && ilt u (Int.ofNat ((mjByt[r - 1]?).getD []).length)) then tGo cs y (pc + 3) lv ((2, 0, 97, 122) :: rest) h else none
    | _ => none
  | (.invokestatic _, 3, 2, _, _, np, _) => bif Nat.ble np st.length then tCall e cs y pc lv (st.drop np) (st.take np).reverse else none
  | (.invokestatic _, 3, 3, _, _, np, _) => bif Nat.ble np st.length then tCall e cs y pc lv (st.drop np) (st.take np).reverse else none
  | (.invokestatic _, 3, 13, _) => match st with
    | b :: a :: rest => bif tIsI a && tIsI b && Nat.ble (aCats rest) 8 && Nat.ble 1 d then some (tTo (tLe cs a b (-1)) y (pc + 3) lv (b :: rest) h ++ tTo (tLe cs b a 0) y (pc + 3) lv (a :: rest) h) else none
    | _ => none
  | (.invokestatic _, 3, 14, _) => match st with
    | b :: a :: rest => bif tIsI a && tIsI b && Nat.ble (aCats rest) 8 && Nat.ble 1 d then some (tTo (tLe cs b a (-1)) y (pc + 3) lv (b :: rest) h ++ tTo (tLe cs a b 0) y (pc + 3) lv (a :: rest) h) else none
    | _ => none
  | (.invokespecial _, 3, 4, _, _, np, _) => match st.drop np with
    | (1, r, _, _) :: rest => bif Nat.ble np st.length then tCall e cs y pc lv rest (kR r :: (st.take np).reverse) else none
    | _ => none
  | (.invokespecial _, 3, 5, _, _, np, _) => match st.drop np with
    | (1, r, _, _) :: rest => bif Nat.ble np st.length then tCall e cs y pc lv rest (kR r :: (st.take np).reverse) else none
    | _ => none
  | (.invokespecial _, 3, 6, _) => match st with
    | (1, _, _, _) :: rest => bif Nat.ble (aCats rest) 8 && Nat.ble 1 d then tGo cs y (pc + 3) lv rest h else none
    | _ => none
  | _ => none
def tOp7 (rt : Option FieldType) (e : aIn) (cs : aC) (st : List aV) : Option tBr := match e.1, e.2.1, st, rt with
  | .ireturn, 1, [v], some .int => bif tIsI v then some [(cs, .inr (.inr (some v)))] else none
  | .ireturn, 1, [v], some .boolean => bif tFit cs .boolean v then some [(cs, .inr (.inr (some v)))] else none
  | .return_, 1, [], none => some [(cs, .inr (.inr none))]
  | .areturn, 1, [(1, r, _, _)], some (.object _) => some [(cs, .inr (.inr (some (kR r))))]
  | _, _, _, _ => none
def tOr (a b : Option tBr) : Option tBr := match a with
  | some x => some x
  | none => b
def tStep (sc : Bool) (Ws : List (List tG)) (d : Nat) (q : mMd) (y pc : Nat) (lv : List (Nat × aV)) (st : List aV) (h : tF) (cs : aC) : Option tBr := match aTab y pc with
  | none => none
  | some e => tOr (tOp1 e cs y pc lv st h) (tOr (tOp2 q.2.2.1 e cs y pc lv st h) (tOr (tOp3 e cs y pc lv st h) (tOr (tOp4 e cs y pc lv st h) (tOr (tOp5 sc Ws e cs y pc lv st h) (tOr (tOp6 d e cs y pc lv st h) (tOp7 q.2.2.2.1 e cs st))))))
/-- the script as the law has it -/
def ySc (xs : tXs) (E : List Int) (sc : Bool) (m : Option (Nat × (Nat → Int32))) : Prop := sc = true → m = some xs ∧ E[0]? = some (xs.1 : Int) ∧ xs.1 < 2 ^ 31
section TOKB
variable {xs : tXs} {E : List Int} {Ws : List (List tG)} {cs : aC} {own nL y pc d : Nat} {al : List (Nat × aV)} {ast : List aV} {h : tF} {lv : List (Nat × Value)} {st : List Value} {M : mHe} {e : aIn} {brs : tBr} {ini : Bool} {sb : Bool} {sc : Option (Nat × (Nat → Int32))}
theorem tFit_ok {ty : FieldType} {a : aV} {v : Value} (hE : xE E cs) (hv : yV E a v) (hf : tFit cs ty a = true) : tIsI a = true ∧ mFit ty v = true := by
  unfold tFit at hf
  split at hf
  · obtain ⟨x, rfl⟩ := yV_int2 hf hv
    exact ⟨hf, rfl⟩
  · rw [Bool.and_eq_true] at hf
    obtain ⟨h1, h2⟩ := hf
    obtain ⟨x, rfl⟩ := yV_int2 h1 hv
    have hb := tBd_N hE (yNi hv)
    generalize tBd cs a = p at hb h2
    obtain ⟨l, u⟩ := p
    simp only at hb h2
    rw [Bool.and_eq_true, ile_iff, ile_iff] at h2
    refine ⟨h1, ?_⟩
    unfold mFit
    simp only [Bool.or_eq_true, beq_iff_eq]
    rcases (show x.toInt = 0 ∨ x.toInt = 1 by omega) with hx | hx
    · left; exact Int32.toInt_inj.mp hx
    · right; exact Int32.toInt_inj.mp hx
  · cases hf
theorem tLs_ok {r : tLr} {y' pc' : Nat} {f : mRes} {v : Value} {st' : List Value} (hr : yLr xs E M v r) (hT : yTy M) (hf : f = mGo y' pc' lv (v :: st') M) (hL : yLv E al lv) (hS : yS E ast st') : yB xs E Ws f M (tLs r y' pc' al ast) := by
  obtain ⟨b, hb, X, h1, h2, h3⟩ := hr
  exact ⟨_, List.mem_map.mpr ⟨b, hb, rfl⟩, X, h1, lv, v :: st', M, hf, yLv_app hL, ⟨h2, yS_app hS⟩, ⟨hT, h3⟩, fun W _ => yFr_rf W M⟩
theorem tLdS_ok {i : aV} {x : Int32} {r : tLr} (hE : xE E cs) (hF : yF xs E h M) (hi : yN E i x.toInt) (h0 : E[0]? = some (xs.1 : Int)) (hl : xs.1 < 2 ^ 31) (hr : tLdS cs h i = some r) : ¬ (x < 0 ∨ xs.1 ≤ x.toNatClampNeg) ∧ yLr xs E M (.int (xs.2 x.toNatClampNeg)) r := by
  unfold tLdS at hr
  have hb := tBd_N hE hi
  have hpl : ∀ p, tPl cs 9999 i = some p → p.1 = 9999 ∧ yIx E p = some x.toInt := fun p hp => tPl_ok hE hi hp
  generalize tPl cs 9999 i = pp at hr hpl
  generalize tBd cs i = bb at hr hb
  obtain ⟨l, u⟩ := bb
  simp only at hr hb
  cases hz : (tIsI i && ile 0 l && tImp cs i (4, 0, 0, 0) (-1))
  · rw [hz] at hr; cases hr
  · rw [hz, cond_true] at hr
    simp only [Option.some.injEq] at hr
    subst hr
    rw [Bool.and_eq_true, Bool.and_eq_true, ile_iff] at hz
    have hlt := tImp_ok hE hi (yN4 h0) hz.2
    have hk : (x.toNatClampNeg : Int) = x.toInt := by
      show ((x.toInt.toNat : Nat) : Int) = x.toInt
      omega
    have hkn : x.toNatClampNeg < xs.1 := by omega
    have hx0 : ¬ x < 0 := by
      intro hlt
      rw [Int32.lt_iff_toInt_lt] at hlt
      have : (0 : Int32).toInt = 0 := rfl
      omega
    refine ⟨fun z => by rcases z with z | z; exact hx0 z; omega, ?_⟩
    generalize x.toNatClampNeg = k at hk hkn
    rw [← hk] at hpl
    have hrd : yRd xs M 9999 k = some (.int (xs.2 k)) := by unfold yRd; rw [if_pos rfl, if_pos hkn]
    split
    · exact tNw_ok hE hF (i32_lo _) (i32_hi _) (fun q e => by cases e)
    · next p =>
      obtain ⟨hp1, hp2⟩ := hpl p rfl
      have hrd' : yRd xs M p.1 k = some (.int (xs.2 k)) := by rw [hp1]; exact hrd
      split
      · next v hv => exact tOl_ok hE hF (yF_at (yF_find hF hv) hp2 rfl hrd') hp2 hrd'
      · exact tNw_ok hE hF (i32_lo _) (i32_hi _) (fun q e => by cases e; exact ⟨k, hp2, hrd'⟩)
set_option maxHeartbeats 4000000 in
theorem tOp5_ok (hE : xE E cs) (hL : yLv E al lv) (hS : yS E ast st) (hH : yH xs E h M) (hsc : ySc xs E sb sc) (hk : aChk own e = true) (hr : tOp5 sb Ws e cs y pc al ast h = some brs) : yB xs E Ws (mOp5 sc ini own y pc e.2.1 lv st M e.1) M brs := by
  obtain ⟨hT, hF⟩ := hH
  unfold tOp5 at hr
  split at hr
  · -- getfield
    next idx ci k r0 =>
    obtain ⟨o1, o2, hR, -⟩ := aChk_R (k := idx) rfl hk (by simp)
    split at hr
    · next r b1 b2 ast' =>
      cases hb : Nat.ble 9 r
      · rw [hb] at hr; cases hr
      · rw [hb, cond_true] at hr
        have h9 : 9 ≤ r := by simpa using hb
        split at hr
        · next ci' fts q hg hq =>
          cases hc : (Nat.beq ci' ci && Nat.blt k.toNat q.2.2)
          · rw [hc] at hr; cases hr
          · rw [hc, cond_true] at hr
            rw [Bool.and_eq_true] at hc
            have hci := Nat.eq_of_beq_eq_true hc.1
            have hkn : k.toNat < q.2.2 := by simpa [Nat.blt_eq] using hc.2
            subst hci
            split at hr
            · next ft hft =>
              cases hr
              obtain ⟨c, m, rfl, h1, h2⟩ := yS_cons hS
              have h1 := yV_ref h1
              subst h1
              obtain ⟨fs, hm, hfs⟩ := yTy_obj hT hg
              obtain ⟨w, hw, hwt⟩ := hfs.2 _ _ hft
              have hrd : yRd xs M (r - 9) k.toNat = some w := by rw [yRd_obj xs (tTy_lt hg) hm]; exact hw
              exact tLs_ok (tLf_ok hE hF hwt hrd) hT (by simp only [mOp5, hR, h9, and_self, if_true, hm, hq, hkn, hw]) hL h2
            · cases hr
        · cases hr
    · cases hr
  · -- putfield
    next idx ci k r0 =>
    obtain ⟨o1, o2, hR, -⟩ := aChk_R (k := idx) rfl hk (by simp)
    split at hr
    · next v r b1 b2 ast' =>
      cases hb : Nat.ble 9 r
      · rw [hb] at hr; cases hr
      · rw [hb, cond_true] at hr
        have h9 : 9 ≤ r := by simpa using hb
        split at hr
        · next ci' fts q ty hg hq hty =>
          cases hc : (Nat.beq ci' ci && Nat.blt k.toNat q.2.2 && tFit cs ty v && !(q.2.1 k.toNat).2.2.2)
          · rw [hc] at hr; cases hr
          · rw [hc, cond_true] at hr
            rw [Bool.and_eq_true, Bool.and_eq_true, Bool.and_eq_true, Bool.not_eq_true'] at hc
            obtain ⟨⟨⟨c1, c2⟩, c4⟩, c5⟩ := hc
            have hci := Nat.eq_of_beq_eq_true c1
            have hkn : k.toNat < q.2.2 := by simpa [Nat.blt_eq] using c2
            subst hci
            split at hr
            · next ft hft =>
              split at hr
              · next h' hh =>
                obtain ⟨w, m1, rfl, h1, h2⟩ := yS_cons hS
                obtain ⟨c, m, rfl, h3, h4⟩ := yS_cons h2
                have h3 := yV_ref h3
                subst h3
                obtain ⟨hI, hfit⟩ := tFit_ok hE h1 c4
                obtain ⟨x, rfl⟩ := yV_int2 hI h1
                obtain ⟨fs, hm, hfs⟩ := yTy_obj hT hg
                obtain ⟨t1, t2, t3⟩ := tSf_ok hE hF hT hg hm hfs hft h1 hh
                have hlen : k.toNat < fs.length := by rw [hfs.1]; exact (List.getElem?_eq_some_iff.mp hft).1
                refine tGoX_ok (X := []) (M' := M.set (r - 9) (.inr (ci', fs.set k.toNat (.int x)))) hr (by simpa using hE) ?_ (by simpa using hL) (by simpa using h4) (yH_app (X := []) ⟨t1, t2⟩) t3
                simp only [mOp5, hR, h9, and_self, if_true, hm, hq, hty]
                rw [if_pos ⟨trivial, hkn, hlen, hfit, Or.inl c5⟩]
              · cases hr
            · cases hr
        · cases hr
    · cases hr
  · -- iaload
    next rest =>
    split at hr
    · next i r b1 b2 ast' =>
      obtain ⟨w, m1, rfl, h1, h2⟩ := yS_cons hS
      obtain ⟨c, m, rfl, h3, h4⟩ := yS_cons h2
      have h3 := yV_ref h3
      subst h3
      cases hb0 : Nat.beq r 0
      · rw [hb0, cond_false] at hr
        have hr0 : ¬ r = 0 := fun z => by rw [z] at hb0; cases hb0
        cases hb : Nat.ble 9 r
        · rw [hb] at hr; cases hr
        · rw [hb, cond_true] at hr
          have h9 : 9 ≤ r := by simpa using hb
          split at hr
          · next l hl =>
            cases hr
            have hi : tIsI i = true := by
              unfold tLd at hl
              split at hl
              · generalize tBd cs i = bb at hl
                obtain ⟨a, z⟩ := bb
                simp only at hl
                cases hz : tIsI i
                · rw [hz] at hl; cases hl
                · rfl
              · cases hl
            obtain ⟨x, rfl⟩ := yV_int2 hi h1
            obtain ⟨n, f, hm, hx0, hxn, hlr⟩ := tLd_ok hE hF hT (yNi h1) hl
            have hno : ¬ (x < 0 ∨ n ≤ x.toNatClampNeg) := fun z => by rcases z with z | z; exact hx0 z; omega
            exact tLs_ok hlr hT (by simp only [mOp5, if_true, if_neg hr0, h9, hm, if_neg hno]) hL h4
          · cases hr
      · rw [hb0, cond_true] at hr
        have hr0 := Nat.eq_of_beq_eq_true hb0
        subst hr0
        cases hsb : sb
        · rw [hsb] at hr; cases hr
        · rw [hsb, cond_true] at hr
          obtain ⟨rfl, e0, e1⟩ := hsc hsb
          split at hr
          · next l hl =>
            cases hr
            have hi : tIsI i = true := by
              unfold tLdS at hl
              cases hz : tIsI i
              · rw [hz] at hl; cases hl
              · rfl
            obtain ⟨x, rfl⟩ := yV_int2 hi h1
            obtain ⟨hno, hlr⟩ := tLdS_ok hE hF (yNi h1) e0 e1 hl
            obtain ⟨xn, xf⟩ := xs
            exact tLs_ok hlr hT (by simp only [mOp5, if_true, if_neg hno]) hL h4
          · cases hr
    · cases hr
  · -- iastore
    next rest =>
    split at hr
    · next xa i r b1 b2 ast' =>
      obtain ⟨w0, m0, rfl, g1, g2⟩ := yS_cons hS
      obtain ⟨w, m1, rfl, h1, h2⟩ := yS_cons g2
      obtain ⟨c, m, rfl, h3, h4⟩ := yS_cons h2
      have h3 := yV_ref h3
      subst h3
      cases hb : Nat.ble 9 r
      · rw [hb] at hr; cases hr
      · rw [hb, cond_true] at hr
        have h9 : 9 ≤ r := by simpa using hb
        split at hr
        · next h' hh =>
          have hi : tIsI i = true ∧ tIsI xa = true := by
            unfold tSa at hh
            split at hh
            · cases hz : (tIsI i && tIsI xa)
              · rw [hz] at hh; cases hh
              · rw [Bool.and_eq_true] at hz; exact hz
            · cases hh
          obtain ⟨x, rfl⟩ := yV_int2 hi.1 h1
          obtain ⟨z, rfl⟩ := yV_int2 hi.2 g1
          obtain ⟨n, f, hm, hx0, hxn, t1, t2, t3⟩ := tSa_ok hE hF hT (yNi h1) (yNi g1) hh
          have hno : ¬ (x < 0 ∨ n ≤ x.toNatClampNeg) := fun z => by rcases z with z | z; exact hx0 z; omega
          refine tGoX_ok (X := []) (M' := M.set (r - 9) (.inl (n, upd f x.toNatClampNeg z))) hr (by simpa using hE) ?_ (by simpa using hL) (by simpa using h4) (yH_app (X := []) ⟨t1, t2⟩) t3
          simp only [mOp5, h9, and_self, if_true, hm, if_neg hno]
        · cases hr
    · cases hr
  · -- arraylength
    next rest =>
    split at hr
    · next r b1 b2 ast' =>
      obtain ⟨c, m, rfl, h3, h4⟩ := yS_cons hS
      have h3 := yV_ref h3
      subst h3
      cases hb0 : Nat.beq r 0
      · rw [hb0, cond_false] at hr
        have hr0 : ¬ r = 0 := fun z => by rw [z] at hb0; cases hb0
        cases hb : Nat.ble 9 r
        · rw [hb] at hr; cases hr
        · rw [hb, cond_true] at hr
          have h9 : 9 ≤ r := by simpa using hb
          split at hr
          · next n tag regs hg =>
            obtain ⟨f, hm, -⟩ := yTy_arr hT hg
            cases hb2 : Nat.blt n 2000000
            · rw [hb2] at hr; cases hr
            · rw [hb2, cond_true] at hr
              rw [Nat.blt_eq] at hb2
              refine tGo_ok hr hE (by simp only [mOp5, if_true, if_neg hr0, h9, hm]) hL (yS_mk (yV_kI E (Int32.toInt_ofNat_of_lt ?_)) h4) ⟨hT, hF⟩
              exact Nat.lt_of_lt_of_le hb2 (Nat.le_of_ble_eq_true rfl)
          · cases hr
      · rw [hb0, cond_true] at hr
        have hr0 := Nat.eq_of_beq_eq_true hb0
        subst hr0
        cases hsb : sb
        · rw [hsb] at hr; cases hr
        · rw [hsb, cond_true] at hr
          obtain ⟨rfl, e0, e1⟩ := hsc hsb
          obtain ⟨xn, xf⟩ := xs
          refine tGo_ok hr hE (by simp only [mOp5, if_true]) hL (yS_mk (v := .int (Int32.ofNat xn)) ⟨rfl, (xn : Int), e0, ?_⟩ h4) ⟨hT, hF⟩
          rw [Int32.toInt_ofNat_of_lt e1]; omega
    · cases hr
  · cases hr
theorem tCall_ok {rest vs : List aV} {rest' vs' : List Value} (hE : xE E cs) (hL : yLv E al lv) (hS : yS E rest rest') (hV : yS E vs vs') (hq : ∃ q, mjM e.2.2.2.1 = some q ∧ q.2.2.1 = e.2.2.2.2.2.2.1 ∧ q.2.2.2.2 = e.2.2.2.2.2.2.2) (hr : tCall e cs y pc al rest vs = some brs) :
    yB xs E Ws (mCall y pc lv rest' M e.2.2.2.1 vs') M brs := by
  obtain ⟨i, n, kd, y', v, np, mx, oc⟩ := e
  obtain ⟨q, hq1, hq2, hq3⟩ := hq
  simp only at hq1 hq2 hq3 ⊢
  unfold tCall at hr
  simp only at hr
  cases hb : (Nat.ble (aCats rest) 8 && Nat.ble (aCats vs) mx && Nat.ble mx 100 && !(Nat.beq oc 13))
  · rw [hb] at hr; cases hr
  · rw [hb, cond_true] at hr
    rw [Bool.and_eq_true, Bool.and_eq_true, Bool.and_eq_true, Nat.ble_eq, Nat.ble_eq, Nat.ble_eq] at hb
    obtain ⟨⟨⟨b1, b2⟩, b3⟩, b4⟩ := hb
    cases hr
    have h13 : q.2.2.2.2 ≠ 13 := by
      rw [hq3]
      intro z
      rw [z] at b4
      cases b4
    refine ⟨_, List.mem_cons_self, [], by simpa using hE, vs', lv, rest', ?_, by simpa using hV, by simpa using hL, by simpa using hS⟩
    unfold mCall
    rw [hq1]
    simp only
    rw [if_pos ⟨by rw [yS_cats hS]; exact b1, by rw [lg_sl_cat, yS_cats hV, hq2]; exact b2, by rw [hq2]; exact b3, h13⟩]
set_option maxHeartbeats 4000000 in
theorem tOp6_ok (hE : xE E cs) (hL : yLv E al lv) (hS : yS E ast st) (hH : yH xs E h M) (hk : aChk own e = true) (hr : tOp6 d e cs y pc al ast h = some brs) : yB xs E Ws (mOp6 d own y pc e.2.1 lv st M e.1) M brs := by
  unfold tOp6 at hr
  split at hr
  · -- virtual
    next idx y' v np mx oc =>
    obtain ⟨o1, o2, hR, hC⟩ := aChk_R (k := idx) rfl hk (by simp)
    obtain ⟨hnp, hq⟩ := hC (Nat.le_refl _) (by show 1 ≤ 5; omega)
    have hst := yS_take np hS
    split at hr
    · next r b1 b2 rest hdrop =>
      cases hb : (Nat.ble 9 r && Nat.ble np ast.length)
      · rw [hb] at hr; cases hr
      · rw [hb, cond_true] at hr
        rw [Bool.and_eq_true, Nat.ble_eq, Nat.ble_eq] at hb
        rw [hdrop] at hst
        obtain ⟨c, m, hd, h3, h4⟩ := yS_cons hst.2
        have h3 := yV_ref h3
        subst h3
        split at hr
        · next ci fs hg =>
          cases hb2 : Nat.beq ci oc
          · rw [hb2] at hr; cases hr
          · rw [hb2, cond_true] at hr
            have hci := Nat.eq_of_beq_eq_true hb2
            obtain ⟨fs', hm, hfs⟩ := yTy_obj hH.1 hg
            obtain ⟨q, hq1, hq2, hq3⟩ := id hq
            have hlen : np ≤ st.length := by rw [← yS_len hS]; exact hb.2
            have hci2 : ci = q.2.2.2.2 := by rw [hq3]; exact hci
            have hnp : mNp y' = some np := hnp
            have hq1 : mjM y' = some q := hq1
            have hf : mOp6 d own y pc 3 lv st M (.invokevirtual idx) = mCall y pc lv m M y' (.ref r :: (st.take np).reverse) := by
              simp only [mOp6, if_true, hR, hnp, hd]
              rw [if_pos ⟨hb.1, hlen⟩]
              simp only [hm, hq1]
              rw [if_pos hci2]
            rw [hf]
            exact tCall_ok hE hL h4 (yS_mk (yV_kR E r) (yS_rev hst.1)) hq hr
        · cases hr
    · cases hr
  · -- length
    next idx rest0 =>
    obtain ⟨o1, o2, hR, -⟩ := aChk_R (k := idx) rfl hk (by simp)
    split at hr
    · next r b1 b2 rest =>
      obtain ⟨c, m, rfl, h3, h4⟩ := yS_cons hS
      have h3 := yV_ref h3
      subst h3
      cases hb : (Nat.ble 1 r && Nat.blt r 9 && Nat.ble (aCats rest) 8 && Nat.ble 3 d)
      · rw [hb] at hr; cases hr
      · rw [hb, cond_true] at hr
        rw [Bool.and_eq_true, Bool.and_eq_true, Bool.and_eq_true, Nat.ble_eq, Nat.blt_eq, Nat.ble_eq, Nat.ble_eq] at hb
        obtain ⟨⟨⟨c1, c2⟩, c3⟩, c4⟩ := hb
        split at hr
        · next k hk2 =>
          have hlt : ∀ k ∈ mjLen, k < 2 ^ 31 := by decide
          refine tGo_ok hr hE ?_ hL (yS_mk (yV_kI E (Int32.toInt_ofNat_of_lt (hlt k (List.mem_of_getElem? hk2)))) h4) hH
          simp only [mOp6, if_true, hR]
          rw [if_pos ⟨c1, c2, by rw [yS_cats h4]; exact c3, c4⟩]
          simp only [hk2]
        · cases hr
    · cases hr
  · -- charAt
    next idx rest0 =>
    obtain ⟨o1, o2, hR, -⟩ := aChk_R (k := idx) rfl hk (by simp)
    split at hr
    · next i r b1 b2 rest =>
      obtain ⟨w, m1, rfl, h1, h2⟩ := yS_cons hS
      obtain ⟨c, m, rfl, h3, h4⟩ := yS_cons h2
      have h3 := yV_ref h3
      subst h3
      have hbI : tIsI i = true := by
        cases hz : tIsI i
        · rw [hz] at hr; cases hr
        · rfl
      obtain ⟨x, rfl⟩ := yV_int2 hbI h1
      have hbb := tBd_N hE (yNi h1)
      generalize tBd cs i = bb at hr hbb
      obtain ⟨l, u⟩ := bb
      simp only at hr hbb
      cases hb : (tIsI i && Nat.ble 1 r && Nat.blt r 9 && Nat.ble (aCats rest) 8 && Nat.ble 6 d && (ile 0 l && ilt u (Int.ofNat ((mjByt[r - 1]?).getD []).length)))
      · rw [hb] at hr; cases hr
      · rw [hb, cond_true] at hr
        rw [Bool.and_eq_true, Bool.and_eq_true, Bool.and_eq_true, Bool.and_eq_true, Bool.and_eq_true, Bool.and_eq_true, Nat.ble_eq, Nat.blt_eq, Nat.ble_eq, Nat.ble_eq, ile_iff, ilt_iff] at hb
        obtain ⟨⟨⟨⟨⟨c0, c1⟩, c2⟩, c3⟩, c4⟩, c5, c6⟩ := hb
        have hall : ∀ bs ∈ mjByt, ∀ b ∈ bs, 97 ≤ b.toInt ∧ b.toInt ≤ 122 := by decide +kernel
        generalize hbs : ((mjByt[r - 1]?).getD []) = bs at c6
        have hbs2 : bs ∈ mjByt := by
          cases hq : mjByt[r - 1]? with
          | none =>
            rw [hq] at hbs
            have : bs = [] := hbs.symm
            subst this
            simp at c6
            omega
          | some b' =>
            rw [hq] at hbs
            have : b' = bs := hbs
            subst this
            exact List.mem_of_getElem? hq
        have hof : (Int.ofNat bs.length : Int) = (bs.length : Int) := rfl
        have hk2 : (x.toNatClampNeg : Int) = x.toInt := by
          show ((x.toInt.toNat : Nat) : Int) = x.toInt
          omega
        have hlt : x.toNatClampNeg < bs.length := by omega
        have hx0 : ¬ x < 0 := by
          intro hlt
          rw [Int32.lt_iff_toInt_lt] at hlt
          have : (0 : Int32).toInt = 0 := rfl
          omega
        have hget : bs[x.toNatClampNeg]? = some bs[x.toNatClampNeg] := List.getElem?_eq_getElem hlt
        have hrng := hall bs hbs2 _ (List.getElem_mem hlt)
        refine tGo_ok hr hE ?_ hL (yS_mk (v := .int bs[x.toNatClampNeg]) (yI_2 E hrng.1 hrng.2 0) h4) hH
        simp only [mOp6, if_true, hR]
        rw [if_pos ⟨c1, c2, by rw [yS_cats h4]; exact c3, c4, hx0⟩, hbs]
        simp only [hget]
    · cases hr
  · -- static
    next idx y' v np r0 =>
    obtain ⟨o1, o2, hR, hC⟩ := aChk_R (k := idx) rfl hk (by simp)
    obtain ⟨hnp, hq⟩ := hC (by show 1 ≤ 2; omega) (by show 2 ≤ 5; omega)
    have hst := yS_take np hS
    cases hb : Nat.ble np ast.length
    · rw [hb] at hr; cases hr
    · rw [hb, cond_true] at hr
      rw [Nat.ble_eq] at hb
      have hlen : np ≤ st.length := by rw [← yS_len hS]; exact hb
      have hnp : mNp y' = some np := hnp
      have hf : mOp6 d own y pc 3 lv st M (.invokestatic idx) = mCall y pc lv (st.drop np) M y' (st.take np).reverse := by
        simp only [mOp6, if_true, hR, hnp]
        rw [if_pos hlen]
      rw [hf]
      exact tCall_ok hE hL hst.2 (yS_rev hst.1) hq hr
  · -- static of a nest mate
    next idx y' v np r0 =>
    obtain ⟨o1, o2, hR, hC⟩ := aChk_R (k := idx) rfl hk (by simp)
    obtain ⟨hnp, hq⟩ := hC (by show 1 ≤ 3; omega) (by show 3 ≤ 5; omega)
    have hst := yS_take np hS
    cases hb : Nat.ble np ast.length
    · rw [hb] at hr; cases hr
    · rw [hb, cond_true] at hr
      rw [Nat.ble_eq] at hb
      have hlen : np ≤ st.length := by rw [← yS_len hS]; exact hb
      have hnp : mNp y' = some np := hnp
      have hf : mOp6 d own y pc 3 lv st M (.invokestatic idx) = mCall y pc lv (st.drop np) M y' (st.take np).reverse := by
        simp only [mOp6, if_true, hR, hnp]
        rw [if_pos hlen]
      rw [hf]
      exact tCall_ok hE hL hst.2 (yS_rev hst.1) hq hr
  · -- max
    next idx r0 =>
    obtain ⟨o1, o2, hR, -⟩ := aChk_R (k := idx) rfl hk (by simp)
    split at hr
    · next b a rest =>
      cases hb : (tIsI a && tIsI b && Nat.ble (aCats rest) 8 && Nat.ble 1 d)
      · rw [hb] at hr; cases hr
      · rw [hb, cond_true] at hr
        rw [Bool.and_eq_true, Bool.and_eq_true, Bool.and_eq_true, Nat.ble_eq, Nat.ble_eq] at hb
        obtain ⟨⟨⟨c1, c2⟩, c3⟩, c4⟩ := hb
        obtain ⟨c, m, rfl, h1, h2⟩ := yS_cons hS
        obtain ⟨c0, m2, rfl, h3, h4⟩ := yS_cons h2
        obtain ⟨x, rfl⟩ := yV_int2 c2 h1
        obtain ⟨z, rfl⟩ := yV_int2 c1 h3
        simp only [Option.some.injEq] at hr
        subst hr
        have hf : mOp6 d own y pc 3 lv (.int x :: .int z :: m2) M (.invokestatic idx) = mGo y (pc + 3) lv (.int (if z < x then x else z) :: m2) M := by
          simp only [mOp6, if_true, hR]
          rw [if_pos ⟨by rw [yS_cats h4]; exact c3, c4⟩]
        by_cases hlt : z < x
        · rw [if_pos hlt] at hf
          have := Int32.lt_iff_toInt_lt.mp hlt
          obtain ⟨c', hc1, hc2⟩ := tLe_ok hE (yNi h3) (yNi h1) (d := -1) (by omega)
          exact tTo_l (tTo_ok hc1 hc2 hf hL (yS_mk h1 h4) hH)
        · rw [if_neg hlt] at hf
          have : ¬ z.toInt < x.toInt := fun q => hlt (Int32.lt_iff_toInt_lt.mpr q)
          obtain ⟨c', hc1, hc2⟩ := tLe_ok hE (yNi h1) (yNi h3) (d := 0) (by omega)
          exact tTo_r (tTo_ok hc1 hc2 hf hL (yS_mk h3 h4) hH)
    · cases hr
  · -- min
    next idx r0 =>
    obtain ⟨o1, o2, hR, -⟩ := aChk_R (k := idx) rfl hk (by simp)
    split at hr
    · next b a rest =>
      cases hb : (tIsI a && tIsI b && Nat.ble (aCats rest) 8 && Nat.ble 1 d)
      · rw [hb] at hr; cases hr
      · rw [hb, cond_true] at hr
        rw [Bool.and_eq_true, Bool.and_eq_true, Bool.and_eq_true, Nat.ble_eq, Nat.ble_eq] at hb
        obtain ⟨⟨⟨c1, c2⟩, c3⟩, c4⟩ := hb
        obtain ⟨c, m, rfl, h1, h2⟩ := yS_cons hS
        obtain ⟨c0, m2, rfl, h3, h4⟩ := yS_cons h2
        obtain ⟨x, rfl⟩ := yV_int2 c2 h1
        obtain ⟨z, rfl⟩ := yV_int2 c1 h3
        simp only [Option.some.injEq] at hr
        subst hr
        have hf : mOp6 d own y pc 3 lv (.int x :: .int z :: m2) M (.invokestatic idx) = mGo y (pc + 3) lv (.int (if x < z then x else z) :: m2) M := by
          simp only [mOp6, if_true, hR]
          rw [if_pos ⟨by rw [yS_cats h4]; exact c3, c4⟩]
        by_cases hlt : x < z
        · rw [if_pos hlt] at hf
          have := Int32.lt_iff_toInt_lt.mp hlt
          obtain ⟨c', hc1, hc2⟩ := tLe_ok hE (yNi h1) (yNi h3) (d := -1) (by omega)
          exact tTo_l (tTo_ok hc1 hc2 hf hL (yS_mk h1 h4) hH)
        · rw [if_neg hlt] at hf
          have : ¬ x.toInt < z.toInt := fun q => hlt (Int32.lt_iff_toInt_lt.mpr q)
          obtain ⟨c', hc1, hc2⟩ := tLe_ok hE (yNi h3) (yNi h1) (d := 0) (by omega)
          exact tTo_r (tTo_ok hc1 hc2 hf hL (yS_mk h3 h4) hH)
    · cases hr
  · -- special
    next idx y' v np r0 =>
    obtain ⟨o1, o2, hR, hC⟩ := aChk_R (k := idx) rfl hk (by simp)
    obtain ⟨hnp, hq⟩ := hC (by show 1 ≤ 4; omega) (by show 4 ≤ 5; omega)
    have hst := yS_take np hS
    split at hr
    · next r b1 b2 rest hdrop =>
      cases hb : Nat.ble np ast.length
      · rw [hb] at hr; cases hr
      · rw [hb, cond_true] at hr
        rw [Nat.ble_eq] at hb
        rw [hdrop] at hst
        obtain ⟨c, m, hd, h3, h4⟩ := yS_cons hst.2
        have h3 := yV_ref h3
        subst h3
        have hlen : np ≤ st.length := by rw [← yS_len hS]; exact hb
        have hnp : mNp y' = some np := hnp
        have hf : mOp6 d own y pc 3 lv st M (.invokespecial idx) = mCall y pc lv m M y' (.ref r :: (st.take np).reverse) := by
          simp only [mOp6, if_true, hR, hnp, hd]
          rw [if_pos hlen]
        rw [hf]
        exact tCall_ok hE hL h4 (yS_mk (yV_kR E r) (yS_rev hst.1)) hq hr
    · cases hr
  · -- special of a nest mate
    next idx y' v np r0 =>
    obtain ⟨o1, o2, hR, hC⟩ := aChk_R (k := idx) rfl hk (by simp)
    obtain ⟨hnp, hq⟩ := hC (by show 1 ≤ 5; omega) (Nat.le_refl _)
    have hst := yS_take np hS
    split at hr
    · next r b1 b2 rest hdrop =>
      cases hb : Nat.ble np ast.length
      · rw [hb] at hr; cases hr
      · rw [hb, cond_true] at hr
        rw [Nat.ble_eq] at hb
        rw [hdrop] at hst
        obtain ⟨c, m, hd, h3, h4⟩ := yS_cons hst.2
        have h3 := yV_ref h3
        subst h3
        have hlen : np ≤ st.length := by rw [← yS_len hS]; exact hb
        have hnp : mNp y' = some np := hnp
        have hf : mOp6 d own y pc 3 lv st M (.invokespecial idx) = mCall y pc lv m M y' (.ref r :: (st.take np).reverse) := by
          simp only [mOp6, if_true, hR, hnp, hd]
          rw [if_pos hlen]
        rw [hf]
        exact tCall_ok hE hL h4 (yS_mk (yV_kR E r) (yS_rev hst.1)) hq hr
    · cases hr
  · -- Object's
    next idx r0 =>
    obtain ⟨o1, o2, hR, -⟩ := aChk_R (k := idx) rfl hk (by simp)
    split at hr
    · next r b1 b2 rest =>
      cases hb : (Nat.ble (aCats rest) 8 && Nat.ble 1 d)
      · rw [hb] at hr; cases hr
      · rw [hb, cond_true] at hr
        rw [Bool.and_eq_true, Nat.ble_eq, Nat.ble_eq] at hb
        obtain ⟨c, m, rfl, h3, h4⟩ := yS_cons hS
        have h3 := yV_ref h3
        subst h3
        refine tGo_ok hr hE ?_ hL h4 hH
        simp only [mOp6, if_true, hR]
        rw [if_pos ⟨by rw [yS_cats h4]; exact hb.1, hb.2⟩]
    · cases hr
  · cases hr
theorem tOp7_ok {rt : Option FieldType} (hE : xE E cs) (hS : yS E ast st) (hr : tOp7 rt e cs ast = some brs) : yB xs E Ws (mOp7 rt e.2.1 st e.1) M brs := by
  obtain ⟨i, n, rest⟩ := e
  unfold tOp7 at hr
  simp only at hr ⊢
  split at hr
  · next v =>
    cases hb : tIsI v
    · rw [hb] at hr; cases hr
    · rw [hb, cond_true] at hr
      cases hr
      obtain ⟨c, m, rfl, h3, h4⟩ := yS_cons hS
      obtain ⟨x, rfl⟩ := yV_int2 hb h3
      have := yS_nil h4
      subst this
      refine ⟨_, List.mem_cons_self, [], by simpa using hE, some (.int x), ?_, yV_app (X := []) h3⟩
      simp only [mOp7, if_true]
      rw [if_pos (show narrow .int (.int x) = .int x from rfl)]
  · next v =>
    cases hb : tFit cs .boolean v
    · rw [hb] at hr; cases hr
    · rw [hb, cond_true] at hr
      cases hr
      obtain ⟨c, m, rfl, h3, h4⟩ := yS_cons hS
      obtain ⟨hb2, hf⟩ := tFit_ok hE h3 hb
      obtain ⟨x, rfl⟩ := yV_int2 hb2 h3
      have := yS_nil h4
      subst this
      have hf2 : (x == 0 || x == 1) = true := hf
      simp only [Bool.or_eq_true, beq_iff_eq] at hf2
      refine ⟨_, List.mem_cons_self, [], by simpa using hE, some (.int x), ?_, yV_app (X := []) h3⟩
      simp only [mOp7, if_true]
      have h0 : narrow .boolean (.int 0) = .int 0 := by decide +kernel
      have h1 : narrow .boolean (.int 1) = .int 1 := by decide +kernel
      rcases hf2 with rfl | rfl
      · rw [if_pos h0]
      · rw [if_pos h1]
  · cases hr
    have := yS_nil hS
    subst this
    exact ⟨_, List.mem_cons_self, [], by simpa using hE, none, by simp only [mOp7, if_true], trivial⟩
  · next r b1 b2 nm =>
    cases hr
    obtain ⟨c, m, rfl, h3, h4⟩ := yS_cons hS
    have h3 := yV_ref h3
    subst h3
    have := yS_nil h4
    subst this
    exact ⟨_, List.mem_cons_self, [], by simpa using hE, some (.ref r), by simp only [mOp7, if_true], yV_app (X := []) h3⟩
  · cases hr
end TOKB
