/-! HAND: text -/
def txP (y pc : Nat) : Option (tAn ⊕ Option Nat) := bif Nat.beq y 319 && (Nat.beq pc 10 || Nat.beq pc 62) then some (.inr none) else none
def txA : Bool := tCk (txP, []) 400 140 [[]] (319, 0, [(0, kR 128), (1, (4, 0, 0, 0))], []) [] ([(-2147483648, 2147483647)], []) (fun lf => lAt 319 10 [] [(0, kR 128), (1, (4, 0, 0, 0))] lf && lL 2 0 1 lf)
def txB : Bool := tCk (txP, []) 400 140 [[]] (319, 15, [(0, kR 128), (1, (4, 0, 0, 0)), (2, (4, 1, 0, 0)), (3, (4, 2, 0, 0))], []) [] ([(-2147483648, 2147483647), (0, 1), (-1, 3)], []) (fun lf => lRes (-2147483648) 2147483647 lf || (lAt 319 62 [] [(0, kR 128), (1, (4, 0, 0, 0)), (3, (4, 2, 0, 0)), (4, (8, 3, 1010, 200))] lf && lL 3 0 3 lf && lF 120 6 (4, 3, 0, 0) lf && lFB 120 6 0 11 lf))
theorem txA_ok : txA = true := by decide +kernel
theorem txB_ok : txB = true := by decide +kernel
/-- a text's head written: key, hour, words, steps; one text more -/
def txF (f : Nat → Int32) (t : Nat) (k h w l n : Int32) : Nat → Int32 := upd (upd (upd (upd (upd f (1010 + 200 * t + 0) k) (1010 + 200 * t + 1) h) (1010 + 200 * t + 2) w) (1010 + 200 * t + 3) l) 6 n
theorem txF_ne {f : Nat → Int32} {t : Nat} {k h w l n : Int32} {i : Nat} (h6 : i ≠ 6) (hi : i < 1010 + 200 * t ∨ 1010 + 200 * t + 3 < i) : txF f t k h w l n i = f i := by
  unfold txF
  rw [upd_ne _ n h6, upd_ne _ l (by omega), upd_ne _ w (by omega), upd_ne _ h (by omega), upd_ne _ k (by omega)]
theorem txF_3 {f : Nat → Int32} {t : Nat} {k h w l n : Int32} : txF f t k h w l n (1010 + 200 * t + 3) = l := by
  unfold txF
  rw [upd_ne _ n (by omega), upd_same]
theorem txF_yT {f : Nat → Int32} {t : Nat} {k h w l n : Int32} (hf : yT tRegS 4000 f) (ht : t < 12) (hk : 0 ≤ k.toInt ∧ k.toInt ≤ 3) (hl : 0 ≤ l.toInt ∧ l.toInt ≤ 96) (hn : 0 ≤ n.toInt ∧ n.toInt ≤ 12) : yT tRegS 4000 (txF f t k h w l n) := by
  have q : ∀ o : Nat, o < 4 → ∀ p, some ((120, 0, 1010 + (o : Int), 200) : tP) = some p → yIx [(t : Int)] p = some ((1010 + 200 * t + o : Nat) : Int) := fun o ho p hp => by
    cases hp
    show some ((t : Int) * Int.ofNat 200 + (1010 + (o : Int))) = _
    exact congrArg some (by show (t : Int) * 200 + (1010 + (o : Int)) = _; omega)
  have b : ∀ o : Nat, o < 4 → (1010 + (o : Int)) ≤ ((1010 + 200 * t + o : Nat) : Int) ∧ ((1010 + 200 * t + o : Nat) : Int) ≤ 3210 + (o : Int) := fun o ho => by omega
  have h0 := tWr_ok (n := 4000) (regs := tRegS) (b 0 (by omega)).1 (b 0 (by omega)).2 (q 0 (by omega)) (x := k) hk hf (by decide +kernel)
  have h1 := tWr_ok (n := 4000) (regs := tRegS) (b 1 (by omega)).1 (b 1 (by omega)).2 (q 1 (by omega)) (x := h) ⟨i32_lo h, i32_hi h⟩ h0 (by decide +kernel)
  have h2 := tWr_ok (n := 4000) (regs := tRegS) (b 2 (by omega)).1 (b 2 (by omega)).2 (q 2 (by omega)) (x := w) ⟨i32_lo w, i32_hi w⟩ h1 (by decide +kernel)
  have h3 := tWr_ok (n := 4000) (regs := tRegS) (b 3 (by omega)).1 (b 3 (by omega)).2 (q 3 (by omega)) (x := l) hl h2 (by decide +kernel)
  exact tWr_ok (n := 4000) (regs := tRegS) (l := 6) (h := 6) (k := 6) (E := []) (p := some (120, 0, 6, 0)) (by decide) (by decide) (fun p hp => by cases hp; rfl) (x := n) hn h3 (by decide +kernel)
theorem txF_yP {f : Nat → Int32} {t m : Nat} {k h w l n : Int32} {dd : Int} {M : mHe} (hs : M[120]? = some (.inl (4000, f))) (hP : yP f) (ht : t < 12) (h6 : (f 6).toInt = (t : Int)) (hn : n.toInt = (t : Int) + 1) (hl : l.toInt = (m : Int)) (hm : m ≤ 96) (hr : rp M (1014 + 200 * t) m dd) : yP (txF f t k h w l n) := by
  obtain ⟨p1, p2, p3, p4⟩ := hP
  have hlo : ∀ j, 160 ≤ j → j < 1010 → txF f t k h w l n j = f j := fun j _ hj => txF_ne (by omega) (by omega)
  have h5 : txF f t k h w l n 5 = f 5 := txF_ne (by omega) (by omega)
  have e6 : txF f t k h w l n 6 = n := by unfold txF; rw [upd_same]
  refine ⟨by rw [h5]; exact p1, fun j hj => ?_, by rw [e6]; omega, fun t' ht' => ?_⟩
  · rw [h5] at hj
    exact yPap_same hlo (by omega) (p2 j hj)
  · rw [e6]
    obtain ⟨q1, q2⟩ := p4 t' ht'
    by_cases e : t' = t
    · subst e
      rw [txF_3]
      refine ⟨?_, fun z => by omega⟩
      unfold yTx1
      rw [txF_3]
      obtain ⟨dep, r0, r1, r2⟩ := hr
      refine ⟨by omega, dep, r0, fun j hj => ?_⟩
      obtain ⟨a, c, a1, c1, s⟩ := r1 j (by omega)
      rw [yRd_arr _ (by decide) hs (by omega)] at a1 c1
      cases a1; cases c1
      rw [txF_ne (by omega) (by omega), txF_ne (by omega) (by omega)]
      have i1 : 1010 + 200 * t' + 4 + 2 * j = 1014 + 200 * t' + 2 * j := by omega
      have i2 : 1010 + 200 * t' + 4 + 2 * j + 1 = 1014 + 200 * t' + 2 * j + 1 := by omega
      rw [i1]
      exact s
    · have hm3 : txF f t k h w l n (1010 + 200 * t' + 3) = f (1010 + 200 * t' + 3) := txF_ne (by omega) (by omega)
      rw [hm3]
      refine ⟨?_, fun z => q2 (by omega)⟩
      unfold yTx1 at q1 ⊢
      rw [hm3]
      obtain ⟨r1, dep, r2, r3⟩ := q1
      refine ⟨r1, dep, r2, fun j hj => ?_⟩
      rw [txF_ne (by omega) (by omega), txF_ne (by omega) (by omega)]
      exact r3 j hj
theorem text_run (hT : aTabOk) {M : mHe} (hM : yTy M) (a : Int32) : mEv none 140 (319, 0, lv_args 0 [.ref 128, .int a], []) M (fun r M' => ∃ x : Int32, r = some (.int x) ∧ yTy M' ∧ yFr ((120, 6, 6, 1, 0) :: pZ) M M' ∧ yRd x00 M' 119 14 = some (.int 0)) := by
  have up : ∀ {A B : mHe}, yFr pZ A B → yFr ((120, 6, 6, 1, 0) :: pZ) A B := fun {A B} h => yFr_mono (fun g hg c k hy => ⟨g, List.mem_cons_of_mem _ hg, hy⟩) h
  have hA := txA_ok
  unfold txA at hA
  have hE : xE [a.toInt] ([(-2147483648, 2147483647)], []) := by
    refine xE_of_list rfl (fun i l u e hb he => ?_)
    match i with
    | 0 => cases hb; cases he; exact ⟨⟨i32_lo _, i32_hi _⟩, i32_lo _, i32_hi _⟩
    | i + 1 => simp at hb
  obtain ⟨lf, f1, f2⟩ := tSegC (xs := x00) hT (fun ct hct => by cases hct) hA hE (clv := lv_args 0 [.ref 128, .int a]) (yLv_cons rfl (yV_kR _ _) (yLv_cons rfl (yV_atom rfl) (yLv_nil _ _))) (cst := []) (show yS _ [] [] from trivial) ⟨hM, fun q hq => by cases hq⟩
  rw [Bool.and_eq_true] at f1
  obtain ⟨X, lv, st, M1, m1, m2, m3, m4, m5, m6, m7⟩ := lAt_ok f1.1 f2
  obtain ⟨g, l2, g1, g2⟩ := m5 _ _ _ f1.2
  have l0 : mlg 0 lv = some (.ref 128) := loc_r m4 (by simp)
  obtain ⟨a', l1, z1⟩ := loc_i (k := 1) (i := 0) (a := 0) (e := a.toInt) m4 (by simp) rfl
  have hst := yS_nil m3
  subst hst
  refine e_then m2 ?_
  have hfr1 : yFr ((120, 6, 6, 1, 0) :: pZ) M M1 := fun xs c k _ => yFr_nil (m7 _ (List.mem_singleton_self _)) c k
  obtain ⟨N2, r2, M2, n1, x, rfl, n2, n3, n4, n5, n6⟩ := parse_run hT m6.1
  have n1 := mRun_dm n1 (show 130 ≤ 139 by decide)
  obtain ⟨fo, hmo, -⟩ := yTy_obj m6.1 (rfl : tTy 119 = some (.inr (12, _)))
  have hfr2 := yFr_tr hfr1 (up n4)
  refine e_then (e_al1 hT (y := 319) (pc := 10) (q := (yX12_text, cX12_text, 5, (some .int), 12)) rfl (show aTab 319 10 = some (.aload_n 0, 1, 0, 0, 0, 0, 0, 0) from rfl) rfl l0) ?_
  refine e_then (e_call hT (y := 319) (pc := 11) (q := (yX12_text, cX12_text, 5, (some .int), 12)) rfl (show aTab 319 11 = some (.invokevirtual 330, 3, 1, 318, 0, 0, 3, 12) from rfl) rfl ⟨by decide, Nat.le_of_ble_eq_true rfl⟩ hmo (Nat.le_of_ble_eq_true rfl) (Nat.le_of_ble_eq_true rfl) ⟨by decide, by decide⟩ n1) ?_
  refine e_then (e_is1 hT (y := 319) (pc := 14) (q := (yX12_text, cX12_text, 5, (some .int), 12)) rfl (show aTab 319 14 = some (.istore_n 3, 1, 0, 0, 0, 0, 0, 0) from rfl) ⟨rfl, by decide⟩) ?_
  have hA := txB_ok
  unfold txB at hA
  have hE : xE [a'.toInt, g.toInt, x.toInt] ([(-2147483648, 2147483647), (0, 1), (-1, 3)], []) := by
    refine xE_of_list rfl (fun i l u e hb he => ?_)
    match i with
    | 0 => cases hb; cases he; exact ⟨⟨i32_lo _, i32_hi _⟩, i32_lo _, i32_hi _⟩
    | 1 => cases hb; cases he; exact ⟨⟨g1, g2⟩, i32_lo _, i32_hi _⟩
    | 2 => cases hb; cases he; exact ⟨n2, i32_lo _, i32_hi _⟩
    | i + 3 => simp at hb
  have hL : yLv [a'.toInt, g.toInt, x.toInt] [(0, kR 128), (1, (4, 0, 0, 0)), (2, (4, 1, 0, 0)), (3, (4, 2, 0, 0))] (mlp 3 (.int x) lv) := yLv_cons (mlg_r l0 (by decide)) (yV_kR _ _) (yLv_cons (mlg_i l1 (by decide)) (yV_atom rfl) (yLv_cons (mlg_i l2 (by decide)) (yV_atom rfl) (yLv_cons (mlg_eq 3 _ _) (yV_atom rfl) (yLv_nil _ _))))
  obtain ⟨lf, f1, f2⟩ := tSegC (xs := x00) hT (fun ct hct => by cases hct) hA hE hL (cst := []) (show yS _ [] [] from trivial) ⟨n3, fun q hq => by cases hq⟩
  simp only [Bool.or_eq_true, Bool.and_eq_true] at f1
  rcases f1 with f1 | ⟨⟨⟨f1, f3⟩, f4⟩, f5⟩
  · obtain ⟨X, N, y, M', m1, m2, m3, m4, m5⟩ := lRes_ok f1 f2
    exact ⟨N, _, M', m2, y, rfl, m4.1, yFr_tr hfr2 (fun xs c k _ => yFr_nil (m5 _ (List.mem_singleton_self _)) c k), (yFr_nil (m5 _ (List.mem_singleton_self _)) 119 14).trans n6⟩
  · obtain ⟨X, lv3, st, M3, m1, m2, m3, m4, m5, m6, m7⟩ := lAt_ok f1 f2
    have hst := yS_nil m3
    subst hst
    have h7 : ∀ c k, yRd x00 M3 c k = yRd x00 M2 c k := fun c k => yFr_nil (m7 _ (List.mem_singleton_self _)) c k
    have l0 : mlg 0 lv3 = some (.ref 128) := loc_r m4 (by simp)
    obtain ⟨a2, l1, z2⟩ := loc_i (k := 1) (i := 0) (a := 0) (e := a'.toInt) m4 (by simp) rfl
    obtain ⟨x2, l3, y1, y2⟩ := m5 _ _ _ f3
    obtain ⟨x3, l3', z3⟩ := loc_i (k := 3) (i := 2) (a := 0) (e := x.toInt) m4 (by simp) rfl
    rw [l3] at l3'
    cases l3'
    obtain ⟨nv, v1, v2, v3⟩ := lFB_ok (k := 6) f5 m1 m6
    obtain ⟨c4, l4, w4⟩ := m4 (4, (8, 3, 1010, 200)) (by simp)
    obtain ⟨tv, rfl, w5⟩ := yV_int rfl w4
    obtain ⟨e, e1, -, e2⟩ := w5.2
    obtain ⟨c6, v4, w6⟩ := lF_ok (k := 6) f4 m6
    rw [v1] at v4
    cases v4
    obtain ⟨e', e3, e4⟩ := w6.2
    rw [e1] at e3
    cases e3
    obtain ⟨b, m, lx, dd, ⟨xb, xb1, xb2⟩, r2, r3, r4, r5⟩ := n5 (by omega)
    rw [← h7, v1] at xb1
    cases xb1
    have hb : b = 1014 + 200 * nv.toInt.toNat := by
      rcases xb2 with ⟨xb2, xb3⟩ | ⟨t, t1, t2, t3⟩ <;> omega
    subst hb
    obtain ⟨t, ht⟩ : ∃ t : Nat, nv.toInt.toNat = t := ⟨_, rfl⟩
    rw [ht] at r5
    have htv : tv.toInt = 1010 + 200 * (t : Int) := by omega
    have hnv : nv.toInt = (t : Int) := by omega
    have r5 : rp M3 (1014 + 200 * t) m dd := rp_same (fun i => h7 120 i) r5
    have r2 : fld M3 22 lx := by unfold fld; rw [h7]; exact r2
    obtain ⟨sd, sd1, -⟩ := fld_bd m6.1 (k := 24) (z := 0) (lo := -2147483648) (hi := 2147483647) rfl
    obtain ⟨f, hs, hf, hP⟩ := yTy_arr m6.1 tTy_120
    have hP := hP rfl
    obtain ⟨fo3, hmo3, hfo3⟩ := yTy_obj m6.1 (rfl : tTy 119 = some (.inr (12, _)))
    have f0 : fo3[0]? = some (.ref 129) := by
      obtain ⟨v, q1, q2⟩ := hfo3.2 0 _ rfl
      have q2 : v = .ref 129 := q2
      rw [q2] at q1
      exact q1
    have f22 := fld_fs hmo3 r2
    have f24 := fld_fs hmo3 sd1
    have e6 : f 6 = nv := by
      rw [yRd_arr _ (by decide) hs (by decide)] at v1
      cases v1
      rfl
    have hlt := (List.getElem?_eq_some_iff.mp hs).1
    have gs : ∀ F : Nat → Int32, (M3.set 120 (.inl (4000, F)))[120]? = some (.inl (4000, F)) := fun F => List.getElem?_set_self hlt
    have gm : ∀ F : Nat → Int32, (M3.set 120 (.inl (4000, F)))[119]? = some (.inr (12, fo3)) := fun F => by rw [List.getElem?_set_ne (by decide)]; exact hmo3
    have ix : ∀ (o : Nat) (y : Int32), y.toInt = (o : Int) → o < 4 → (tv + y).toInt = ((1010 + 200 * t + o : Nat) : Int) := fun o y hy ho => i32_p htv hy (by omega) (by omega)
    have ixn : ∀ (o : Nat) (y : Int32), y.toInt = (o : Int) → o < 4 → (tv + y).toInt.toNat = 1010 + 200 * t + o := fun o y hy ho => by rw [ix o y hy ho]; rfl
    have ib : ∀ (o : Nat) (y : Int32), y.toInt = (o : Int) → o < 4 → 0 ≤ (tv + y).toInt ∧ (tv + y).toInt < (4000 : Nat) := fun o y hy ho => by rw [ix o y hy ho]; omega
    have i6 : 0 ≤ (6 : Int32).toInt ∧ (6 : Int32).toInt < (4000 : Nat) := by decide
    have i6n : (6 : Int32).toInt.toNat = 6 := rfl
    refine e_then m2 ?_
    refine e_then (e_al1 hT (y := 319) (pc := 62) (q := (yX12_text, cX12_text, 5, (some .int), 12)) rfl (show aTab 319 62 = some (.aload_n 0, 1, 0, 0, 0, 0, 0, 0) from rfl) rfl l0) ?_
    refine e_then (e_getf hT (y := 319) (pc := 63) (q := (yX12_text, cX12_text, 5, (some .int), 12)) rfl (show aTab 319 63 = some (.getfield 7, 3, 0, 12, 0, 0, 0, 0) from rfl) rfl (by decide) (by decide) hmo3 f0) ?_
    refine e_then (e_il2 hT (y := 319) (pc := 66) (q := (yX12_text, cX12_text, 5, (some .int), 12)) rfl (show aTab 319 66 = some (.iload 4, 2, 0, 0, 0, 0, 0, 0) from rfl) rfl l4) ?_
    refine e_then (e_st hT (y := 319) (pc := 68) (q := (yX12_text, cX12_text, 5, (some .int), 12)) rfl (show aTab 319 68 = some (.iconst 0, 1, 0, 0, 0, 0, 0, 0) from rfl) (fr' := (319, 69, lv3, [.int 0, .int tv, .ref 129])) (M' := M3) rfl) ?_
    refine e_then (e_st hT (y := 319) (pc := 69) (q := (yX12_text, cX12_text, 5, (some .int), 12)) rfl (show aTab 319 69 = some (.iadd, 1, 0, 0, 0, 0, 0, 0) from rfl) (fr' := (319, 70, lv3, [.int (tv + 0), .ref 129])) (M' := M3) rfl) ?_
    refine e_then (e_il1 hT (y := 319) (pc := 70) (q := (yX12_text, cX12_text, 5, (some .int), 12)) rfl (show aTab 319 70 = some (.iload_n 3, 1, 0, 0, 0, 0, 0, 0) from rfl) rfl l3) ?_
    refine e_then (e_ast hT (y := 319) (pc := 71) (q := (yX12_text, cX12_text, 5, (some .int), 12)) rfl (show aTab 319 71 = some (.iastore, 1, 0, 0, 0, 0, 0, 0) from rfl) ⟨rfl, by omega⟩ hs (ib 0 0 rfl (by decide))) ?_
    rw [ixn 0 0 rfl (by decide)]
    refine e_then (e_al1 hT (y := 319) (pc := 72) (q := (yX12_text, cX12_text, 5, (some .int), 12)) rfl (show aTab 319 72 = some (.aload_n 0, 1, 0, 0, 0, 0, 0, 0) from rfl) rfl l0) ?_
    refine e_then (e_getf hT (y := 319) (pc := 73) (q := (yX12_text, cX12_text, 5, (some .int), 12)) rfl (show aTab 319 73 = some (.getfield 7, 3, 0, 12, 0, 0, 0, 0) from rfl) rfl (by decide) (by decide) (gm (upd (f) (1010 + 200 * t + 0) x2)) f0) ?_
    refine e_then (e_il2 hT (y := 319) (pc := 76) (q := (yX12_text, cX12_text, 5, (some .int), 12)) rfl (show aTab 319 76 = some (.iload 4, 2, 0, 0, 0, 0, 0, 0) from rfl) rfl l4) ?_
    refine e_then (e_st hT (y := 319) (pc := 78) (q := (yX12_text, cX12_text, 5, (some .int), 12)) rfl (show aTab 319 78 = some (.iconst 1, 1, 0, 0, 0, 0, 0, 0) from rfl) (fr' := (319, 79, lv3, [.int 1, .int tv, .ref 129])) (M' := (M3.set 120 (.inl (4000, upd (f) (1010 + 200 * t + 0) x2)))) rfl) ?_
    refine e_then (e_st hT (y := 319) (pc := 79) (q := (yX12_text, cX12_text, 5, (some .int), 12)) rfl (show aTab 319 79 = some (.iadd, 1, 0, 0, 0, 0, 0, 0) from rfl) (fr' := (319, 80, lv3, [.int (tv + 1), .ref 129])) (M' := (M3.set 120 (.inl (4000, upd (f) (1010 + 200 * t + 0) x2)))) rfl) ?_
    refine e_then (e_il1 hT (y := 319) (pc := 80) (q := (yX12_text, cX12_text, 5, (some .int), 12)) rfl (show aTab 319 80 = some (.iload_n 1, 1, 0, 0, 0, 0, 0, 0) from rfl) rfl l1) ?_
    refine e_then (e_ast hT (y := 319) (pc := 81) (q := (yX12_text, cX12_text, 5, (some .int), 12)) rfl (show aTab 319 81 = some (.iastore, 1, 0, 0, 0, 0, 0, 0) from rfl) ⟨rfl, by omega⟩ (gs (upd (f) (1010 + 200 * t + 0) x2)) (ib 1 1 rfl (by decide))) ?_
    rw [ixn 1 1 rfl (by decide), List.set_set]
    refine e_then (e_al1 hT (y := 319) (pc := 82) (q := (yX12_text, cX12_text, 5, (some .int), 12)) rfl (show aTab 319 82 = some (.aload_n 0, 1, 0, 0, 0, 0, 0, 0) from rfl) rfl l0) ?_
    refine e_then (e_getf hT (y := 319) (pc := 83) (q := (yX12_text, cX12_text, 5, (some .int), 12)) rfl (show aTab 319 83 = some (.getfield 7, 3, 0, 12, 0, 0, 0, 0) from rfl) rfl (by decide) (by decide) (gm (upd (upd (f) (1010 + 200 * t + 0) x2) (1010 + 200 * t + 1) a2)) f0) ?_
    refine e_then (e_il2 hT (y := 319) (pc := 86) (q := (yX12_text, cX12_text, 5, (some .int), 12)) rfl (show aTab 319 86 = some (.iload 4, 2, 0, 0, 0, 0, 0, 0) from rfl) rfl l4) ?_
    refine e_then (e_st hT (y := 319) (pc := 88) (q := (yX12_text, cX12_text, 5, (some .int), 12)) rfl (show aTab 319 88 = some (.iconst 2, 1, 0, 0, 0, 0, 0, 0) from rfl) (fr' := (319, 89, lv3, [.int 2, .int tv, .ref 129])) (M' := (M3.set 120 (.inl (4000, upd (upd (f) (1010 + 200 * t + 0) x2) (1010 + 200 * t + 1) a2)))) rfl) ?_
    refine e_then (e_st hT (y := 319) (pc := 89) (q := (yX12_text, cX12_text, 5, (some .int), 12)) rfl (show aTab 319 89 = some (.iadd, 1, 0, 0, 0, 0, 0, 0) from rfl) (fr' := (319, 90, lv3, [.int (tv + 2), .ref 129])) (M' := (M3.set 120 (.inl (4000, upd (upd (f) (1010 + 200 * t + 0) x2) (1010 + 200 * t + 1) a2)))) rfl) ?_
    refine e_then (e_al1 hT (y := 319) (pc := 90) (q := (yX12_text, cX12_text, 5, (some .int), 12)) rfl (show aTab 319 90 = some (.aload_n 0, 1, 0, 0, 0, 0, 0, 0) from rfl) rfl l0) ?_
    refine e_then (e_getf hT (y := 319) (pc := 91) (q := (yX12_text, cX12_text, 5, (some .int), 12)) rfl (show aTab 319 91 = some (.getfield 307, 3, 0, 12, 24, 0, 0, 0) from rfl) rfl (by decide) (by decide) (gm (upd (upd (f) (1010 + 200 * t + 0) x2) (1010 + 200 * t + 1) a2)) f24) ?_
    refine e_then (e_ast hT (y := 319) (pc := 94) (q := (yX12_text, cX12_text, 5, (some .int), 12)) rfl (show aTab 319 94 = some (.iastore, 1, 0, 0, 0, 0, 0, 0) from rfl) ⟨rfl, by omega⟩ (gs (upd (upd (f) (1010 + 200 * t + 0) x2) (1010 + 200 * t + 1) a2)) (ib 2 2 rfl (by decide))) ?_
    rw [ixn 2 2 rfl (by decide), List.set_set]
    refine e_then (e_al1 hT (y := 319) (pc := 95) (q := (yX12_text, cX12_text, 5, (some .int), 12)) rfl (show aTab 319 95 = some (.aload_n 0, 1, 0, 0, 0, 0, 0, 0) from rfl) rfl l0) ?_
    refine e_then (e_getf hT (y := 319) (pc := 96) (q := (yX12_text, cX12_text, 5, (some .int), 12)) rfl (show aTab 319 96 = some (.getfield 7, 3, 0, 12, 0, 0, 0, 0) from rfl) rfl (by decide) (by decide) (gm (upd (upd (upd (f) (1010 + 200 * t + 0) x2) (1010 + 200 * t + 1) a2) (1010 + 200 * t + 2) sd)) f0) ?_
    refine e_then (e_il2 hT (y := 319) (pc := 99) (q := (yX12_text, cX12_text, 5, (some .int), 12)) rfl (show aTab 319 99 = some (.iload 4, 2, 0, 0, 0, 0, 0, 0) from rfl) rfl l4) ?_
    refine e_then (e_st hT (y := 319) (pc := 101) (q := (yX12_text, cX12_text, 5, (some .int), 12)) rfl (show aTab 319 101 = some (.iconst 3, 1, 0, 0, 0, 0, 0, 0) from rfl) (fr' := (319, 102, lv3, [.int 3, .int tv, .ref 129])) (M' := (M3.set 120 (.inl (4000, upd (upd (upd (f) (1010 + 200 * t + 0) x2) (1010 + 200 * t + 1) a2) (1010 + 200 * t + 2) sd)))) rfl) ?_
    refine e_then (e_st hT (y := 319) (pc := 102) (q := (yX12_text, cX12_text, 5, (some .int), 12)) rfl (show aTab 319 102 = some (.iadd, 1, 0, 0, 0, 0, 0, 0) from rfl) (fr' := (319, 103, lv3, [.int (tv + 3), .ref 129])) (M' := (M3.set 120 (.inl (4000, upd (upd (upd (f) (1010 + 200 * t + 0) x2) (1010 + 200 * t + 1) a2) (1010 + 200 * t + 2) sd)))) rfl) ?_
    refine e_then (e_al1 hT (y := 319) (pc := 103) (q := (yX12_text, cX12_text, 5, (some .int), 12)) rfl (show aTab 319 103 = some (.aload_n 0, 1, 0, 0, 0, 0, 0, 0) from rfl) rfl l0) ?_
    refine e_then (e_getf hT (y := 319) (pc := 104) (q := (yX12_text, cX12_text, 5, (some .int), 12)) rfl (show aTab 319 104 = some (.getfield 279, 3, 0, 12, 22, 0, 0, 0) from rfl) rfl (by decide) (by decide) (gm (upd (upd (upd (f) (1010 + 200 * t + 0) x2) (1010 + 200 * t + 1) a2) (1010 + 200 * t + 2) sd)) f22) ?_
    refine e_then (e_ast hT (y := 319) (pc := 107) (q := (yX12_text, cX12_text, 5, (some .int), 12)) rfl (show aTab 319 107 = some (.iastore, 1, 0, 0, 0, 0, 0, 0) from rfl) ⟨rfl, by omega⟩ (gs (upd (upd (upd (f) (1010 + 200 * t + 0) x2) (1010 + 200 * t + 1) a2) (1010 + 200 * t + 2) sd)) (ib 3 3 rfl (by decide))) ?_
    rw [ixn 3 3 rfl (by decide), List.set_set]
    refine e_then (e_al1 hT (y := 319) (pc := 108) (q := (yX12_text, cX12_text, 5, (some .int), 12)) rfl (show aTab 319 108 = some (.aload_n 0, 1, 0, 0, 0, 0, 0, 0) from rfl) rfl l0) ?_
    refine e_then (e_getf hT (y := 319) (pc := 109) (q := (yX12_text, cX12_text, 5, (some .int), 12)) rfl (show aTab 319 109 = some (.getfield 7, 3, 0, 12, 0, 0, 0, 0) from rfl) rfl (by decide) (by decide) (gm (upd (upd (upd (upd (f) (1010 + 200 * t + 0) x2) (1010 + 200 * t + 1) a2) (1010 + 200 * t + 2) sd) (1010 + 200 * t + 3) lx)) f0) ?_
    refine e_then (e_st hT (y := 319) (pc := 112) (q := (yX12_text, cX12_text, 5, (some .int), 12)) rfl (show aTab 319 112 = some (.bipush 6, 2, 0, 0, 0, 0, 0, 0) from rfl) (fr' := (319, 114, lv3, [.int 6, .ref 129])) (M' := (M3.set 120 (.inl (4000, upd (upd (upd (upd (f) (1010 + 200 * t + 0) x2) (1010 + 200 * t + 1) a2) (1010 + 200 * t + 2) sd) (1010 + 200 * t + 3) lx)))) rfl) ?_
    refine e_then (e_st hT (y := 319) (pc := 114) (q := (yX12_text, cX12_text, 5, (some .int), 12)) rfl (show aTab 319 114 = some (.dup2, 1, 0, 0, 0, 0, 0, 0) from rfl) (fr' := (319, 115, lv3, [.int 6, .ref 129, .int 6, .ref 129])) (M' := (M3.set 120 (.inl (4000, upd (upd (upd (upd (f) (1010 + 200 * t + 0) x2) (1010 + 200 * t + 1) a2) (1010 + 200 * t + 2) sd) (1010 + 200 * t + 3) lx)))) rfl) ?_
    refine e_then (e_ald hT (y := 319) (pc := 115) (q := (yX12_text, cX12_text, 5, (some .int), 12)) rfl (show aTab 319 115 = some (.iaload, 1, 0, 0, 0, 0, 0, 0) from rfl) ⟨rfl, by omega⟩ (gs (upd (upd (upd (upd (f) (1010 + 200 * t + 0) x2) (1010 + 200 * t + 1) a2) (1010 + 200 * t + 2) sd) (1010 + 200 * t + 3) lx)) i6) ?_
    have e6' : (upd (upd (upd (upd (f) (1010 + 200 * t + 0) x2) (1010 + 200 * t + 1) a2) (1010 + 200 * t + 2) sd) (1010 + 200 * t + 3) lx) (6 : Int32).toInt.toNat = nv := by rw [i6n, upd_ne _ lx (by omega), upd_ne _ sd (by omega), upd_ne _ a2 (by omega), upd_ne _ x2 (by omega), e6]
    rw [e6']
    refine e_then (e_st hT (y := 319) (pc := 116) (q := (yX12_text, cX12_text, 5, (some .int), 12)) rfl (show aTab 319 116 = some (.iconst 1, 1, 0, 0, 0, 0, 0, 0) from rfl) (fr' := (319, 117, lv3, [.int 1, .int nv, .int 6, .ref 129])) (M' := (M3.set 120 (.inl (4000, upd (upd (upd (upd (f) (1010 + 200 * t + 0) x2) (1010 + 200 * t + 1) a2) (1010 + 200 * t + 2) sd) (1010 + 200 * t + 3) lx)))) rfl) ?_
    refine e_then (e_st hT (y := 319) (pc := 117) (q := (yX12_text, cX12_text, 5, (some .int), 12)) rfl (show aTab 319 117 = some (.iadd, 1, 0, 0, 0, 0, 0, 0) from rfl) (fr' := (319, 118, lv3, [.int (nv + 1), .int 6, .ref 129])) (M' := (M3.set 120 (.inl (4000, upd (upd (upd (upd (f) (1010 + 200 * t + 0) x2) (1010 + 200 * t + 1) a2) (1010 + 200 * t + 2) sd) (1010 + 200 * t + 3) lx)))) rfl) ?_
    refine e_then (e_ast hT (y := 319) (pc := 118) (q := (yX12_text, cX12_text, 5, (some .int), 12)) rfl (show aTab 319 118 = some (.iastore, 1, 0, 0, 0, 0, 0, 0) from rfl) ⟨rfl, by omega⟩ (gs (upd (upd (upd (upd (f) (1010 + 200 * t + 0) x2) (1010 + 200 * t + 1) a2) (1010 + 200 * t + 2) sd) (1010 + 200 * t + 3) lx)) i6) ?_
    rw [List.set_set, i6n]
    show mEv none 140 _ (M3.set 120 (.inl (4000, txF f t x2 a2 sd lx (nv + 1)))) _
    refine e_then (e_al1 hT (y := 319) (pc := 119) (q := (yX12_text, cX12_text, 5, (some .int), 12)) rfl (show aTab 319 119 = some (.aload_n 0, 1, 0, 0, 0, 0, 0, 0) from rfl) rfl l0) ?_
    refine e_then (e_getf hT (y := 319) (pc := 120) (q := (yX12_text, cX12_text, 5, (some .int), 12)) rfl (show aTab 319 120 = some (.getfield 7, 3, 0, 12, 0, 0, 0, 0) from rfl) rfl (by decide) (by decide) (gm (txF f t x2 a2 sd lx (nv + 1))) f0) ?_
    refine e_then (e_st hT (y := 319) (pc := 123) (q := (yX12_text, cX12_text, 5, (some .int), 12)) rfl (show aTab 319 123 = some (.bipush 6, 2, 0, 0, 0, 0, 0, 0) from rfl) (fr' := (319, 125, lv3, [.int 6, .ref 129])) (M' := (M3.set 120 (.inl (4000, txF f t x2 a2 sd lx (nv + 1))))) rfl) ?_
    refine e_then (e_ald hT (y := 319) (pc := 125) (q := (yX12_text, cX12_text, 5, (some .int), 12)) rfl (show aTab 319 125 = some (.iaload, 1, 0, 0, 0, 0, 0, 0) from rfl) ⟨rfl, by omega⟩ (gs (txF f t x2 a2 sd lx (nv + 1))) i6) ?_
    refine e_then (e_st hT (y := 319) (pc := 126) (q := (yX12_text, cX12_text, 5, (some .int), 12)) rfl (show aTab 319 126 = some (.iconst 1, 1, 0, 0, 0, 0, 0, 0) from rfl) (fr' := (319, 127, lv3, [.int 1, .int ((txF f t x2 a2 sd lx (nv + 1)) (6 : Int32).toInt.toNat)])) (M' := (M3.set 120 (.inl (4000, txF f t x2 a2 sd lx (nv + 1))))) rfl) ?_
    refine e_then (e_st hT (y := 319) (pc := 127) (q := (yX12_text, cX12_text, 5, (some .int), 12)) rfl (show aTab 319 127 = some (.isub, 1, 0, 0, 0, 0, 0, 0) from rfl) (fr' := (319, 128, lv3, [.int (((txF f t x2 a2 sd lx (nv + 1)) (6 : Int32).toInt.toNat) - 1)])) (M' := (M3.set 120 (.inl (4000, txF f t x2 a2 sd lx (nv + 1))))) rfl) ?_
    have c1 : Int32.toInt 1 = 1 := rfl
    have hn1 : (nv + 1).toInt = (t : Int) + 1 := i32_p hnv c1 (by omega) (by omega)
    refine e_fin (e_iret hT (y := 319) (pc := 128) (q := (yX12_text, cX12_text, 5, (some .int), 12)) rfl (show aTab 319 128 = some (.ireturn, 1, 0, 0, 0, 0, 0, 0) from rfl) ⟨rfl, rfl⟩) ⟨_, rfl, yTy_set m6.1 tTy_120 (txF_yT hf (by omega) ⟨y1, y2⟩ (by omega) (by omega)) (fun _ => txF_yP hs hP (by omega) (by rw [e6]; exact hnv) hn1 r3 r4 r5), ?_, (yRd_ne (by decide)).trans ((h7 119 14).trans n6)⟩
    refine yFr_tr hfr2 (fun xs c k hn => ?_)
    have h73 : yRd xs M3 c k = yRd xs M2 c k := yFr_nil (m7 _ (List.mem_singleton_self _)) c k
    rw [← h73]
    by_cases hc : c = 120
    · subst hc
      have k6 : k ≠ 6 := fun z => hn (120, 6, 6, 1, 0) (by simp) ⟨rfl, by rw [z]; decide, by rw [z]; decide, by rw [z]; decide⟩
      have k1 : k < 1010 + 200 * t ∨ 1010 + 200 * t + 3 < k := by
        by_cases hq : k < 1010
        · omega
        · by_cases hq2 : k ≤ 3409
          · exact absurd ⟨rfl, by show (1010 : Int) ≤ _; omega, by show _ ≤ (3409 : Int); omega, by show (k : Int) % 1 = 0; omega⟩ (hn (120, 1010, 3409, 1, 0) (by simp))
          · omega
      unfold yRd
      rw [gs, hs]
      simp only
      rw [txF_ne k6 k1]
    · exact yRd_ne hc
theorem hand_text (hT : aTabOk) : tCtOk (319, [(0, 128, 0, 0), (1, 0, (-2147483648), 2147483647)], some ((-2147483648), 2147483647), [(120, 6, 6, 1, 0), (120, 1010, 3409, 1, 0), (120, 3800, 3999, 1, 0), (119, 14, 14, 1, 0), (119, 15, 15, 1, 0), (119, 16, 16, 1, 0), (119, 17, 17, 1, 0), (119, 18, 18, 1, 0), (119, 19, 19, 1, 0), (119, 20, 20, 1, 0), (119, 21, 21, 1, 0), (119, 22, 22, 1, 0), (119, 23, 23, 1, 0), (119, 24, 24, 1, 0)], 140, [], []) := by
  intro M vs d hM hvs hd _
  match vs, hvs with
  | [v1, v2], h =>
    have h1 : v1 = .ref 128 := h.1
    have h2' : ∃ x : Int32, v2 = .int x ∧ -2147483648 ≤ x.toInt ∧ x.toInt ≤ 2147483647 := h.2.1
    obtain ⟨a, h2, -⟩ := h2'
    subst h1; subst h2
    obtain ⟨N, r, M', m1, x, rfl, m3, m4, -⟩ := text_run hT hM a
    refine ⟨N, _, M', mRun_dm m1 hd, m3, yFr_mono (fun g hg c k hy => ?_) m4, ⟨x, rfl, i32_lo x, i32_hi x⟩, fun ab hab => by cases hab⟩
    simp only [pZ, List.mem_cons, List.not_mem_nil, or_false] at hg
    rcases hg with rfl | rfl | rfl | rfl
    · exact ⟨_, by simp, hy⟩
    · exact ⟨(120, 1010, 3409, 1, 0), by simp, hy⟩
    · exact ⟨(120, 3800, 3999, 1, 0), by simp, hy⟩
    · obtain ⟨y1, y2, y3, y4⟩ := hy
      simp only at y1 y2 y3
      refine ⟨(119, (k : Int), (k : Int), 1, 0), ?_, y1, Int.le_refl _, Int.le_refl _, by show (k : Int) % 1 = 0; omega⟩
      have : k = 14 ∨ k = 15 ∨ k = 16 ∨ k = 17 ∨ k = 18 ∨ k = 19 ∨ k = 20 ∨ k = 21 ∨ k = 22 ∨ k = 23 ∨ k = 24 := by omega
      rcases this with rfl | rfl | rfl | rfl | rfl | rfl | rfl | rfl | rfl | rfl | rfl <;> simp
