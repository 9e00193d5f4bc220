/-! HAND: what run does to the minute, on both sides -/
theorem rd_any {xs ys : tXs} {M : mHe} {c k : Nat} (hc : c < 144) : yRd xs M c k = yRd ys M c k := by
  unfold yRd
  rw [if_neg (by omega), if_neg (by omega)]
def mnA (y r : Nat) (l u : Int) : Bool := tCk (fun _ _ => none, []) 4000 100 [[]] (y, 0, [(0, kR r), (1, (4, 0, 0, 0))], []) [] ([(l, u)], []) (fun lf => lRes (-1000000001) (-1000000001) lf)
def mnB (d y r stop : Nat) : Bool := tCk (fun y' pc => bif Nat.beq y' y && Nat.beq pc stop then some (.inr none) else none, []) 4000 d [[]] (y, 0, [(0, kR r), (1, (4, 0, 0, 0))], []) [] ([(1, 240)], []) (fun lf => lAt y stop [] [(0, kR r), (1, (4, 0, 0, 0))] lf)
theorem mnA_1 : mnA 15 10 (-2147483648) 0 = true := by decide +kernel
theorem mnA_2 : mnA 15 10 241 2147483647 = true := by decide +kernel
theorem mnA_3 : mnA 268 128 (-2147483648) 0 = true := by decide +kernel
theorem mnA_4 : mnA 268 128 241 2147483647 = true := by decide +kernel
theorem mnB_1 : mnB 100 15 10 14 = true := by decide +kernel
theorem mnB_2 : mnB 101 268 128 15 = true := by decide +kernel
theorem mn_E {a : Int32} {l u : Int} (h : l ≤ a.toInt ∧ a.toInt ≤ u) : xE [a.toInt] ([(l, u)], []) := by
  refine xE_of_list rfl (fun i l' u' e hb he => ?_)
  match i with
  | 0 => cases hb; cases he; exact ⟨h, i32_lo _, i32_hi _⟩
  | i + 1 => simp at hb
theorem mn_bad (hT : aTabOk) {y r : Nat} {l u : Int} (hA : mnA y r l u = true) {M : mHe} (hM : yTy M) {a : Int32} (h : l ≤ a.toInt ∧ a.toInt ≤ u) : ∃ N M', mRun none N 100 (y, 0, lv_args 0 [.ref r, .int a], []) M = some (some (.int (-1000000001)), M') ∧ yTy M' ∧ yFr [] M M' := by
  obtain ⟨lf, f1, f2⟩ := tSegC (xs := x00) hT (fun ct hct => by cases hct) hA (mn_E h) (clv := lv_args 0 [.ref r, .int a]) (yLv_cons rfl (yV_kR _ _) (yLv_cons rfl (yV_atom rfl) (yLv_nil _ _))) (cst := []) (show yS _ [] [] from trivial) ⟨hM, fun q hq => by cases hq⟩
  obtain ⟨X, N, x, M', m1, m2, m3, m4, m5⟩ := lRes_ok f1 f2
  have hx : x = -1000000001 := i32eq (by show x.toInt = -1000000001; omega)
  rw [hx] at m2
  exact ⟨N, M', m2, m4.1, m5 _ (List.mem_singleton_self _)⟩
theorem mn_go (hT : aTabOk) {d y r stop : Nat} (hB : mnB d y r stop = true) {M : mHe} (hM : yTy M) {a : Int32} (h : 1 ≤ a.toInt ∧ a.toInt ≤ 240) : ∃ lv M', mTo none d (y, 0, lv_args 0 [.ref r, .int a], []) M (y, stop, lv, []) M' ∧ mlg 0 lv = some (.ref r) ∧ mlg 1 lv = some (.int a) ∧ yTy M' ∧ yFr [] M M' := by
  obtain ⟨lf, f1, f2⟩ := tSegC (xs := x00) hT (fun ct hct => by cases hct) hB (mn_E h) (clv := lv_args 0 [.ref r, .int a]) (yLv_cons rfl (yV_kR _ _) (yLv_cons rfl (yV_atom rfl) (yLv_nil _ _))) (cst := []) (show yS _ [] [] from trivial) ⟨hM, fun q hq => by cases hq⟩
  obtain ⟨X, lv, st, M1, m1, m2, m3, m4, m5, m6, m7⟩ := lAt_ok f1 f2
  have hst := yS_nil m3
  subst hst
  obtain ⟨a', l1, z1⟩ := loc_i (k := 1) (i := 0) (a := 0) (e := a.toInt) m4 (by simp) rfl
  have ea : a' = a := i32eq (by omega)
  subst ea
  exact ⟨lv, M1, m2, loc_r m4 (by simp), l1, m6.1, m7 _ (List.mem_singleton_self _)⟩
def mnR (lf : tLf_) : Bool := match lf.1 with
  | .inr (some v) => aSame v (4, 2, 0, 0)
  | _ => false
theorem mnR_ok {xs : tXs} {sc : Option (Nat × (Nat → Int32))} {d : Nat} {E : List Int} {Ws : List (List tG)} {fr : mFr} {M : mHe} {lf : tLf_} {e : Int} (h : mnR lf = true) (he : tEnd1 xs sc d E Ws fr M lf) (h2 : E[2]? = some e) : ∃ X N x M', xE (E ++ X) lf.2.2 ∧ mRun sc N d fr M = some (some (.int x), M') ∧ x.toInt = e ∧ yH xs (E ++ X) lf.2.1 M' ∧ ∀ W ∈ Ws, yFr W M M' := by
  obtain ⟨X, h0, he⟩ := he
  obtain ⟨l1, l2, l3⟩ := lf
  unfold mnR at h
  simp only at h he h0
  split at h
  · next v =>
    simp only at he
    rw [aSame_eq h] at he
    obtain ⟨N, r', M', m1, m2, m3, m4⟩ := he
    cases r' with
    | none => exact m2.elim
    | some w =>
      obtain ⟨x, rfl, -, e', e1, e2⟩ := yV_int rfl m2
      rw [get_app h2] at e1
      cases e1
      exact ⟨X, N, x, M', h0, m1, by omega, m3, m4⟩
  · cases h
def mnT : Bool := tCk (tPt_, []) 20000 100 [mnWX] (15, 44, [(0, kR 10), (1, (4, 1, 0, 0)), (2, (4, 0, 0, 0))], []) [((1, 0, 0, 0), (4, 2, 0, 0))] ([(0, 9999), (1, 240), (1, 9999)], []) (fun lf => mnR lf && lF 1 0 (4, 2, 0, 0) lf)
set_option maxRecDepth 100000 in
theorem mnT_ok : mnT = true := by decide +kernel
theorem mnF_lo {m a : Int32} (h : ¬ (1 ≤ a.toInt ∧ a.toInt ≤ 240)) : mnF m a = (-1000000001, m) := by unfold mnF; rw [if_neg h]
theorem mnF_full {m a : Int32} (h : 1 ≤ a.toInt ∧ a.toInt ≤ 240) (h2 : ¬ m.toInt + a.toInt ≤ 9999) : mnF m a = (-1000000003, m) := by unfold mnF; rw [if_pos h, if_neg h2]
theorem mnF_go {m a : Int32} (h : 1 ≤ a.toInt ∧ a.toInt ≤ 240) (h2 : m.toInt + a.toInt ≤ 9999) : mnF m a = (m + a, m + a) := by unfold mnF; rw [if_pos h, if_pos h2]
theorem goOn_run (hT : aTabOk) {M : mHe} (hM : yTy M) {m a : Int32} (hm0 : 0 ≤ m.toInt ∧ m.toInt ≤ 9999) (hm : ∀ xs, yRd xs M 1 0 = some (.int m)) : mEv none 100 (15, 0, lv_args 0 [.ref 10, .int a], []) M (fun r M' => r = some (.int (mnF m a).1) ∧ yTy M' ∧ yFr mnWX M M' ∧ ∀ xs, yRd xs M' 1 0 = some (.int (mnF m a).2)) := by
  have nilX : ∀ {A B : mHe}, yFr [] A B → yFr mnWX A B := fun h xs c k _ => yFr_nil h c k
  by_cases ha : 1 ≤ a.toInt ∧ a.toInt ≤ 240
  · obtain ⟨lv, M1, m1, l0, l1, t1, f1⟩ := mn_go hT mnB_1 hM ha
    obtain ⟨fs, hfs, hty⟩ := yTy_obj t1 (rfl : tTy 1 = some (.inr (1, _)))
    have h1m : ∀ xs, yRd xs M1 1 0 = some (.int m) := fun xs => (yFr_nil f1 1 0).trans (hm xs)
    have hf0 : fs[0]? = some (.int m) := by
      have := h1m x00
      rw [yRd_obj _ (by decide) hfs] at this
      exact this
    have hsum : (m + a).toInt = m.toInt + a.toInt := i32_add (by omega) (by omega)
    refine e_then m1 ?_
    have e99 : (9999 : Int32).toInt = 9999 := rfl
    refine e_then (e_al1 hT (y := 15) (pc := 14) (q := (yX1_goOn, cX1_goOn, 3, (some .int), 1)) rfl (show aTab 15 14 = some (.aload_n 0, 1, 0, 0, 0, 0, 0, 0) from rfl) rfl l0) ?_
    refine e_then (e_getf hT (y := 15) (pc := 15) (q := (yX1_goOn, cX1_goOn, 3, (some .int), 1)) rfl (show aTab 15 15 = some (.getfield 76, 3, 0, 1, 0, 0, 0, 0) from rfl) rfl (by decide) (by decide) hfs hf0) ?_
    refine e_then (e_il1 hT (y := 15) (pc := 18) (q := (yX1_goOn, cX1_goOn, 3, (some .int), 1)) rfl (show aTab 15 18 = some (.iload_n 1, 1, 0, 0, 0, 0, 0, 0) from rfl) rfl l1) ?_
    refine e_then (e_st hT (y := 15) (pc := 19) (q := (yX1_goOn, cX1_goOn, 3, (some .int), 1)) rfl (show aTab 15 19 = some (.iadd, 1, 0, 0, 0, 0, 0, 0) from rfl) (fr' := (15, 20, lv, [.int (m + a)])) (M' := M1) rfl) ?_
    refine e_then (e_st hT (y := 15) (pc := 20) (q := (yX1_goOn, cX1_goOn, 3, (some .int), 1)) rfl (show aTab 15 20 = some (.sipush 9999, 3, 0, 0, 0, 0, 0, 0) from rfl) (fr' := (15, 23, lv, [.int 9999, .int (m + a)])) (M' := M1) rfl) ?_
    by_cases hs : m.toInt + a.toInt ≤ 9999
    · refine e_then (e_icT hT (y := 15) (pc := 23) (q := (yX1_goOn, cX1_goOn, 3, (some .int), 1)) rfl (show aTab 15 23 = some (.if_icmp .le 6, 3, 0, 0, 0, 0, 0, 0) from rfl) rfl (t := 29) rfl (cdT (by show _ ≤ _; rw [hsum, e99]; exact hs))) ?_
      refine e_then (e_al1 hT (y := 15) (pc := 29) (q := (yX1_goOn, cX1_goOn, 3, (some .int), 1)) rfl (show aTab 15 29 = some (.aload_n 0, 1, 0, 0, 0, 0, 0, 0) from rfl) rfl l0) ?_
      refine e_then (e_getf hT (y := 15) (pc := 30) (q := (yX1_goOn, cX1_goOn, 3, (some .int), 1)) rfl (show aTab 15 30 = some (.getfield 76, 3, 0, 1, 0, 0, 0, 0) from rfl) rfl (by decide) (by decide) hfs hf0) ?_
      refine e_then (e_is1 hT (y := 15) (pc := 33) (q := (yX1_goOn, cX1_goOn, 3, (some .int), 1)) rfl (show aTab 15 33 = some (.istore_n 2, 1, 0, 0, 0, 0, 0, 0) from rfl) ⟨rfl, by decide⟩) ?_
      refine e_then (e_al1 hT (y := 15) (pc := 34) (q := (yX1_goOn, cX1_goOn, 3, (some .int), 1)) rfl (show aTab 15 34 = some (.aload_n 0, 1, 0, 0, 0, 0, 0, 0) from rfl) rfl (mlg_r l0 (by decide))) ?_
      refine e_then (e_st hT (y := 15) (pc := 35) (q := (yX1_goOn, cX1_goOn, 3, (some .int), 1)) rfl (show aTab 15 35 = some (.dup, 1, 0, 0, 0, 0, 0, 0) from rfl) (fr' := (15, 36, (mlp 2 (.int m) lv), [.ref 10, .ref 10])) (M' := M1) rfl) ?_
      refine e_then (e_getf hT (y := 15) (pc := 36) (q := (yX1_goOn, cX1_goOn, 3, (some .int), 1)) rfl (show aTab 15 36 = some (.getfield 76, 3, 0, 1, 0, 0, 0, 0) from rfl) rfl (by decide) (by decide) hfs hf0) ?_
      refine e_then (e_il1 hT (y := 15) (pc := 39) (q := (yX1_goOn, cX1_goOn, 3, (some .int), 1)) rfl (show aTab 15 39 = some (.iload_n 1, 1, 0, 0, 0, 0, 0, 0) from rfl) rfl (mlg_i l1 (by decide))) ?_
      refine e_then (e_st hT (y := 15) (pc := 40) (q := (yX1_goOn, cX1_goOn, 3, (some .int), 1)) rfl (show aTab 15 40 = some (.iadd, 1, 0, 0, 0, 0, 0, 0) from rfl) (fr' := (15, 41, (mlp 2 (.int m) lv), [.int (m + a), .ref 10])) (M' := M1) rfl) ?_
      have hkl : 0 < fs.length := (List.getElem?_eq_some_iff.mp hf0).1
      have t2 : yTy (M1.set 1 (.inr (1, fs.set 0 (.int (m + a))))) := yTy_setO t1 (rfl : tTy 1 = some (.inr (1, _))) ⟨by rw [List.length_set]; exact hty.1, fun j ft hj => by
        by_cases ej : j = 0
        · subst ej
          cases hj
          exact ⟨_, List.getElem?_set_self hkl, m + a, rfl, i32_lo _, i32_hi _⟩
        · obtain ⟨v, v1, v2⟩ := hty.2 j ft hj
          exact ⟨v, by rw [List.getElem?_set_ne (fun z => ej z.symm)]; exact v1, v2⟩⟩
      have hlt := (List.getElem?_eq_some_iff.mp hfs).1
      have r2 : ∀ xs, yRd xs (M1.set 1 (.inr (1, fs.set 0 (.int (m + a))))) 1 0 = some (.int (m + a)) := fun xs => by
        rw [yRd_obj _ (by decide) (List.getElem?_set_self hlt), List.getElem?_set_self hkl]
      have f2 : yFr mnWX M1 (M1.set 1 (.inr (1, fs.set 0 (.int (m + a))))) := fun xs c k hn => by
        by_cases hc : c = 1
        · subst hc
          have hk : k ≠ 0 := fun z => hn (1, 0, 1, 1, 0) (by simp [mnWX]) ⟨rfl, by rw [z]; decide, by rw [z]; decide, by rw [z]; decide⟩
          rw [yRd_obj _ (by decide) (List.getElem?_set_self hlt), yRd_obj _ (by decide) hfs, List.getElem?_set_ne (fun z => hk z.symm)]
        · exact yRd_ne hc
      refine e_then (e_putf hT (y := 15) (pc := 41) (q := (yX1_goOn, cX1_goOn, 3, (some .int), 1)) rfl (show aTab 15 41 = some (.putfield 76, 3, 0, 1, 0, 0, 0, 0) from rfl) rfl rfl ⟨by decide, rfl, rfl⟩ (by decide) hfs hkl) ?_
      have hE : xE [m.toInt, a.toInt, (m + a).toInt] ([(0, 9999), (1, 240), (1, 9999)], []) := by
        refine xE_of_list rfl (fun i l u e hb he => ?_)
        match i with
        | 0 => cases hb; cases he; omega
        | 1 => cases hb; cases he; omega
        | 2 => cases hb; cases he; omega
        | i + 3 => simp at hb
      obtain ⟨lf, g1, g2⟩ := tSegC (xs := x00) hT (fun ct hct => by cases hct) mnT_ok hE (clv := (mlp 2 (.int m) lv)) (yLv_cons (mlg_r l0 (by decide)) (yV_kR _ _) (yLv_cons (mlg_i l1 (by decide)) (yV_atom rfl) (yLv_cons (mlg_eq 2 _ _) (yV_atom rfl) (yLv_nil _ _)))) (cst := []) (show yS _ [] [] from trivial) (M := M1.set 1 (.inr (1, fs.set 0 (.int (m + a))))) ⟨t2, fun q hq => by
        rw [List.mem_singleton] at hq
        subst hq
        exact ⟨0, rfl, .int (m + a), r2 x00, yV_atom rfl⟩⟩
      rw [Bool.and_eq_true] at g1
      obtain ⟨X, N, x, M3, p1, p2, p3, p4, p5⟩ := mnR_ok g1.1 g2 rfl
      have hx : x = m + a := i32eq p3
      obtain ⟨v, v1, v2⟩ := lF_ok (c := 1) (k := 0) g1.2 p4
      obtain ⟨y, rfl, -, e', e1, e2⟩ := yV_int rfl v2
      have e1 : some (m + a).toInt = some e' := e1
      cases e1
      have hy : y = m + a := i32eq (by omega)
      rw [hx] at p2
      rw [hy] at v1
      rw [mnF_go ha hs]
      exact ⟨N, _, M3, p2, rfl, p4.1, yFr_tr (nilX f1) (yFr_tr f2 (p5 _ (List.mem_singleton_self _))), fun xs => (rd_any (by decide)).trans v1⟩
    · refine e_then (e_icF hT (y := 15) (pc := 23) (q := (yX1_goOn, cX1_goOn, 3, (some .int), 1)) rfl (show aTab 15 23 = some (.if_icmp .le 6, 3, 0, 0, 0, 0, 0, 0) from rfl) rfl (t := 29) rfl (cdF (by show ¬ _ ≤ _; rw [hsum, e99]; exact hs))) ?_
      refine e_then (e_st hT (y := 15) (pc := 26) (q := (yX1_goOn, cX1_goOn, 3, (some .int), 1)) rfl (show aTab 15 26 = some (.ldc 121, 2, 7, 0, (-1000000003), 0, 0, 0) from rfl) (fr' := (15, 28, lv, [.int (-1000000003)])) (M' := M1) rfl) ?_
      rw [mnF_full ha hs]
      exact e_fin (e_iret hT (y := 15) (pc := 28) (q := (yX1_goOn, cX1_goOn, 3, (some .int), 1)) rfl (show aTab 15 28 = some (.ireturn, 1, 0, 0, 0, 0, 0, 0) from rfl) ⟨rfl, rfl⟩) ⟨rfl, t1, nilX f1, h1m⟩
  · have hb : a.toInt ≤ 0 ∨ 241 ≤ a.toInt := by omega
    rw [mnF_lo ha]
    rcases hb with hb | hb
    · obtain ⟨N, M1, m1, t1, f1⟩ := mn_bad hT mnA_1 hM (a := a) ⟨i32_lo _, hb⟩
      exact ⟨N, _, M1, m1, rfl, t1, nilX f1, fun xs => (yFr_nil f1 1 0).trans (hm xs)⟩
    · obtain ⟨N, M1, m1, t1, f1⟩ := mn_bad hT mnA_2 hM (a := a) ⟨hb, i32_hi _⟩
      exact ⟨N, _, M1, m1, rfl, t1, nilX f1, fun xs => (yFr_nil f1 1 0).trans (hm xs)⟩
theorem xrun_run (hT : aTabOk) {M : mHe} (hM : yTy M) {m a : Int32} (hm0 : 0 ≤ m.toInt ∧ m.toInt ≤ 9999) (hm : ∀ xs, yRd xs M 1 0 = some (.int m)) : mEv none 101 (190, 0, lv_args 0 [.ref 9, .int a], []) M (fun r M' => r = some (.int (mnF m a).1) ∧ yTy M' ∧ yFr mnWX M M' ∧ ∀ xs, yRd xs M' 1 0 = some (.int (mnF m a).2)) := by
  obtain ⟨N, r, M', m1, rfl, h1, h2, h3⟩ := goOn_run hT hM hm0 hm (a := a)
  obtain ⟨fs, hfs, -⟩ := yTy_obj hM (rfl : tTy 1 = some (.inr (1, _)))
  refine e_then (e_al1 hT (y := 190) (pc := 0) (q := (yX11_run, cX11_run, 2, (some .int), 11)) rfl (show aTab 190 0 = some (.aload_n 0, 1, 0, 0, 0, 0, 0, 0) from rfl) rfl rfl) ?_
  refine e_then (e_getR hT (y := 190) (pc := 1) (q := (yX11_run, cX11_run, 2, (some .int), 11)) rfl (show aTab 190 1 = some (.getfield 12, 3, 0, 11, 0, 0, 0, 0) from rfl) rfl (by decide) (by decide) hM rfl rfl) ?_
  refine e_then (e_il1 hT (y := 190) (pc := 4) (q := (yX11_run, cX11_run, 2, (some .int), 11)) rfl (show aTab 190 4 = some (.iload_n 1, 1, 0, 0, 0, 0, 0, 0) from rfl) rfl rfl) ?_
  refine e_then (e_call hT (y := 190) (pc := 5) (q := (yX11_run, cX11_run, 2, (some .int), 11)) rfl (show aTab 190 5 = some (.invokevirtual 82, 3, 1, 15, 0, 1, 3, 1) from rfl) rfl ⟨by decide, Nat.le_of_ble_eq_true rfl⟩ hfs (Nat.le_of_ble_eq_true rfl) (Nat.le_of_ble_eq_true rfl) ⟨by decide, by decide⟩ m1) ?_
  exact e_fin (e_iret hT (y := 190) (pc := 8) (q := (yX11_run, cX11_run, 2, (some .int), 11)) rfl (show aTab 190 8 = some (.ireturn, 1, 0, 0, 0, 0, 0, 0) from rfl) ⟨rfl, rfl⟩) ⟨rfl, h1, h2, h3⟩
def mnM : Bool := tCk (tPt_, []) 20000 100 [mnWM] (267, 0, [(0, kR 128)], []) [((120, 0, 0, 0), (4, 0, 0, 0))] ([(0, 9998)], []) (fun lf => lVoid lf && lF 120 0 (4, 0, 1, 0) lf)
set_option maxRecDepth 100000 in
theorem mnM_ok : mnM = true := by decide +kernel
theorem minute_run (hT : aTabOk) {M : mHe} (hM : yTy M) {m : Int32} (hm0 : 0 ≤ m.toInt ∧ m.toInt ≤ 9998) (hm : ∀ xs, yRd xs M 120 0 = some (.int m)) : ∃ N M', mRun none N 100 (267, 0, lv_args 0 [.ref 128], []) M = some (none, M') ∧ yTy M' ∧ yFr mnWM M M' ∧ ∀ xs, yRd xs M' 120 0 = some (.int (m + 1)) := by
  obtain ⟨lf, g1, g2⟩ := tSegC (xs := x00) hT (fun ct hct => by cases hct) mnM_ok (mn_E hm0) (clv := lv_args 0 [.ref 128]) (yLv_cons rfl (yV_kR _ _) (yLv_nil _ _)) (cst := []) (show yS _ [] [] from trivial) ⟨hM, fun q hq => by
    rw [List.mem_singleton] at hq
    subst hq
    exact ⟨0, rfl, .int m, hm x00, yV_atom rfl⟩⟩
  rw [Bool.and_eq_true] at g1
  obtain ⟨X, N, M', p1, p2, p3, p4⟩ := lVoid_ok g1.1 g2
  obtain ⟨v, v1, v2⟩ := lF_ok (c := 120) (k := 0) g1.2 p3
  obtain ⟨y, rfl, -, e', e1, e2⟩ := yV_int rfl v2
  have e1 : some m.toInt = some e' := e1
  cases e1
  have h1 : (1 : Int32).toInt = 1 := rfl
  have hy : y = m + 1 := i32eq (by rw [i32_add (by omega) (by omega), h1]; omega)
  rw [hy] at v1
  exact ⟨N, M', p2, p3.1, p4 _ (List.mem_singleton_self _), fun xs => (rd_any (by decide)).trans v1⟩
theorem mrun_loop (hT : aTabOk) {m a : Int32} (hm0 : 0 ≤ m.toInt) (ha : 1 ≤ a.toInt ∧ a.toInt ≤ 240) (hs : m.toInt + a.toInt ≤ 9999) : ∀ (j : Nat) (k z : Int32) (lv : List (Nat × Value)) (M : mHe), k.toInt + (j : Int) = a.toInt → 0 ≤ k.toInt → z.toInt = m.toInt + k.toInt → yTy M → (∀ xs, yRd xs M 120 0 = some (.int z)) → mlg 0 lv = some (.ref 128) → mlg 1 lv = some (.int a) → mlg 2 lv = some (.int k) → mEv none 101 (268, 34, lv, []) M (fun r M' => r = some (.int (m + a)) ∧ yTy M' ∧ yFr mnWM M M' ∧ ∀ xs, yRd xs M' 120 0 = some (.int (m + a))) := by
  have hsum : (m + a).toInt = m.toInt + a.toInt := i32_add (by omega) (by omega)
  intro j
  induction j with
  | zero =>
    intro k z lv M hk hk0 hz hM hm l0 l1 l2
    have ez : z = m + a := i32eq (by omega)
    subst ez
    obtain ⟨f, hf, -⟩ := yTy_arr hM tTy_120
    have hf0 : f (0 : Int32).toInt.toNat = m + a := by
      have := hm x00
      rw [yRd_arr _ (by decide) hf (by decide)] at this
      simp only [Option.some.injEq, Value.int.injEq] at this
      exact this
    refine e_then (e_il1 hT (y := 268) (pc := 34) (q := (yX12_run, cX12_run, 3, (some .int), 12)) rfl (show aTab 268 34 = some (.iload_n 2, 1, 0, 0, 0, 0, 0, 0) from rfl) rfl l2) ?_
    refine e_then (e_il1 hT (y := 268) (pc := 35) (q := (yX12_run, cX12_run, 3, (some .int), 12)) rfl (show aTab 268 35 = some (.iload_n 1, 1, 0, 0, 0, 0, 0, 0) from rfl) rfl l1) ?_
    refine e_then (e_icT hT (y := 268) (pc := 36) (q := (yX12_run, cX12_run, 3, (some .int), 12)) rfl (show aTab 268 36 = some (.if_icmp .ge 13, 3, 0, 0, 0, 0, 0, 0) from rfl) rfl (t := 49) rfl (cdT (by show _ ≤ _; omega))) ?_
    refine e_then (e_al1 hT (y := 268) (pc := 49) (q := (yX12_run, cX12_run, 3, (some .int), 12)) rfl (show aTab 268 49 = some (.aload_n 0, 1, 0, 0, 0, 0, 0, 0) from rfl) rfl l0) ?_
    refine e_then (e_getR hT (y := 268) (pc := 50) (q := (yX12_run, cX12_run, 3, (some .int), 12)) rfl (show aTab 268 50 = some (.getfield 7, 3, 0, 12, 0, 0, 0, 0) from rfl) rfl (by decide) (by decide) hM rfl rfl) ?_
    refine e_then (e_st hT (y := 268) (pc := 53) (q := (yX12_run, cX12_run, 3, (some .int), 12)) rfl (show aTab 268 53 = some (.iconst 0, 1, 0, 0, 0, 0, 0, 0) from rfl) (fr' := (268, 54, lv, [.int 0, .ref 129])) (M' := M) rfl) ?_
    refine e_then (e_ald hT (y := 268) (pc := 54) (q := (yX12_run, cX12_run, 3, (some .int), 12)) rfl (show aTab 268 54 = some (.iaload, 1, 0, 0, 0, 0, 0, 0) from rfl) ⟨rfl, by omega⟩ hf (by decide)) ?_
    rw [hf0]
    exact e_fin (e_iret hT (y := 268) (pc := 55) (q := (yX12_run, cX12_run, 3, (some .int), 12)) rfl (show aTab 268 55 = some (.ireturn, 1, 0, 0, 0, 0, 0, 0) from rfl) ⟨rfl, rfl⟩) ⟨rfl, hM, yFr_rf _ _, hm⟩
  | succ j ih =>
    intro k z lv M hk hk0 hz hM hm l0 l1 l2
    obtain ⟨N1, M1, n1, n2, n3, n4⟩ := minute_run hT hM (m := z) (by omega) hm
    obtain ⟨fs, hfs, -⟩ := yTy_obj hM (rfl : tTy 119 = some (.inr (12, _)))
    have h1 : (1 : Int32).toInt = 1 := rfl
    have e1 : (Int32.ofInt 1).toInt = 1 := rfl
    have z1 : (z + 1).toInt = z.toInt + 1 := by rw [i32_add (by omega) (by omega), h1]
    have k1 : (k + Int32.ofInt 1).toInt = k.toInt + 1 := by rw [i32_add (by omega) (by omega), e1]
    refine e_then (e_il1 hT (y := 268) (pc := 34) (q := (yX12_run, cX12_run, 3, (some .int), 12)) rfl (show aTab 268 34 = some (.iload_n 2, 1, 0, 0, 0, 0, 0, 0) from rfl) rfl l2) ?_
    refine e_then (e_il1 hT (y := 268) (pc := 35) (q := (yX12_run, cX12_run, 3, (some .int), 12)) rfl (show aTab 268 35 = some (.iload_n 1, 1, 0, 0, 0, 0, 0, 0) from rfl) rfl l1) ?_
    refine e_then (e_icF hT (y := 268) (pc := 36) (q := (yX12_run, cX12_run, 3, (some .int), 12)) rfl (show aTab 268 36 = some (.if_icmp .ge 13, 3, 0, 0, 0, 0, 0, 0) from rfl) rfl (t := 49) rfl (cdF (by show ¬ _ ≤ _; omega))) ?_
    refine e_then (e_al1 hT (y := 268) (pc := 39) (q := (yX12_run, cX12_run, 3, (some .int), 12)) rfl (show aTab 268 39 = some (.aload_n 0, 1, 0, 0, 0, 0, 0, 0) from rfl) rfl l0) ?_
    refine e_then (e_call hT (y := 268) (pc := 40) (q := (yX12_run, cX12_run, 3, (some .int), 12)) rfl (show aTab 268 40 = some (.invokevirtual 123, 3, 1, 267, 0, 0, 3, 12) from rfl) rfl ⟨by decide, Nat.le_of_ble_eq_true rfl⟩ hfs (Nat.le_of_ble_eq_true rfl) (Nat.le_of_ble_eq_true rfl) ⟨by decide, by decide⟩ n1) ?_
    refine e_then (e_ii hT (y := 268) (pc := 43) (q := (yX12_run, cX12_run, 3, (some .int), 12)) rfl (show aTab 268 43 = some (.iinc 2 1, 3, 0, 0, 0, 0, 0, 0) from rfl) ⟨rfl, by decide⟩ l2) ?_
    refine e_then (e_st hT (y := 268) (pc := 46) (q := (yX12_run, cX12_run, 3, (some .int), 12)) rfl (show aTab 268 46 = some (.goto (-12), 3, 0, 0, 0, 0, 0, 0) from rfl) (fr' := (268, 34, (mlp 2 (.int (k + Int32.ofInt 1)) lv), [])) (M' := M1) rfl) ?_
    obtain ⟨N, r, M2, p1, p2, p3, p4, p5⟩ := ih (k + Int32.ofInt 1) (z + 1) _ M1 (by omega) (by omega) (by omega) n2 n4 (mlg_r l0 (by decide)) (mlg_i l1 (by decide)) (mlg_eq 2 _ _)
    exact ⟨N, r, M2, p1, p2, p3, yFr_tr n3 p4, p5⟩
theorem mrun_run (hT : aTabOk) {M : mHe} (hM : yTy M) {m a : Int32} (hm0 : 0 ≤ m.toInt ∧ m.toInt ≤ 9999) (hm : ∀ xs, yRd xs M 120 0 = some (.int m)) : ∃ N M', mRun none N 101 (268, 0, lv_args 0 [.ref 128, .int a], []) M = some (some (.int (mnF m a).1), M') ∧ yTy M' ∧ yFr mnWM M M' ∧ ∀ xs, yRd xs M' 120 0 = some (.int (mnF m a).2) := by
  have nilM : ∀ {A B : mHe}, yFr [] A B → yFr mnWM A B := fun h xs c k _ => yFr_nil h c k
  by_cases ha : 1 ≤ a.toInt ∧ a.toInt ≤ 240
  · obtain ⟨lv, M1, m1, l0, l1, t1, f1⟩ := mn_go hT mnB_2 hM ha
    have h1m : ∀ xs, yRd xs M1 120 0 = some (.int m) := fun xs => (yFr_nil f1 120 0).trans (hm xs)
    obtain ⟨f, hf, -⟩ := yTy_arr t1 tTy_120
    have hf0 : f (0 : Int32).toInt.toNat = m := by
      have := h1m x00
      rw [yRd_arr _ (by decide) hf (by decide)] at this
      cases this
      rfl
    have hsum : (m + a).toInt = m.toInt + a.toInt := i32_add (by omega) (by omega)
    have e99 : (9999 : Int32).toInt = 9999 := rfl
    have main : mEv none 101 (268, 15, lv, []) M1 (fun r M' => r = some (.int (mnF m a).1) ∧ yTy M' ∧ yFr mnWM M1 M' ∧ ∀ xs, yRd xs M' 120 0 = some (.int (mnF m a).2)) := by
      refine e_then (e_al1 hT (y := 268) (pc := 15) (q := (yX12_run, cX12_run, 3, (some .int), 12)) rfl (show aTab 268 15 = some (.aload_n 0, 1, 0, 0, 0, 0, 0, 0) from rfl) rfl l0) ?_
      refine e_then (e_getR hT (y := 268) (pc := 16) (q := (yX12_run, cX12_run, 3, (some .int), 12)) rfl (show aTab 268 16 = some (.getfield 7, 3, 0, 12, 0, 0, 0, 0) from rfl) rfl (by decide) (by decide) t1 rfl rfl) ?_
      refine e_then (e_st hT (y := 268) (pc := 19) (q := (yX12_run, cX12_run, 3, (some .int), 12)) rfl (show aTab 268 19 = some (.iconst 0, 1, 0, 0, 0, 0, 0, 0) from rfl) (fr' := (268, 20, lv, [.int 0, .ref 129])) (M' := M1) rfl) ?_
      refine e_then (e_ald hT (y := 268) (pc := 20) (q := (yX12_run, cX12_run, 3, (some .int), 12)) rfl (show aTab 268 20 = some (.iaload, 1, 0, 0, 0, 0, 0, 0) from rfl) ⟨rfl, by omega⟩ hf (by decide)) ?_
      rw [hf0]
      refine e_then (e_il1 hT (y := 268) (pc := 21) (q := (yX12_run, cX12_run, 3, (some .int), 12)) rfl (show aTab 268 21 = some (.iload_n 1, 1, 0, 0, 0, 0, 0, 0) from rfl) rfl l1) ?_
      refine e_then (e_st hT (y := 268) (pc := 22) (q := (yX12_run, cX12_run, 3, (some .int), 12)) rfl (show aTab 268 22 = some (.iadd, 1, 0, 0, 0, 0, 0, 0) from rfl) (fr' := (268, 23, lv, [.int (m + a)])) (M' := M1) rfl) ?_
      refine e_then (e_st hT (y := 268) (pc := 23) (q := (yX12_run, cX12_run, 3, (some .int), 12)) rfl (show aTab 268 23 = some (.sipush 9999, 3, 0, 0, 0, 0, 0, 0) from rfl) (fr' := (268, 26, lv, [.int 9999, .int (m + a)])) (M' := M1) rfl) ?_
      by_cases hs : m.toInt + a.toInt ≤ 9999
      · refine e_then (e_icT hT (y := 268) (pc := 26) (q := (yX12_run, cX12_run, 3, (some .int), 12)) rfl (show aTab 268 26 = some (.if_icmp .le 6, 3, 0, 0, 0, 0, 0, 0) from rfl) rfl (t := 32) rfl (cdT (by show _ ≤ _; rw [hsum, e99]; exact hs))) ?_
        refine e_then (e_st hT (y := 268) (pc := 32) (q := (yX12_run, cX12_run, 3, (some .int), 12)) rfl (show aTab 268 32 = some (.iconst 0, 1, 0, 0, 0, 0, 0, 0) from rfl) (fr' := (268, 33, lv, [.int 0])) (M' := M1) rfl) ?_
        refine e_then (e_is1 hT (y := 268) (pc := 33) (q := (yX12_run, cX12_run, 3, (some .int), 12)) rfl (show aTab 268 33 = some (.istore_n 2, 1, 0, 0, 0, 0, 0, 0) from rfl) ⟨rfl, by decide⟩) ?_
        rw [mnF_go ha hs]
        have h0 : (0 : Int32).toInt = 0 := rfl
        exact mrun_loop hT hm0.1 ha hs a.toInt.toNat 0 m _ M1 (by omega) (by omega) (by omega) t1 h1m (mlg_r l0 (by decide)) (mlg_i l1 (by decide)) (mlg_eq 2 _ _)
      · refine e_then (e_icF hT (y := 268) (pc := 26) (q := (yX12_run, cX12_run, 3, (some .int), 12)) rfl (show aTab 268 26 = some (.if_icmp .le 6, 3, 0, 0, 0, 0, 0, 0) from rfl) rfl (t := 32) rfl (cdF (by show ¬ _ ≤ _; rw [hsum, e99]; exact hs))) ?_
        refine e_then (e_st hT (y := 268) (pc := 29) (q := (yX12_run, cX12_run, 3, (some .int), 12)) rfl (show aTab 268 29 = some (.ldc 90, 2, 7, 0, (-1000000003), 0, 0, 0) from rfl) (fr' := (268, 31, lv, [.int (-1000000003)])) (M' := M1) rfl) ?_
        rw [mnF_full ha hs]
        exact e_fin (e_iret hT (y := 268) (pc := 31) (q := (yX12_run, cX12_run, 3, (some .int), 12)) rfl (show aTab 268 31 = some (.ireturn, 1, 0, 0, 0, 0, 0, 0) from rfl) ⟨rfl, rfl⟩) ⟨rfl, t1, yFr_rf _ _, h1m⟩
    obtain ⟨N, r, M', p1, rfl, p2, p3, p4⟩ := main
    obtain ⟨N', q1⟩ := m1 N _ p1
    exact ⟨N', M', q1, p2, yFr_tr (nilM f1) p3, p4⟩
  · have hb : a.toInt ≤ 0 ∨ 241 ≤ a.toInt := by omega
    rw [mnF_lo ha]
    rcases hb with hb | hb
    · obtain ⟨N, M1, m1, t1, f1⟩ := mn_bad hT mnA_3 hM (a := a) ⟨i32_lo _, hb⟩
      exact ⟨N, M1, mRun_dm m1 (by decide), t1, nilM f1, fun xs => (yFr_nil f1 120 0).trans (hm xs)⟩
    · obtain ⟨N, M1, m1, t1, f1⟩ := mn_bad hT mnA_4 hM (a := a) ⟨hb, i32_hi _⟩
      exact ⟨N, M1, mRun_dm m1 (by decide), t1, nilM f1, fun xs => (yFr_nil f1 120 0).trans (hm xs)⟩
theorem mnPost_ok (hT : aTabOk) : mnPost := by
  refine ⟨fun M hM m a hm0 hm => ?_, fun M hM m a hm0 hm => ?_⟩
  · obtain ⟨N, r, M', m1, rfl, h1, h2, h3⟩ := xrun_run hT hM hm0 hm (a := a)
    exact ⟨N, M', mRun_dm m1 (by decide), h1, h2, h3⟩
  · obtain ⟨N, M', m1, h1, h2, h3⟩ := mrun_run hT hM hm0 hm (a := a)
    exact ⟨N, M', mRun_dm m1 (by decide), h1, h2, h3⟩
