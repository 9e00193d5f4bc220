/-! WHAT THE HAND PROOFS SHARE -/
section NEST
variable {sc : Option (Nat × (Nat → Int32))} {d y pc : Nat} {lv : List (Nat × Value)} {st : List Value} {M M' : mHe} {q : mMd}
/-- a static call out of a nest -/
theorem e_callsN {idx y' np mx oc N1 : Nat} {v : Int} {res : Option Value} (hT : aTabOk) (hq : mjM y = some q) (he : aTab y pc = some (.invokestatic idx, 3, 3, y', v, np, mx, oc)) (h9 : np ≤ st.length) (hcat : mCat (st.drop np) ≤ 8) (hsl : mCat (st.take np).reverse ≤ mx) (hmx : mx ≤ 100 ∧ oc ≠ 13)
    (hc : mRun none N1 d (y', 0, lv_args 0 (st.take np).reverse, []) M = some (res, M')) : mTo sc (d + 1) (y, pc, lv, st) M (y, pc + 3, lv, res.toList ++ st.drop np) M' := by
  obtain ⟨h1, h2⟩ := e_eq (sc := sc) (d := d + 1) (lv := lv) (st := st) (M := M) hT hq he
  obtain ⟨o1, o2, hR, hC⟩ := aChk_R (k := idx) rfl h2 (by simp)
  obtain ⟨hnp, q2, hq1, hq2, hq3⟩ := hC (by show 1 ≤ 3; omega) (by show 3 ≤ 5; omega)
  have hnp : mNp y' = some np := hnp
  have hq1 : mjM y' = some q2 := hq1
  have hq2 : q2.2.2.1 = mx := hq2
  have hq3 : q2.2.2.2.2 = oc := hq3
  refine mTo_call (y := y') (vs := (st.take np).reverse) (fr' := (y, pc + 3, lv, st.drop np)) ?_ hc
  rw [h1]
  refine mOr_r (fun s hs => by have := mG1 hs; cases this) (mOr_r (fun s hs => by have := mG2 hs; cases this) (mOr_r (fun s hs => by have := mG3 hs; cases this) (mOr_r (fun s hs => by have := mG4 hs; cases this) (mOr_r (fun s hs => by have := mG5 hs; cases this) (mOr_l ?_)))))
  simp only [mOp6, if_true, hR, hnp]
  rw [if_pos h9]
  unfold mCall
  rw [hq1]
  simp only
  rw [if_pos ⟨hcat, by rw [lg_sl_cat, hq2]; exact hsl, by rw [hq2]; exact hmx.1, by rw [hq3]; exact hmx.2⟩]
end NEST
theorem e_mn {sc : Option (Nat × (Nat → Int32))} {d y pc idx : Nat} {lv : List (Nat × Value)} {st : List Value} {M : mHe} {q : mMd} {a b : Int32} {x : Nat × Int × Nat × Nat × Nat} (hT : aTabOk) (hq : mjM y = some q) (he : aTab y pc = some (.invokestatic idx, 3, 14, x)) (hc : mCat st ≤ 8) (hd : 1 ≤ d) : mTo sc d (y, pc, lv, .int b :: .int a :: st) M (y, pc + 3, lv, .int (if b < a then b else a) :: st) M := by
  refine mTo_step ?_
  obtain ⟨h1, h2⟩ := e_eq (sc := sc) (d := d) (lv := lv) (st := .int b :: .int a :: st) (M := M) hT hq he
  rw [h1]
  obtain ⟨o1, o2, hR, -⟩ := aChk_R (k := idx) rfl h2 (by simp)
  refine mOr_r (fun s hs => by have := mG1 hs; cases this) (mOr_r (fun s hs => by have := mG2 hs; cases this) (mOr_r (fun s hs => by have := mG3 hs; cases this) (mOr_r (fun s hs => by have := mG4 hs; cases this) (mOr_r (fun s hs => by have := mG5 hs; cases this) (mOr_l ?_)))))
  simp only [mOp6, hR, hc, hd, and_self, if_true, mGo]
theorem e_mx {sc : Option (Nat × (Nat → Int32))} {d y pc idx : Nat} {lv : List (Nat × Value)} {st : List Value} {M : mHe} {q : mMd} {a b : Int32} {x : Nat × Int × Nat × Nat × Nat} (hT : aTabOk) (hq : mjM y = some q) (he : aTab y pc = some (.invokestatic idx, 3, 13, x)) (hc : mCat st ≤ 8) (hd : 1 ≤ d) : mTo sc d (y, pc, lv, .int b :: .int a :: st) M (y, pc + 3, lv, .int (if a < b then b else a) :: st) M := by
  refine mTo_step ?_
  obtain ⟨h1, h2⟩ := e_eq (sc := sc) (d := d) (lv := lv) (st := .int b :: .int a :: st) (M := M) hT hq he
  rw [h1]
  obtain ⟨o1, o2, hR, -⟩ := aChk_R (k := idx) rfl h2 (by simp)
  refine mOr_r (fun s hs => by have := mG1 hs; cases this) (mOr_r (fun s hs => by have := mG2 hs; cases this) (mOr_r (fun s hs => by have := mG3 hs; cases this) (mOr_r (fun s hs => by have := mG4 hs; cases this) (mOr_r (fun s hs => by have := mG5 hs; cases this) (mOr_l ?_)))))
  simp only [mOp6, hR, hc, hd, and_self, if_true, mGo]
theorem os1 {k : Nat} (h : k < 1000) : Int32.ofNat k + Int32.ofInt 1 = Int32.ofNat (k + 1) := by
  refine Int32.toInt_inj.mp ?_
  have e1 : (Int32.ofInt 1).toInt = 1 := rfl
  rw [i32_add (by rw [i32n (by omega), e1]; omega) (by rw [i32n (by omega), e1]; omega), i32n (by omega), i32n (by omega), e1]
  omega
def gB (b : Bool) : Int32 := bif b then 1 else 0
theorem gB_01 (b : Bool) : gB b = 0 ∨ gB b = 1 := by cases b; exact Or.inl rfl; exact Or.inr rfl
theorem i0lt {x : Int32} : x < 0 ↔ x.toInt < 0 := by
  have h : (0 : Int32).toInt = 0 := rfl
  rw [Int32.lt_iff_toInt_lt, h]
/-! HAND: what lies within, on both sides -/
theorem within_run (hT : aTabOk) {M : mHe} {v l h : Int32} : mEv none 5 (234, 0, lv_args 0 [.int v, .int l, .int h], []) M (fun r M' => r = some (.int (gB (decide (l.toInt ≤ v.toInt ∧ v.toInt ≤ h.toInt)))) ∧ M' = M) := by
  by_cases c1 : v.toInt < l.toInt
  · have e := decide_eq_false (fun z : l.toInt ≤ v.toInt ∧ v.toInt ≤ h.toInt => by omega)
    rw [e]
    refine e_then (e_il1 hT (y := 234) (pc := 0) (q := (yX11_within, cX11_within, 3, (some .boolean), 11)) rfl (show aTab 234 0 = some (.iload_n 0, 1, 0, 0, 0, 0, 0, 0) from rfl) rfl rfl) ?_
    refine e_then (e_il1 hT (y := 234) (pc := 1) (q := (yX11_within, cX11_within, 3, (some .boolean), 11)) rfl (show aTab 234 1 = some (.iload_n 1, 1, 0, 0, 0, 0, 0, 0) from rfl) rfl rfl) ?_
    refine e_then (e_icT hT (y := 234) (pc := 2) (q := (yX11_within, cX11_within, 3, (some .boolean), 11)) rfl (show aTab 234 2 = some (.if_icmp .lt 12, 3, 0, 0, 0, 0, 0, 0) from rfl) rfl (t := 14) rfl (cdT (by show _ < _; exact c1))) ?_
    refine e_then (e_st hT (y := 234) (pc := 14) (q := (yX11_within, cX11_within, 3, (some .boolean), 11)) rfl (show aTab 234 14 = some (.iconst 0, 1, 0, 0, 0, 0, 0, 0) from rfl) (fr' := (234, 15, (lv_args 0 [.int v, .int l, .int h]), [.int 0])) (M' := M) rfl) ?_
    exact e_fin (e_zret hT (y := 234) (pc := 15) (q := (yX11_within, cX11_within, 3, (some .boolean), 11)) rfl (show aTab 234 15 = some (.ireturn, 1, 0, 0, 0, 0, 0, 0) from rfl) ⟨rfl, rfl⟩ (Or.inl rfl)) ⟨rfl, rfl⟩
  by_cases c2 : h.toInt < v.toInt
  · have e := decide_eq_false (fun z : l.toInt ≤ v.toInt ∧ v.toInt ≤ h.toInt => by omega)
    rw [e]
    refine e_then (e_il1 hT (y := 234) (pc := 0) (q := (yX11_within, cX11_within, 3, (some .boolean), 11)) rfl (show aTab 234 0 = some (.iload_n 0, 1, 0, 0, 0, 0, 0, 0) from rfl) rfl rfl) ?_
    refine e_then (e_il1 hT (y := 234) (pc := 1) (q := (yX11_within, cX11_within, 3, (some .boolean), 11)) rfl (show aTab 234 1 = some (.iload_n 1, 1, 0, 0, 0, 0, 0, 0) from rfl) rfl rfl) ?_
    refine e_then (e_icF hT (y := 234) (pc := 2) (q := (yX11_within, cX11_within, 3, (some .boolean), 11)) rfl (show aTab 234 2 = some (.if_icmp .lt 12, 3, 0, 0, 0, 0, 0, 0) from rfl) rfl (t := 14) rfl (cdF (by show ¬ _ < _; exact c1))) ?_
    refine e_then (e_il1 hT (y := 234) (pc := 5) (q := (yX11_within, cX11_within, 3, (some .boolean), 11)) rfl (show aTab 234 5 = some (.iload_n 0, 1, 0, 0, 0, 0, 0, 0) from rfl) rfl rfl) ?_
    refine e_then (e_il1 hT (y := 234) (pc := 6) (q := (yX11_within, cX11_within, 3, (some .boolean), 11)) rfl (show aTab 234 6 = some (.iload_n 2, 1, 0, 0, 0, 0, 0, 0) from rfl) rfl rfl) ?_
    refine e_then (e_icT hT (y := 234) (pc := 7) (q := (yX11_within, cX11_within, 3, (some .boolean), 11)) rfl (show aTab 234 7 = some (.if_icmp .gt 7, 3, 0, 0, 0, 0, 0, 0) from rfl) rfl (t := 14) rfl (cdT (by show _ < _; exact c2))) ?_
    refine e_then (e_st hT (y := 234) (pc := 14) (q := (yX11_within, cX11_within, 3, (some .boolean), 11)) rfl (show aTab 234 14 = some (.iconst 0, 1, 0, 0, 0, 0, 0, 0) from rfl) (fr' := (234, 15, (lv_args 0 [.int v, .int l, .int h]), [.int 0])) (M' := M) rfl) ?_
    exact e_fin (e_zret hT (y := 234) (pc := 15) (q := (yX11_within, cX11_within, 3, (some .boolean), 11)) rfl (show aTab 234 15 = some (.ireturn, 1, 0, 0, 0, 0, 0, 0) from rfl) ⟨rfl, rfl⟩ (Or.inl rfl)) ⟨rfl, rfl⟩
  · have e := decide_eq_true (show l.toInt ≤ v.toInt ∧ v.toInt ≤ h.toInt by omega)
    rw [e]
    refine e_then (e_il1 hT (y := 234) (pc := 0) (q := (yX11_within, cX11_within, 3, (some .boolean), 11)) rfl (show aTab 234 0 = some (.iload_n 0, 1, 0, 0, 0, 0, 0, 0) from rfl) rfl rfl) ?_
    refine e_then (e_il1 hT (y := 234) (pc := 1) (q := (yX11_within, cX11_within, 3, (some .boolean), 11)) rfl (show aTab 234 1 = some (.iload_n 1, 1, 0, 0, 0, 0, 0, 0) from rfl) rfl rfl) ?_
    refine e_then (e_icF hT (y := 234) (pc := 2) (q := (yX11_within, cX11_within, 3, (some .boolean), 11)) rfl (show aTab 234 2 = some (.if_icmp .lt 12, 3, 0, 0, 0, 0, 0, 0) from rfl) rfl (t := 14) rfl (cdF (by show ¬ _ < _; exact c1))) ?_
    refine e_then (e_il1 hT (y := 234) (pc := 5) (q := (yX11_within, cX11_within, 3, (some .boolean), 11)) rfl (show aTab 234 5 = some (.iload_n 0, 1, 0, 0, 0, 0, 0, 0) from rfl) rfl rfl) ?_
    refine e_then (e_il1 hT (y := 234) (pc := 6) (q := (yX11_within, cX11_within, 3, (some .boolean), 11)) rfl (show aTab 234 6 = some (.iload_n 2, 1, 0, 0, 0, 0, 0, 0) from rfl) rfl rfl) ?_
    refine e_then (e_icF hT (y := 234) (pc := 7) (q := (yX11_within, cX11_within, 3, (some .boolean), 11)) rfl (show aTab 234 7 = some (.if_icmp .gt 7, 3, 0, 0, 0, 0, 0, 0) from rfl) rfl (t := 14) rfl (cdF (by show ¬ _ < _; exact c2))) ?_
    refine e_then (e_st hT (y := 234) (pc := 10) (q := (yX11_within, cX11_within, 3, (some .boolean), 11)) rfl (show aTab 234 10 = some (.iconst 1, 1, 0, 0, 0, 0, 0, 0) from rfl) (fr' := (234, 11, (lv_args 0 [.int v, .int l, .int h]), [.int 1])) (M' := M) rfl) ?_
    refine e_then (e_st hT (y := 234) (pc := 11) (q := (yX11_within, cX11_within, 3, (some .boolean), 11)) rfl (show aTab 234 11 = some (.goto 4, 3, 0, 0, 0, 0, 0, 0) from rfl) (fr' := (234, 15, (lv_args 0 [.int v, .int l, .int h]), [.int 1])) (M' := M) rfl) ?_
    exact e_fin (e_zret hT (y := 234) (pc := 15) (q := (yX11_within, cX11_within, 3, (some .boolean), 11)) rfl (show aTab 234 15 = some (.ireturn, 1, 0, 0, 0, 0, 0, 0) from rfl) ⟨rfl, rfl⟩ (Or.inr rfl)) ⟨rfl, rfl⟩
theorem lcmp_lt0 {a b : Int64} : mCd .lt (lg_cmp a b) 0 = decide (a.toInt < b.toInt) := by
  have h := lg_cmp_sg a b
  obtain ⟨h1, h2⟩ := h
  have e0 : (0 : Int32).toInt = 0 := rfl
  by_cases hc : a.toInt < b.toInt
  · rw [decide_eq_true hc]
    exact cdT (by rw [e0]; show _ < (0 : Int); omega)
  · rw [decide_eq_false hc]
    exact cdF (by rw [e0]; show ¬ _ < (0 : Int); omega)
theorem lcmp_gt0 {a b : Int64} : mCd .gt (lg_cmp a b) 0 = decide (b.toInt < a.toInt) := by
  have h := lg_cmp_sg a b
  obtain ⟨h1, h2⟩ := h
  have e0 : (0 : Int32).toInt = 0 := rfl
  by_cases hc : b.toInt < a.toInt
  · rw [decide_eq_true hc]
    exact cdT (by rw [e0]; show (0 : Int) < _; omega)
  · rw [decide_eq_false hc]
    exact cdF (by rw [e0]; show ¬ (0 : Int) < _; omega)
theorem isIn_run (hT : aTabOk) {M : mHe} {v l h : Int64} : mEv none 5 (239, 0, lv_args 0 [.long v, .long l, .long h], []) M (fun r M' => r = some (.int (gB (decide (l.toInt ≤ v.toInt ∧ v.toInt ≤ h.toInt)))) ∧ M' = M) := by
  by_cases c1 : v.toInt < l.toInt
  · have e := decide_eq_false (fun z : l.toInt ≤ v.toInt ∧ v.toInt ≤ h.toInt => by omega)
    rw [e]
    refine e_then (e_st hT (y := 239) (pc := 0) (q := (yX12_isIn, cX12_isIn, 6, (some .boolean), 12)) rfl (show aTab 239 0 = some (.lload_n 0, 1, 0, 0, 0, 0, 0, 0) from rfl) (fr' := (239, 1, (lv_args 0 [.long v, .long l, .long h]), [.long v])) (M' := M) rfl) ?_
    refine e_then (e_st hT (y := 239) (pc := 1) (q := (yX12_isIn, cX12_isIn, 6, (some .boolean), 12)) rfl (show aTab 239 1 = some (.lload_n 2, 1, 0, 0, 0, 0, 0, 0) from rfl) (fr' := (239, 2, (lv_args 0 [.long v, .long l, .long h]), [.long l, .long v])) (M' := M) rfl) ?_
    refine e_then (e_st hT (y := 239) (pc := 2) (q := (yX12_isIn, cX12_isIn, 6, (some .boolean), 12)) rfl (show aTab 239 2 = some (.lcmp, 1, 0, 0, 0, 0, 0, 0) from rfl) (fr' := (239, 3, (lv_args 0 [.long v, .long l, .long h]), [.int (lg_cmp (v) (l))])) (M' := M) rfl) ?_
    refine e_then (e_ifT hT (y := 239) (pc := 3) (q := (yX12_isIn, cX12_isIn, 6, (some .boolean), 12)) rfl (show aTab 239 3 = some (.ifCond .lt 14, 3, 0, 0, 0, 0, 0, 0) from rfl) rfl (t := 17) rfl (by rw [lcmp_lt0]; exact decide_eq_true c1)) ?_
    refine e_then (e_st hT (y := 239) (pc := 17) (q := (yX12_isIn, cX12_isIn, 6, (some .boolean), 12)) rfl (show aTab 239 17 = some (.iconst 0, 1, 0, 0, 0, 0, 0, 0) from rfl) (fr' := (239, 18, (lv_args 0 [.long v, .long l, .long h]), [.int 0])) (M' := M) rfl) ?_
    exact e_fin (e_zret hT (y := 239) (pc := 18) (q := (yX12_isIn, cX12_isIn, 6, (some .boolean), 12)) rfl (show aTab 239 18 = some (.ireturn, 1, 0, 0, 0, 0, 0, 0) from rfl) ⟨rfl, rfl⟩ (Or.inl rfl)) ⟨rfl, rfl⟩
  by_cases c2 : h.toInt < v.toInt
  · have e := decide_eq_false (fun z : l.toInt ≤ v.toInt ∧ v.toInt ≤ h.toInt => by omega)
    rw [e]
    refine e_then (e_st hT (y := 239) (pc := 0) (q := (yX12_isIn, cX12_isIn, 6, (some .boolean), 12)) rfl (show aTab 239 0 = some (.lload_n 0, 1, 0, 0, 0, 0, 0, 0) from rfl) (fr' := (239, 1, (lv_args 0 [.long v, .long l, .long h]), [.long v])) (M' := M) rfl) ?_
    refine e_then (e_st hT (y := 239) (pc := 1) (q := (yX12_isIn, cX12_isIn, 6, (some .boolean), 12)) rfl (show aTab 239 1 = some (.lload_n 2, 1, 0, 0, 0, 0, 0, 0) from rfl) (fr' := (239, 2, (lv_args 0 [.long v, .long l, .long h]), [.long l, .long v])) (M' := M) rfl) ?_
    refine e_then (e_st hT (y := 239) (pc := 2) (q := (yX12_isIn, cX12_isIn, 6, (some .boolean), 12)) rfl (show aTab 239 2 = some (.lcmp, 1, 0, 0, 0, 0, 0, 0) from rfl) (fr' := (239, 3, (lv_args 0 [.long v, .long l, .long h]), [.int (lg_cmp (v) (l))])) (M' := M) rfl) ?_
    refine e_then (e_ifF hT (y := 239) (pc := 3) (q := (yX12_isIn, cX12_isIn, 6, (some .boolean), 12)) rfl (show aTab 239 3 = some (.ifCond .lt 14, 3, 0, 0, 0, 0, 0, 0) from rfl) rfl (t := 17) rfl (by rw [lcmp_lt0]; exact decide_eq_false c1)) ?_
    refine e_then (e_st hT (y := 239) (pc := 6) (q := (yX12_isIn, cX12_isIn, 6, (some .boolean), 12)) rfl (show aTab 239 6 = some (.lload_n 0, 1, 0, 0, 0, 0, 0, 0) from rfl) (fr' := (239, 7, (lv_args 0 [.long v, .long l, .long h]), [.long v])) (M' := M) rfl) ?_
    refine e_then (e_st hT (y := 239) (pc := 7) (q := (yX12_isIn, cX12_isIn, 6, (some .boolean), 12)) rfl (show aTab 239 7 = some (.lload 4, 2, 0, 0, 0, 0, 0, 0) from rfl) (fr' := (239, 9, (lv_args 0 [.long v, .long l, .long h]), [.long h, .long v])) (M' := M) rfl) ?_
    refine e_then (e_st hT (y := 239) (pc := 9) (q := (yX12_isIn, cX12_isIn, 6, (some .boolean), 12)) rfl (show aTab 239 9 = some (.lcmp, 1, 0, 0, 0, 0, 0, 0) from rfl) (fr' := (239, 10, (lv_args 0 [.long v, .long l, .long h]), [.int (lg_cmp (v) (h))])) (M' := M) rfl) ?_
    refine e_then (e_ifT hT (y := 239) (pc := 10) (q := (yX12_isIn, cX12_isIn, 6, (some .boolean), 12)) rfl (show aTab 239 10 = some (.ifCond .gt 7, 3, 0, 0, 0, 0, 0, 0) from rfl) rfl (t := 17) rfl (by rw [lcmp_gt0]; exact decide_eq_true c2)) ?_
    refine e_then (e_st hT (y := 239) (pc := 17) (q := (yX12_isIn, cX12_isIn, 6, (some .boolean), 12)) rfl (show aTab 239 17 = some (.iconst 0, 1, 0, 0, 0, 0, 0, 0) from rfl) (fr' := (239, 18, (lv_args 0 [.long v, .long l, .long h]), [.int 0])) (M' := M) rfl) ?_
    exact e_fin (e_zret hT (y := 239) (pc := 18) (q := (yX12_isIn, cX12_isIn, 6, (some .boolean), 12)) rfl (show aTab 239 18 = some (.ireturn, 1, 0, 0, 0, 0, 0, 0) from rfl) ⟨rfl, rfl⟩ (Or.inl rfl)) ⟨rfl, rfl⟩
  · have e := decide_eq_true (show l.toInt ≤ v.toInt ∧ v.toInt ≤ h.toInt by omega)
    rw [e]
    refine e_then (e_st hT (y := 239) (pc := 0) (q := (yX12_isIn, cX12_isIn, 6, (some .boolean), 12)) rfl (show aTab 239 0 = some (.lload_n 0, 1, 0, 0, 0, 0, 0, 0) from rfl) (fr' := (239, 1, (lv_args 0 [.long v, .long l, .long h]), [.long v])) (M' := M) rfl) ?_
    refine e_then (e_st hT (y := 239) (pc := 1) (q := (yX12_isIn, cX12_isIn, 6, (some .boolean), 12)) rfl (show aTab 239 1 = some (.lload_n 2, 1, 0, 0, 0, 0, 0, 0) from rfl) (fr' := (239, 2, (lv_args 0 [.long v, .long l, .long h]), [.long l, .long v])) (M' := M) rfl) ?_
    refine e_then (e_st hT (y := 239) (pc := 2) (q := (yX12_isIn, cX12_isIn, 6, (some .boolean), 12)) rfl (show aTab 239 2 = some (.lcmp, 1, 0, 0, 0, 0, 0, 0) from rfl) (fr' := (239, 3, (lv_args 0 [.long v, .long l, .long h]), [.int (lg_cmp (v) (l))])) (M' := M) rfl) ?_
    refine e_then (e_ifF hT (y := 239) (pc := 3) (q := (yX12_isIn, cX12_isIn, 6, (some .boolean), 12)) rfl (show aTab 239 3 = some (.ifCond .lt 14, 3, 0, 0, 0, 0, 0, 0) from rfl) rfl (t := 17) rfl (by rw [lcmp_lt0]; exact decide_eq_false c1)) ?_
    refine e_then (e_st hT (y := 239) (pc := 6) (q := (yX12_isIn, cX12_isIn, 6, (some .boolean), 12)) rfl (show aTab 239 6 = some (.lload_n 0, 1, 0, 0, 0, 0, 0, 0) from rfl) (fr' := (239, 7, (lv_args 0 [.long v, .long l, .long h]), [.long v])) (M' := M) rfl) ?_
    refine e_then (e_st hT (y := 239) (pc := 7) (q := (yX12_isIn, cX12_isIn, 6, (some .boolean), 12)) rfl (show aTab 239 7 = some (.lload 4, 2, 0, 0, 0, 0, 0, 0) from rfl) (fr' := (239, 9, (lv_args 0 [.long v, .long l, .long h]), [.long h, .long v])) (M' := M) rfl) ?_
    refine e_then (e_st hT (y := 239) (pc := 9) (q := (yX12_isIn, cX12_isIn, 6, (some .boolean), 12)) rfl (show aTab 239 9 = some (.lcmp, 1, 0, 0, 0, 0, 0, 0) from rfl) (fr' := (239, 10, (lv_args 0 [.long v, .long l, .long h]), [.int (lg_cmp (v) (h))])) (M' := M) rfl) ?_
    refine e_then (e_ifF hT (y := 239) (pc := 10) (q := (yX12_isIn, cX12_isIn, 6, (some .boolean), 12)) rfl (show aTab 239 10 = some (.ifCond .gt 7, 3, 0, 0, 0, 0, 0, 0) from rfl) rfl (t := 17) rfl (by rw [lcmp_gt0]; exact decide_eq_false c2)) ?_
    refine e_then (e_st hT (y := 239) (pc := 13) (q := (yX12_isIn, cX12_isIn, 6, (some .boolean), 12)) rfl (show aTab 239 13 = some (.iconst 1, 1, 0, 0, 0, 0, 0, 0) from rfl) (fr' := (239, 14, (lv_args 0 [.long v, .long l, .long h]), [.int 1])) (M' := M) rfl) ?_
    refine e_then (e_st hT (y := 239) (pc := 14) (q := (yX12_isIn, cX12_isIn, 6, (some .boolean), 12)) rfl (show aTab 239 14 = some (.goto 4, 3, 0, 0, 0, 0, 0, 0) from rfl) (fr' := (239, 18, (lv_args 0 [.long v, .long l, .long h]), [.int 1])) (M' := M) rfl) ?_
    exact e_fin (e_zret hT (y := 239) (pc := 18) (q := (yX12_isIn, cX12_isIn, 6, (some .boolean), 12)) rfl (show aTab 239 18 = some (.ireturn, 1, 0, 0, 0, 0, 0, 0) from rfl) ⟨rfl, rfl⟩ (Or.inr rfl)) ⟨rfl, rfl⟩
/-- the same for an int -/
theorem isIn_i (hT : aTabOk) {M : mHe} {v : Int32} {l h : Int64} {d : Nat} (hd : 5 ≤ d) : ∃ K, mRun none K d (239, 0, lv_args 0 [.long v.toInt64, .long l, .long h], []) M = some (some (.int (gB (decide (l.toInt ≤ v.toInt ∧ v.toInt ≤ h.toInt)))), M) := by
  obtain ⟨K, r, M', q1, rfl, rfl⟩ := isIn_run hT (M := M) (v := v.toInt64) (l := l) (h := h)
  rw [Int32.toInt_toInt64] at q1
  exact ⟨K, mRun_dm q1 hd⟩
theorem within_i (hT : aTabOk) {M : mHe} {v l h : Int32} {d : Nat} (hd : 5 ≤ d) : ∃ K, mRun none K d (234, 0, lv_args 0 [.int v, .int l, .int h], []) M = some (some (.int (gB (decide (l.toInt ≤ v.toInt ∧ v.toInt ≤ h.toInt)))), M) := by
  obtain ⟨K, r, M', q1, rfl, rfl⟩ := within_run hT (M := M) (v := v) (l := l) (h := h)
  exact ⟨K, mRun_dm q1 hd⟩
theorem gB_t {p : Prop} {_ : Decidable p} (h : p) : gB (decide p) = 1 := by rw [decide_eq_true h]; rfl
theorem gB_f {p : Prop} {_ : Decidable p} (h : ¬ p) : gB (decide p) = 0 := by rw [decide_eq_false h]; rfl
theorem nat_inj32 {a b : Nat} (ha : a < 2147483648) (hb : b < 2147483648) (h : Int32.ofNat a = Int32.ofNat b) : a = b := by
  have := congrArg Int32.toInt h
  rw [i32n ha, i32n hb] at this
  omega
theorem or_and0 (x y z : Int32) : (x ||| y) &&& z = 0 ↔ x &&& z = 0 ∧ y &&& z = 0 := by
  constructor
  · intro h
    have h' : (x.toBitVec ||| y.toBitVec) &&& z.toBitVec = 0#32 := congrArg Int32.toBitVec h
    have hb : ∀ i, ((x.toBitVec ||| y.toBitVec) &&& z.toBitVec).getLsbD i = false := fun i => by rw [h']; simp
    simp only [BitVec.getLsbD_and, BitVec.getLsbD_or] at hb
    refine ⟨Int32.toBitVec_inj.mp (BitVec.eq_of_getLsbD_eq (fun i _ => ?_)), Int32.toBitVec_inj.mp (BitVec.eq_of_getLsbD_eq (fun i _ => ?_))⟩
    · show (x.toBitVec &&& z.toBitVec).getLsbD i = (0#32).getLsbD i
      rw [BitVec.getLsbD_and]
      have := hb i
      revert this
      cases x.toBitVec.getLsbD i <;> cases y.toBitVec.getLsbD i <;> cases z.toBitVec.getLsbD i <;> simp
    · show (y.toBitVec &&& z.toBitVec).getLsbD i = (0#32).getLsbD i
      rw [BitVec.getLsbD_and]
      have := hb i
      revert this
      cases x.toBitVec.getLsbD i <;> cases y.toBitVec.getLsbD i <;> cases z.toBitVec.getLsbD i <;> simp
  · rintro ⟨h1, h2⟩
    have h1' : x.toBitVec &&& z.toBitVec = 0#32 := congrArg Int32.toBitVec h1
    have h2' : y.toBitVec &&& z.toBitVec = 0#32 := congrArg Int32.toBitVec h2
    refine Int32.toBitVec_inj.mp (BitVec.eq_of_getLsbD_eq (fun i _ => ?_))
    have a1 : (x.toBitVec &&& z.toBitVec).getLsbD i = false := by rw [h1']; simp
    have a2 : (y.toBitVec &&& z.toBitVec).getLsbD i = false := by rw [h2']; simp
    rw [BitVec.getLsbD_and] at a1 a2
    show ((x.toBitVec ||| y.toBitVec) &&& z.toBitVec).getLsbD i = (0#32).getLsbD i
    rw [BitVec.getLsbD_and, BitVec.getLsbD_or]
    revert a1 a2
    cases x.toBitVec.getLsbD i <;> cases y.toBitVec.getLsbD i <;> cases z.toBitVec.getLsbD i <;> simp
/-- a number in a field or a row, with its bounds -/
theorem rd_reg {M : mHe} (hM : yTy M) {c n tag k : Nat} {regs : List tR} (ht : tTy c = some (.inl (n, tag, regs))) (hk : k < n) {r : tR} (hr : r ∈ regs) (h1 : r.1 ≤ (k : Int)) (h2 : (k : Int) ≤ r.2.1) : (tV1 r.2.2.2 r.2.2.1 r.1 (k : Int)).1 ≤ (rdI M c k).toInt ∧ (rdI M c k).toInt ≤ (tV1 r.2.2.2 r.2.2.1 r.1 (k : Int)).2 := by
  obtain ⟨f, hf, h3, -⟩ := yTy_arr hM ht
  rw [rdI_arr (tTy_lt ht) hf hk]
  exact h3 r hr k hk h1 h2
