/-! HAND: a row set aside -/
def sAs (fa fb : Nat → Int32) (k : Nat) : Nat → Int32 := fun i => if i < k then fa i else fb i
theorem sAs_upd (fa fb : Nat → Int32) (k : Nat) : upd (sAs fa fb k) k (fa k) = sAs fa fb (k + 1) := by
  funext i
  unfold upd sAs
  by_cases h : i = k
  · subst h; rw [if_pos rfl, if_pos (by omega)]
  · rw [if_neg h]
    by_cases h2 : i < k
    · rw [if_pos h2, if_pos (by omega)]
    · rw [if_neg h2, if_neg (by omega)]
theorem aside_loop (hT : aTabOk) {d a b : Nat} {M0 : mHe} {fa fb : Nat → Int32} (hab : a ≠ b) (hb : b < M0.length) (ha : M0[a]? = some (.inl (4000, fa))) : ∀ (j k : Nat) (lv : List (Nat × Value)), k + j = 4000 → mlg 1 lv = some (.ref (9 + a)) → mlg 2 lv = some (.ref (9 + b)) → mlg 3 lv = some (.int (Int32.ofNat k)) → mEv none d (356, 2, lv, []) (M0.set b (.inl (4000, sAs fa fb k))) (fun r M' => r = none ∧ M' = M0.set b (.inl (4000, sAs fa fb 4000))) := by
  have ea : 9 + a - 9 = a := by omega
  have eb : 9 + b - 9 = b := by omega
  have e4 : (4000 : Int32).toInt = 4000 := rfl
  intro j
  induction j with
  | zero =>
    intro k lv hk h1 h2 h3
    have hk : k = 4000 := by omega
    subst hk
    refine e_then (e_il1 hT (y := 356) (pc := 2) (q := (yX12_setAside, cX12_setAside, 4, none, 12)) rfl (show aTab 356 2 = some (.iload_n 3, 1, 0, 0, 0, 0, 0, 0) from rfl) rfl h3) ?_
    refine e_then (e_st hT (y := 356) (pc := 3) (q := (yX12_setAside, cX12_setAside, 4, none, 12)) rfl (show aTab 356 3 = some (.sipush 4000, 3, 0, 0, 0, 0, 0, 0) from rfl) (fr' := (356, 6, lv, [.int 4000, .int (Int32.ofNat 4000)])) (M' := _) rfl) ?_
    refine e_then (e_icT hT (y := 356) (pc := 6) (q := (yX12_setAside, cX12_setAside, 4, none, 12)) rfl (show aTab 356 6 = some (.if_icmp .ge 15, 3, 0, 0, 0, 0, 0, 0) from rfl) rfl (t := 21) rfl (cdT (by rw [i32n (by omega), e4]; show (4000 : Int) ≤ _; omega))) ?_
    exact e_fin (e_vret hT (y := 356) (pc := 21) (q := (yX12_setAside, cX12_setAside, 4, none, 12)) rfl (show aTab 356 21 = some (.return_, 1, 0, 0, 0, 0, 0, 0) from rfl) ⟨rfl, rfl⟩) ⟨rfl, rfl⟩
  | succ j ih =>
    intro k lv hk h1 h2 h3
    have hget : (M0.set b (.inl (4000, sAs fa fb k)))[9 + a - 9]? = some (.inl (4000, fa)) := by rw [ea, List.getElem?_set_ne (fun z => hab z.symm)]; exact ha
    have hput : (M0.set b (.inl (4000, sAs fa fb k)))[9 + b - 9]? = some (.inl (4000, sAs fa fb k)) := by rw [eb, List.getElem?_set_self hb]
    have hix : 0 ≤ (Int32.ofNat k).toInt ∧ (Int32.ofNat k).toInt < (4000 : Nat) := by rw [i32n (by omega)]; omega
    refine e_then (e_il1 hT (y := 356) (pc := 2) (q := (yX12_setAside, cX12_setAside, 4, none, 12)) rfl (show aTab 356 2 = some (.iload_n 3, 1, 0, 0, 0, 0, 0, 0) from rfl) rfl h3) ?_
    refine e_then (e_st hT (y := 356) (pc := 3) (q := (yX12_setAside, cX12_setAside, 4, none, 12)) rfl (show aTab 356 3 = some (.sipush 4000, 3, 0, 0, 0, 0, 0, 0) from rfl) (fr' := (356, 6, lv, [.int 4000, .int (Int32.ofNat k)])) (M' := _) rfl) ?_
    refine e_then (e_icF hT (y := 356) (pc := 6) (q := (yX12_setAside, cX12_setAside, 4, none, 12)) rfl (show aTab 356 6 = some (.if_icmp .ge 15, 3, 0, 0, 0, 0, 0, 0) from rfl) rfl (t := 21) rfl (cdF (by rw [i32n (by omega), e4]; show ¬ (4000 : Int) ≤ _; omega))) ?_
    refine e_then (e_al1 hT (y := 356) (pc := 9) (q := (yX12_setAside, cX12_setAside, 4, none, 12)) rfl (show aTab 356 9 = some (.aload_n 2, 1, 0, 0, 0, 0, 0, 0) from rfl) rfl h2) ?_
    refine e_then (e_il1 hT (y := 356) (pc := 10) (q := (yX12_setAside, cX12_setAside, 4, none, 12)) rfl (show aTab 356 10 = some (.iload_n 3, 1, 0, 0, 0, 0, 0, 0) from rfl) rfl h3) ?_
    refine e_then (e_al1 hT (y := 356) (pc := 11) (q := (yX12_setAside, cX12_setAside, 4, none, 12)) rfl (show aTab 356 11 = some (.aload_n 1, 1, 0, 0, 0, 0, 0, 0) from rfl) rfl h1) ?_
    refine e_then (e_il1 hT (y := 356) (pc := 12) (q := (yX12_setAside, cX12_setAside, 4, none, 12)) rfl (show aTab 356 12 = some (.iload_n 3, 1, 0, 0, 0, 0, 0, 0) from rfl) rfl h3) ?_
    refine e_then (e_ald hT (y := 356) (pc := 13) (q := (yX12_setAside, cX12_setAside, 4, none, 12)) rfl (show aTab 356 13 = some (.iaload, 1, 0, 0, 0, 0, 0, 0) from rfl) ⟨rfl, by omega⟩ hget hix) ?_
    refine e_then (e_ast hT (y := 356) (pc := 14) (q := (yX12_setAside, cX12_setAside, 4, none, 12)) rfl (show aTab 356 14 = some (.iastore, 1, 0, 0, 0, 0, 0, 0) from rfl) ⟨rfl, by omega⟩ hput hix) ?_
    refine e_then (e_ii hT (y := 356) (pc := 15) (q := (yX12_setAside, cX12_setAside, 4, none, 12)) rfl (show aTab 356 15 = some (.iinc 3 1, 3, 0, 0, 0, 0, 0, 0) from rfl) ⟨rfl, by decide⟩ h3) ?_
    refine e_then (e_st hT (y := 356) (pc := 18) (q := (yX12_setAside, cX12_setAside, 4, none, 12)) rfl (show aTab 356 18 = some (.goto (-16), 3, 0, 0, 0, 0, 0, 0) from rfl) (fr' := (356, 2, mlp 3 (.int (Int32.ofNat k + Int32.ofInt 1)) lv, [])) (M' := _) rfl) ?_
    have es : Int32.ofNat k + Int32.ofInt 1 = Int32.ofNat (k + 1) := by
      refine i32eq ?_
      have e1 : (Int32.ofInt 1).toInt = 1 := rfl
      rw [i32_add (by rw [i32n (by omega), e1]; omega) (by rw [i32n (by omega), e1]; omega), i32n (by omega), i32n (by omega), e1]
      omega
    have em : (Int32.ofNat k).toInt.toNat = k := by rw [i32n (by omega)]; omega
    rw [es, em, eb, List.set_set, sAs_upd]
    exact ih (k + 1) _ (by omega) (mlg_r h1 (by decide)) (mlg_r h2 (by decide)) (mlg_eq 3 _ _)
theorem sAs_P {fa fb : Nat → Int32} (h : yP fa) : yP (sAs fa fb 4000) := by
  have same : ∀ i, i < 4000 → sAs fa fb 4000 i = fa i := fun i hi => by unfold sAs; rw [if_pos hi]
  have p1 := h.1
  exact yP_same (same _ (by omega)) (same _ (by omega)) (fun j o hj ho => same _ (by omega)) (fun j hj => Or.inl (same _ (by omega))) (fun i h1 h2 => same _ (by omega)) h
theorem hand_aside (hT : aTabOk) {a b : Nat} (ha : tTy a = some (.inl (4000, 1, tRegS))) (hb : tTy b = some (.inl (4000, 1, tRegS))) (hab : a ≠ b) : tCtOk (356, [(0, 128, 0, 0), (0, 9 + a, 0, 0), (0, 9 + b, 0, 0)], none, [(b, 0, 3999, 1, 0)], 1, [(a, b)], []) := by
  intro M vs d hM hvs hd _
  obtain ⟨fa, hma, hfa, hpa⟩ := yTy_arr hM ha
  obtain ⟨fb, hmb, hfb, hpb⟩ := yTy_arr hM hb
  have hbl := (List.getElem?_eq_some_iff.mp hmb).1
  obtain ⟨rfl⟩ : vs = [.ref 128, .ref (9 + a), .ref (9 + b)] := by
    match vs, hvs with
    | [v1, v2, v3], h =>
      have h1 : v1 = .ref 128 := h.1
      have h2 : v2 = .ref (9 + a) := h.2.1
      have h3 : v3 = .ref (9 + b) := h.2.2.1
      rw [h1, h2, h3]
  have h0 : sAs fa fb 0 = fb := by funext i; unfold sAs; rw [if_neg (by omega)]
  have hm0 : M.set b (.inl (4000, sAs fa fb 0)) = M := by
    rw [h0]
    apply List.ext_getElem?
    intro i
    by_cases hi : i = b
    · subst hi; rw [List.getElem?_set_self hbl, hmb]
    · rw [List.getElem?_set_ne (fun z => hi z.symm)]
  have hlen : ∀ i, i < 4000 → sAs fa fb 4000 i = fa i := fun i hi => by unfold sAs; rw [if_pos hi]
  have main : mEv none d (356, 0, lv_args 0 [.ref 128, .ref (9 + a), .ref (9 + b)], []) M (fun r M' => r = none ∧ M' = M.set b (.inl (4000, sAs fa fb 4000))) := by
    refine e_then (e_st hT (y := 356) (pc := 0) (q := (yX12_setAside, cX12_setAside, 4, none, 12)) rfl (show aTab 356 0 = some (.iconst 0, 1, 0, 0, 0, 0, 0, 0) from rfl) (fr' := (356, 1, (lv_args 0 [.ref 128, .ref (9 + a), .ref (9 + b)]), [.int 0])) (M' := M) rfl) ?_
    refine e_then (e_is1 hT (y := 356) (pc := 1) (q := (yX12_setAside, cX12_setAside, 4, none, 12)) rfl (show aTab 356 1 = some (.istore_n 3, 1, 0, 0, 0, 0, 0, 0) from rfl) ⟨rfl, by decide⟩) ?_
    have := aside_loop hT (d := d) hab hbl hma (fb := fb) 4000 0 (mlp 3 (.int 0) (lv_args 0 [.ref 128, .ref (9 + a), .ref (9 + b)])) (by omega) (mlg_r rfl (by decide)) (mlg_r rfl (by decide)) (mlg_eq 3 _ _)
    rw [hm0] at this
    exact this
  obtain ⟨N, r, M', m1, rfl, rfl⟩ := main
  have hrd : ∀ (xs : tXs) (k : Nat), yRd xs (M.set b (.inl (4000, sAs fa fb 4000))) b k = yRd xs M a k := by
    intro xs k
    have e1 : ∀ (M2 : mHe) (c : Nat) (f : Nat → Int32), c < 144 → M2[c]? = some (.inl (4000, f)) → yRd xs M2 c k = if k < 4000 then some (.int (f k)) else none := by
      intro M2 c f hc h
      unfold yRd
      rw [if_neg (by omega), h]
    rw [e1 _ b _ (tTy_lt hb) (List.getElem?_set_self hbl), e1 _ a _ (tTy_lt ha) hma]
    by_cases hk : k < 4000
    · rw [if_pos hk, if_pos hk, hlen k hk]
    · rw [if_neg hk, if_neg hk]
  refine ⟨N, none, _, m1, yTy_set hM hb (fun r hr k hk k1 k2 => by rw [hlen k hk]; exact hfa r hr k hk k1 k2) (fun _ => sAs_P (hpa rfl)), ?_, rfl, fun ab hab xs k => ?_⟩
  · intro xs c k hn
    by_cases hc : c = b
    · subst hc
      by_cases hk : k < 4000
      · exact absurd ⟨rfl, by show (0 : Int) ≤ _; omega, by show _ ≤ (3999 : Int); omega, Int.emod_one _⟩ (hn _ (List.mem_singleton_self _))
      · unfold yRd
        rw [List.getElem?_set_self hbl, hmb]
        simp only
        rw [if_neg hk, if_neg hk]
    · exact yRd_ne hc
  · rw [List.mem_singleton.mp hab]
    exact hrd xs k
/-! HAND: a text worked out -/
theorem textAt_run (hT : aTabOk) {d r : Nat} {t : Int32} {M : mHe} : ∃ N, mRun none N d (247, 0, lv_args 0 [.ref r, .int t], []) M = some (some (.int (1010 + 200 * t)), M) := by
  have h : mEv none d (247, 0, lv_args 0 [.ref r, .int t], []) M (fun x M' => x = some (.int (1010 + 200 * t)) ∧ M' = M) := by
    refine e_then (e_st hT (y := 247) (pc := 0) (q := (yX12_textAt, cX12_textAt, 2, (some .int), 12)) rfl (show aTab 247 0 = some (.sipush 1010, 3, 0, 0, 0, 0, 0, 0) from rfl) (fr' := (247, 3, (lv_args 0 [.ref r, .int t]), [.int 1010])) (M' := M) rfl) ?_
    refine e_then (e_st hT (y := 247) (pc := 3) (q := (yX12_textAt, cX12_textAt, 2, (some .int), 12)) rfl (show aTab 247 3 = some (.sipush 200, 3, 0, 0, 0, 0, 0, 0) from rfl) (fr' := (247, 6, (lv_args 0 [.ref r, .int t]), [.int 200, .int 1010])) (M' := M) rfl) ?_
    refine e_then (e_il1 hT (y := 247) (pc := 6) (q := (yX12_textAt, cX12_textAt, 2, (some .int), 12)) rfl (show aTab 247 6 = some (.iload_n 1, 1, 0, 0, 0, 0, 0, 0) from rfl) rfl rfl) ?_
    refine e_then (e_st hT (y := 247) (pc := 7) (q := (yX12_textAt, cX12_textAt, 2, (some .int), 12)) rfl (show aTab 247 7 = some (.imul, 1, 0, 0, 0, 0, 0, 0) from rfl) (fr' := (247, 8, (lv_args 0 [.ref r, .int t]), [.int (200 * t), .int 1010])) (M' := M) rfl) ?_
    refine e_then (e_st hT (y := 247) (pc := 8) (q := (yX12_textAt, cX12_textAt, 2, (some .int), 12)) rfl (show aTab 247 8 = some (.iadd, 1, 0, 0, 0, 0, 0, 0) from rfl) (fr' := (247, 9, (lv_args 0 [.ref r, .int t]), [.int (1010 + (200 * t))])) (M' := M) rfl) ?_
    exact e_fin (e_iret hT (y := 247) (pc := 9) (q := (yX12_textAt, cX12_textAt, 2, (some .int), 12)) rfl (show aTab 247 9 = some (.ireturn, 1, 0, 0, 0, 0, 0, 0) from rfl) ⟨rfl, rfl⟩) ⟨rfl, rfl⟩
  obtain ⟨N, x, M', h1, rfl, rfl⟩ := h
  exact ⟨N, h1⟩
def wkK : tKt := (fun y pc => bif Nat.beq y 324 && Nat.beq pc 4 then some (.inr none) else none, [])
def wkLv : List (Nat × aV) := [(0, kR 128), (1, (4, 0, 0, 0)), (2, (4, 1, 0, 0)), (3, (4, 2, 0, 0)), (4, (4, 3, 0, 0)), (5, (4, 4, 0, 0))]
def wkB (nl nh wl wh vl vh : Int) : List (Int × Int) := [(0, 11), (nl, nh), (0, 95), (wl, wh), (vl, vh)]
def wkOk (dl : Int) (lf : tLf_) : Bool := match lf.1 with
  | .inl (y, pc, lv, []) => Nat.beq y 324 && Nat.beq pc 4 && (tHas lv 0 (kR 128) && (tHas lv 1 (4, 0, 0, 0) && (tHas lv 2 (4, 1, dl, 0) && tHas lv 3 (4, 2, 1, 0))))
  | _ => false
def wkChk (dl nl nh wl wh vl vh : Int) : Bool := match tRun wkK 3000 false 2 [[(131, 0, 99, 1, 0)]] [] (324, 58, wkLv, []) [] (wkB nl nh wl wh vl vh, []) with
  | none => false
  | some l => l.all (wkOk dl)
theorem wk_A0 : wkChk 1 0 95 0 0 (-2147483648) 2147483647 = true := by decide +kernel
theorem wk_A1 : wkChk 1 0 95 (-2147483648) (-1) 0 127 = true := by decide +kernel
theorem wk_A2 : wkChk 1 0 95 1 1 0 127 = true := by decide +kernel
theorem wk_A3 : wkChk 1 0 95 3 2147483647 0 127 = true := by decide +kernel
theorem wk_B : wkChk 0 1 96 2 2 33 33 = true := by decide +kernel
theorem wk_C1 : wkChk (-1) 2 96 2 2 (-2147483648) 32 = true := by decide +kernel
theorem wk_C2 : wkChk (-1) 2 96 2 2 34 2147483647 = true := by decide +kernel
/-- a turn, from where the step is loaded to the next -/
theorem wk_seg (hT : aTabOk) {t n w v : Int32} {k : Nat} {lv : List (Nat × Value)} {M : mHe} {dl nl nh wl wh vl vh : Int} (hc : wkChk dl nl nh wl wh vl vh = true) (hM : yTy M) (ht : 0 ≤ t.toInt ∧ t.toInt ≤ 11) (hn : nl ≤ n.toInt ∧ n.toInt ≤ nh) (hk : k < 96) (hw : wl ≤ w.toInt ∧ w.toInt ≤ wh) (hv : vl ≤ v.toInt ∧ v.toInt ≤ vh)
    (h0 : mlg 0 lv = some (.ref 128)) (h1 : mlg 1 lv = some (.int t)) (h2 : mlg 2 lv = some (.int n)) (h3 : mlg 3 lv = some (.int (Int32.ofNat k))) (h4 : mlg 4 lv = some (.int w)) (h5 : mlg 5 lv = some (.int v)) :
    ∃ lv' M' n', mTo none 2 (324, 58, lv, []) M (324, 4, lv', []) M' ∧ yTy M' ∧ yFr [(131, 0, 99, 1, 0)] M M' ∧ mlg 0 lv' = some (.ref 128) ∧ mlg 1 lv' = some (.int t) ∧ mlg 2 lv' = some (.int n') ∧ n'.toInt = n.toInt + dl ∧ mlg 3 lv' = some (.int (Int32.ofNat (k + 1))) := by
  have e3 := i32n (k := k) (by omega)
  unfold wkChk at hc
  split at hc
  · cases hc
  · next lfs hr =>
    have hE : xE [t.toInt, n.toInt, (Int32.ofNat k).toInt, w.toInt, v.toInt] (wkB nl nh wl wh vl vh, []) := by
      refine xE_of_list rfl (fun i l u e hb he => ?_)
      match i with
      | 0 => cases hb; cases he; exact ⟨ht, i32_lo _, i32_hi _⟩
      | 1 => cases hb; cases he; exact ⟨hn, i32_lo _, i32_hi _⟩
      | 2 => cases hb; cases he; exact ⟨by rw [e3]; omega, i32_lo _, i32_hi _⟩
      | 3 => cases hb; cases he; exact ⟨hw, i32_lo _, i32_hi _⟩
      | 4 => cases hb; cases he; exact ⟨hv, i32_lo _, i32_hi _⟩
      | i + 5 => simp [wkB] at hb
    have hL : yLv [t.toInt, n.toInt, (Int32.ofNat k).toInt, w.toInt, v.toInt] wkLv lv := yLv_cons h0 (yV_kR _ _) (yLv_cons h1 (yV_atom rfl) (yLv_cons h2 (yV_atom rfl) (yLv_cons h3 (yV_atom rfl) (yLv_cons h4 (yV_atom rfl) (yLv_cons h5 (yV_atom rfl) (yLv_nil _ _))))))
    obtain ⟨lf, f1, X, f2, f3⟩ := tSeg (xs := (0, fun _ => 0)) hT (fun ct hct => by cases hct) hr hE hL (cst := []) (show yS _ [] [] from trivial) ⟨hM, fun q hq => by cases hq⟩
    have hok := List.all_eq_true.mp hc lf f1
    unfold wkOk at hok
    obtain ⟨r0, fs, cs2⟩ := lf
    simp only at hok f2 f3
    split at hok
    · next y pc al =>
      rw [Bool.and_eq_true, Bool.and_eq_true, Bool.and_eq_true, Bool.and_eq_true, Bool.and_eq_true] at hok
      obtain ⟨⟨o1, o2⟩, o3, o4, o5, o6⟩ := hok
      have o1 := Nat.eq_of_beq_eq_true o1
      have o2 := Nat.eq_of_beq_eq_true o2
      subst o1; subst o2
      obtain ⟨lv', st', M', m1, m2, m3, m4, m5⟩ := f3
      have := yS_nil m3
      subst this
      obtain ⟨x1, e1, a1, a2, a3⟩ := tHas_i o4 m2
      obtain ⟨x2, e2, b1, b2, b3⟩ := tHas_i o5 m2
      obtain ⟨x3, e4, c1, c2, c3⟩ := tHas_i o6 m2
      cases a2; cases b2; cases c2
      refine ⟨lv', M', x2, m1, m4.1, m5 _ (List.mem_singleton_self _), tHas_r o3 m2, ?_, b1, b3, ?_⟩
      · rw [a1, i32eq (x := x1) (y := t) (by omega)]
      · rw [c1, i32eq (x := x3) (y := Int32.ofNat (k + 1)) (by rw [c3, e3, i32n (by omega)]; omega)]
    · cases hok
theorem dep_le {f : Nat → Int32} {t : Nat} {dep : Nat → Int} (h0 : dep 0 = 0) (hs : ∀ j : Nat, (j : Int) < (f (1010 + 200 * t + 3)).toInt → yStp (f (1010 + 200 * t + 4 + 2 * j)).toInt (f (1010 + 200 * t + 4 + 2 * j + 1)).toInt (dep j) (dep (j + 1))) : ∀ k : Nat, (k : Int) ≤ (f (1010 + 200 * t + 3)).toInt ∨ k = 0 → 0 ≤ dep k ∧ dep k ≤ k := by
  intro k
  induction k with
  | zero => intro _; rw [h0]; omega
  | succ k ih =>
    intro hk
    have hk : ((k + 1 : Nat) : Int) ≤ (f (1010 + 200 * t + 3)).toInt := by omega
    have ih := ih (by omega)
    obtain ⟨s1, s2, s3⟩ := hs k (by omega)
    by_cases hw : (f (1010 + 200 * t + 4 + 2 * k)).toInt = 2
    · by_cases hv : (f (1010 + 200 * t + 4 + 2 * k + 1)).toInt = 33
      · have := s2 hw hv; omega
      · have := s3 hw hv; omega
    · have := s1 hw; omega
theorem worked_loop (hT : aTabOk) {f : Nat → Int32} {t : Int32} {tn mn : Nat} {dep : Nat → Int} {M0 : mHe} (htn : t.toInt = (tn : Int)) (ht11 : tn < 12) (hmn : (f (1010 + 200 * tn + 3)).toInt ≤ 96) (hmn2 : mn = (f (1010 + 200 * tn + 3)).toInt.toNat) (h0 : dep 0 = 0) (hs : ∀ j : Nat, (j : Int) < (f (1010 + 200 * tn + 3)).toInt → yStp (f (1010 + 200 * tn + 4 + 2 * j)).toInt (f (1010 + 200 * tn + 4 + 2 * j + 1)).toInt (dep j) (dep (j + 1))) :
    ∀ (j k : Nat) (M : mHe) (lv : List (Nat × Value)) (n : Int32), k + j = mn → yTy M → yFr [(131, 0, 99, 1, 0)] M0 M → (∀ i : Nat, i < 4000 → yRd (0, fun _ => 0) M 120 i = some (.int (f i))) → mlg 0 lv = some (.ref 128) → mlg 1 lv = some (.int t) → mlg 2 lv = some (.int n) → mlg 3 lv = some (.int (Int32.ofNat k)) → n.toInt = dep k →
    mEv none 2 (324, 4, lv, []) M (fun r M' => ∃ x, r = some (.int x) ∧ yTy M' ∧ yFr [(131, 0, 99, 1, 0)] M0 M') := by
  have e3 : (3 : Int32).toInt = 3 := rfl
  have e4 : (4 : Int32).toInt = 4 := rfl
  have e1 : (1 : Int32).toInt = 1 := rfl
  have e2 : (2 : Int32).toInt = 2 := rfl
  have eA : (1010 : Int32).toInt = 1010 := rfl
  have eB : (200 : Int32).toInt = 200 := rfl
  have hta : ((1010 : Int32) + 200 * t).toInt = 1010 + 200 * (tn : Int) := by
    have := i32_lin (a := 1010) (b := 200) htn (by rw [eB]; omega) (by rw [eB]; omega) (by rw [eA, eB]; omega) (by rw [eA, eB]; omega)
    rw [this, eA, eB]
  have hi3 : ((1010 : Int32) + 200 * t + 3).toInt = ((1010 + 200 * tn + 3 : Nat) : Int) := i32_p hta e3 (by omega) (by omega)
  have hi4 : ((1010 : Int32) + 200 * t + 4).toInt = ((1010 + 200 * tn + 4 : Nat) : Int) := i32_p hta e4 (by omega) (by omega)
  intro j
  induction j with
  | zero =>
    intro k M lv n hk hM hfr hrd l0 l1 l2 l3 hn
    have e5 := i32n (k := k) (by omega)
    obtain ⟨N1, ht1⟩ := textAt_run hT (d := 1) (r := 128) (t := t) (M := M)
    obtain ⟨fs, hmo, -⟩ := yTy_obj hM (rfl : tTy 119 = some (.inr (12, _)))
    obtain ⟨pf, hpf, -⟩ := yTy_arr hM (rfl : tTy 131 = some (.inl (100, 0, [])))
    refine e_then (e_il1 hT (y := 324) (pc := 4) (q := (yX12_worked, cX12_worked, 6, (some .int), 12)) rfl (show aTab 324 4 = some (.iload_n 3, 1, 0, 0, 0, 0, 0, 0) from rfl) rfl l3) ?_
    refine e_then (e_al1 hT (y := 324) (pc := 5) (q := (yX12_worked, cX12_worked, 6, (some .int), 12)) rfl (show aTab 324 5 = some (.aload_n 0, 1, 0, 0, 0, 0, 0, 0) from rfl) rfl l0) ?_
    refine e_then (e_getR hT (y := 324) (pc := 6) (q := (yX12_worked, cX12_worked, 6, (some .int), 12)) rfl (show aTab 324 6 = some (.getfield 7, 3, 0, 12, 0, 0, 0, 0) from rfl) rfl (by decide) (by decide) hM rfl rfl) ?_
    refine e_then (e_al1 hT (y := 324) (pc := 9) (q := (yX12_worked, cX12_worked, 6, (some .int), 12)) rfl (show aTab 324 9 = some (.aload_n 0, 1, 0, 0, 0, 0, 0, 0) from rfl) rfl l0) ?_
    refine e_then (e_il1 hT (y := 324) (pc := 10) (q := (yX12_worked, cX12_worked, 6, (some .int), 12)) rfl (show aTab 324 10 = some (.iload_n 1, 1, 0, 0, 0, 0, 0, 0) from rfl) rfl l1) ?_
    refine e_then (e_call hT (y := 324) (pc := 11) (q := (yX12_worked, cX12_worked, 6, (some .int), 12)) rfl (show aTab 324 11 = some (.invokevirtual 322, 3, 1, 247, 0, 1, 2, 12) from rfl) rfl ⟨by decide, Nat.le_of_ble_eq_true rfl⟩ hmo (Nat.le_of_ble_eq_true rfl) (Nat.le_of_ble_eq_true rfl) ⟨by decide, by decide⟩ ht1) ?_
    refine e_then (e_st hT (y := 324) (pc := 14) (q := (yX12_worked, cX12_worked, 6, (some .int), 12)) rfl (show aTab 324 14 = some (.iconst 3, 1, 0, 0, 0, 0, 0, 0) from rfl) (fr' := (324, 15, lv, [.int 3, .int (1010 + 200 * t), .ref 129, .int (Int32.ofNat k)])) (M' := M) rfl) ?_
    refine e_then (e_st hT (y := 324) (pc := 15) (q := (yX12_worked, cX12_worked, 6, (some .int), 12)) rfl (show aTab 324 15 = some (.iadd, 1, 0, 0, 0, 0, 0, 0) from rfl) (fr' := (324, 16, lv, [.int ((1010 + 200 * t) + 3), .ref 129, .int (Int32.ofNat k)])) (M' := M) rfl) ?_
    refine e_then (e_aldR hT (y := 324) (pc := 16) (q := (yX12_worked, cX12_worked, 6, (some .int), 12)) rfl (show aTab 324 16 = some (.iaload, 1, 0, 0, 0, 0, 0, 0) from rfl) ⟨rfl, by omega⟩ hM rfl hi3 (by omega) (hrd _ (by omega))) ?_
    refine e_then (e_icT hT (y := 324) (pc := 17) (q := (yX12_worked, cX12_worked, 6, (some .int), 12)) rfl (show aTab 324 17 = some (.if_icmp .ge 146, 3, 0, 0, 0, 0, 0, 0) from rfl) rfl (t := 163) rfl (cdT (by rw [e5]; show _ ≤ (k : Int); omega))) ?_
    refine e_then (e_al1 hT (y := 324) (pc := 163) (q := (yX12_worked, cX12_worked, 6, (some .int), 12)) rfl (show aTab 324 163 = some (.aload_n 0, 1, 0, 0, 0, 0, 0, 0) from rfl) rfl l0) ?_
    refine e_then (e_getR hT (y := 324) (pc := 164) (q := (yX12_worked, cX12_worked, 6, (some .int), 12)) rfl (show aTab 324 164 = some (.getfield 43, 3, 0, 12, 26, 0, 0, 0) from rfl) rfl (by decide) (by decide) hM rfl rfl) ?_
    refine e_then (e_st hT (y := 324) (pc := 167) (q := (yX12_worked, cX12_worked, 6, (some .int), 12)) rfl (show aTab 324 167 = some (.iconst 0, 1, 0, 0, 0, 0, 0, 0) from rfl) (fr' := (324, 168, lv, [.int 0, .ref 140])) (M' := M) rfl) ?_
    refine e_then (e_ald hT (y := 324) (pc := 168) (q := (yX12_worked, cX12_worked, 6, (some .int), 12)) rfl (show aTab 324 168 = some (.iaload, 1, 0, 0, 0, 0, 0, 0) from rfl) ⟨rfl, by decide⟩ hpf ⟨by decide, by decide⟩) ?_
    exact e_fin (e_iret hT (y := 324) (pc := 169) (q := (yX12_worked, cX12_worked, 6, (some .int), 12)) rfl (show aTab 324 169 = some (.ireturn, 1, 0, 0, 0, 0, 0, 0) from rfl) ⟨rfl, rfl⟩) ⟨_, rfl, hM, hfr⟩
  | succ j ih =>
    intro k M lv n hk hM hfr hrd l0 l1 l2 l3 hn
    have e5 := i32n (k := k) (by omega)
    obtain ⟨N1, ht1⟩ := textAt_run hT (d := 1) (r := 128) (t := t) (M := M)
    obtain ⟨fs, hmo, -⟩ := yTy_obj hM (rfl : tTy 119 = some (.inr (12, _)))
    have h2k : ((2 : Int32) * Int32.ofNat k).toInt = 2 * (k : Int) := by rw [i32_mul (by rw [e2, e5]; omega) (by rw [e2, e5]; omega), e2, e5]
    have hj4 : ((1010 : Int32) + 200 * t + 4 + 2 * Int32.ofNat k).toInt = ((1010 + 200 * tn + 4 + 2 * k : Nat) : Int) := i32_p hi4 h2k (by omega) (by omega)
    have hj5 : ((1010 : Int32) + 200 * t + 4 + 2 * Int32.ofNat k + 1).toInt = ((1010 + 200 * tn + 4 + 2 * k + 1 : Nat) : Int) := i32_p hj4 e1 (by omega) (by omega)
    refine e_then (e_il1 hT (y := 324) (pc := 4) (q := (yX12_worked, cX12_worked, 6, (some .int), 12)) rfl (show aTab 324 4 = some (.iload_n 3, 1, 0, 0, 0, 0, 0, 0) from rfl) rfl l3) ?_
    refine e_then (e_al1 hT (y := 324) (pc := 5) (q := (yX12_worked, cX12_worked, 6, (some .int), 12)) rfl (show aTab 324 5 = some (.aload_n 0, 1, 0, 0, 0, 0, 0, 0) from rfl) rfl l0) ?_
    refine e_then (e_getR hT (y := 324) (pc := 6) (q := (yX12_worked, cX12_worked, 6, (some .int), 12)) rfl (show aTab 324 6 = some (.getfield 7, 3, 0, 12, 0, 0, 0, 0) from rfl) rfl (by decide) (by decide) hM rfl rfl) ?_
    refine e_then (e_al1 hT (y := 324) (pc := 9) (q := (yX12_worked, cX12_worked, 6, (some .int), 12)) rfl (show aTab 324 9 = some (.aload_n 0, 1, 0, 0, 0, 0, 0, 0) from rfl) rfl l0) ?_
    refine e_then (e_il1 hT (y := 324) (pc := 10) (q := (yX12_worked, cX12_worked, 6, (some .int), 12)) rfl (show aTab 324 10 = some (.iload_n 1, 1, 0, 0, 0, 0, 0, 0) from rfl) rfl l1) ?_
    refine e_then (e_call hT (y := 324) (pc := 11) (q := (yX12_worked, cX12_worked, 6, (some .int), 12)) rfl (show aTab 324 11 = some (.invokevirtual 322, 3, 1, 247, 0, 1, 2, 12) from rfl) rfl ⟨by decide, Nat.le_of_ble_eq_true rfl⟩ hmo (Nat.le_of_ble_eq_true rfl) (Nat.le_of_ble_eq_true rfl) ⟨by decide, by decide⟩ ht1) ?_
    refine e_then (e_st hT (y := 324) (pc := 14) (q := (yX12_worked, cX12_worked, 6, (some .int), 12)) rfl (show aTab 324 14 = some (.iconst 3, 1, 0, 0, 0, 0, 0, 0) from rfl) (fr' := (324, 15, lv, [.int 3, .int (1010 + 200 * t), .ref 129, .int (Int32.ofNat k)])) (M' := M) rfl) ?_
    refine e_then (e_st hT (y := 324) (pc := 15) (q := (yX12_worked, cX12_worked, 6, (some .int), 12)) rfl (show aTab 324 15 = some (.iadd, 1, 0, 0, 0, 0, 0, 0) from rfl) (fr' := (324, 16, lv, [.int ((1010 + 200 * t) + 3), .ref 129, .int (Int32.ofNat k)])) (M' := M) rfl) ?_
    refine e_then (e_aldR hT (y := 324) (pc := 16) (q := (yX12_worked, cX12_worked, 6, (some .int), 12)) rfl (show aTab 324 16 = some (.iaload, 1, 0, 0, 0, 0, 0, 0) from rfl) ⟨rfl, by omega⟩ hM rfl hi3 (by omega) (hrd _ (by omega))) ?_
    refine e_then (e_icF hT (y := 324) (pc := 17) (q := (yX12_worked, cX12_worked, 6, (some .int), 12)) rfl (show aTab 324 17 = some (.if_icmp .ge 146, 3, 0, 0, 0, 0, 0, 0) from rfl) rfl (t := 163) rfl (cdF (by rw [e5]; show ¬ _ ≤ (k : Int); omega))) ?_
    refine e_then (e_al1 hT (y := 324) (pc := 20) (q := (yX12_worked, cX12_worked, 6, (some .int), 12)) rfl (show aTab 324 20 = some (.aload_n 0, 1, 0, 0, 0, 0, 0, 0) from rfl) rfl l0) ?_
    refine e_then (e_getR hT (y := 324) (pc := 21) (q := (yX12_worked, cX12_worked, 6, (some .int), 12)) rfl (show aTab 324 21 = some (.getfield 7, 3, 0, 12, 0, 0, 0, 0) from rfl) rfl (by decide) (by decide) hM rfl rfl) ?_
    refine e_then (e_al1 hT (y := 324) (pc := 24) (q := (yX12_worked, cX12_worked, 6, (some .int), 12)) rfl (show aTab 324 24 = some (.aload_n 0, 1, 0, 0, 0, 0, 0, 0) from rfl) rfl l0) ?_
    refine e_then (e_il1 hT (y := 324) (pc := 25) (q := (yX12_worked, cX12_worked, 6, (some .int), 12)) rfl (show aTab 324 25 = some (.iload_n 1, 1, 0, 0, 0, 0, 0, 0) from rfl) rfl l1) ?_
    refine e_then (e_call hT (y := 324) (pc := 26) (q := (yX12_worked, cX12_worked, 6, (some .int), 12)) rfl (show aTab 324 26 = some (.invokevirtual 322, 3, 1, 247, 0, 1, 2, 12) from rfl) rfl ⟨by decide, Nat.le_of_ble_eq_true rfl⟩ hmo (Nat.le_of_ble_eq_true rfl) (Nat.le_of_ble_eq_true rfl) ⟨by decide, by decide⟩ ht1) ?_
    refine e_then (e_st hT (y := 324) (pc := 29) (q := (yX12_worked, cX12_worked, 6, (some .int), 12)) rfl (show aTab 324 29 = some (.iconst 4, 1, 0, 0, 0, 0, 0, 0) from rfl) (fr' := (324, 30, lv, [.int 4, .int (1010 + 200 * t), .ref 129])) (M' := M) rfl) ?_
    refine e_then (e_st hT (y := 324) (pc := 30) (q := (yX12_worked, cX12_worked, 6, (some .int), 12)) rfl (show aTab 324 30 = some (.iadd, 1, 0, 0, 0, 0, 0, 0) from rfl) (fr' := (324, 31, lv, [.int ((1010 + 200 * t) + 4), .ref 129])) (M' := M) rfl) ?_
    refine e_then (e_st hT (y := 324) (pc := 31) (q := (yX12_worked, cX12_worked, 6, (some .int), 12)) rfl (show aTab 324 31 = some (.iconst 2, 1, 0, 0, 0, 0, 0, 0) from rfl) (fr' := (324, 32, lv, [.int 2, .int ((1010 + 200 * t) + 4), .ref 129])) (M' := M) rfl) ?_
    refine e_then (e_il1 hT (y := 324) (pc := 32) (q := (yX12_worked, cX12_worked, 6, (some .int), 12)) rfl (show aTab 324 32 = some (.iload_n 3, 1, 0, 0, 0, 0, 0, 0) from rfl) rfl l3) ?_
    refine e_then (e_st hT (y := 324) (pc := 33) (q := (yX12_worked, cX12_worked, 6, (some .int), 12)) rfl (show aTab 324 33 = some (.imul, 1, 0, 0, 0, 0, 0, 0) from rfl) (fr' := (324, 34, lv, [.int (2 * (Int32.ofNat k)), .int ((1010 + 200 * t) + 4), .ref 129])) (M' := M) rfl) ?_
    refine e_then (e_st hT (y := 324) (pc := 34) (q := (yX12_worked, cX12_worked, 6, (some .int), 12)) rfl (show aTab 324 34 = some (.iadd, 1, 0, 0, 0, 0, 0, 0) from rfl) (fr' := (324, 35, lv, [.int (((1010 + 200 * t) + 4) + (2 * (Int32.ofNat k))), .ref 129])) (M' := M) rfl) ?_
    refine e_then (e_aldR hT (y := 324) (pc := 35) (q := (yX12_worked, cX12_worked, 6, (some .int), 12)) rfl (show aTab 324 35 = some (.iaload, 1, 0, 0, 0, 0, 0, 0) from rfl) ⟨rfl, by omega⟩ hM rfl hj4 (by omega) (hrd _ (by omega))) ?_
    refine e_then (e_is2 hT (y := 324) (pc := 36) (q := (yX12_worked, cX12_worked, 6, (some .int), 12)) rfl (show aTab 324 36 = some (.istore 4, 2, 0, 0, 0, 0, 0, 0) from rfl) ⟨rfl, by decide⟩) ?_
    refine e_then (e_al1 hT (y := 324) (pc := 38) (q := (yX12_worked, cX12_worked, 6, (some .int), 12)) rfl (show aTab 324 38 = some (.aload_n 0, 1, 0, 0, 0, 0, 0, 0) from rfl) rfl (mlg_r l0 (by decide))) ?_
    refine e_then (e_getR hT (y := 324) (pc := 39) (q := (yX12_worked, cX12_worked, 6, (some .int), 12)) rfl (show aTab 324 39 = some (.getfield 7, 3, 0, 12, 0, 0, 0, 0) from rfl) rfl (by decide) (by decide) hM rfl rfl) ?_
    refine e_then (e_al1 hT (y := 324) (pc := 42) (q := (yX12_worked, cX12_worked, 6, (some .int), 12)) rfl (show aTab 324 42 = some (.aload_n 0, 1, 0, 0, 0, 0, 0, 0) from rfl) rfl (mlg_r l0 (by decide))) ?_
    refine e_then (e_il1 hT (y := 324) (pc := 43) (q := (yX12_worked, cX12_worked, 6, (some .int), 12)) rfl (show aTab 324 43 = some (.iload_n 1, 1, 0, 0, 0, 0, 0, 0) from rfl) rfl (mlg_i l1 (by decide))) ?_
    refine e_then (e_call hT (y := 324) (pc := 44) (q := (yX12_worked, cX12_worked, 6, (some .int), 12)) rfl (show aTab 324 44 = some (.invokevirtual 322, 3, 1, 247, 0, 1, 2, 12) from rfl) rfl ⟨by decide, Nat.le_of_ble_eq_true rfl⟩ hmo (Nat.le_of_ble_eq_true rfl) (Nat.le_of_ble_eq_true rfl) ⟨by decide, by decide⟩ ht1) ?_
    refine e_then (e_st hT (y := 324) (pc := 47) (q := (yX12_worked, cX12_worked, 6, (some .int), 12)) rfl (show aTab 324 47 = some (.iconst 4, 1, 0, 0, 0, 0, 0, 0) from rfl) (fr' := (324, 48, (mlp 4 (.int (f (1010 + 200 * tn + 4 + 2 * k))) lv), [.int 4, .int (1010 + 200 * t), .ref 129])) (M' := M) rfl) ?_
    refine e_then (e_st hT (y := 324) (pc := 48) (q := (yX12_worked, cX12_worked, 6, (some .int), 12)) rfl (show aTab 324 48 = some (.iadd, 1, 0, 0, 0, 0, 0, 0) from rfl) (fr' := (324, 49, (mlp 4 (.int (f (1010 + 200 * tn + 4 + 2 * k))) lv), [.int ((1010 + 200 * t) + 4), .ref 129])) (M' := M) rfl) ?_
    refine e_then (e_st hT (y := 324) (pc := 49) (q := (yX12_worked, cX12_worked, 6, (some .int), 12)) rfl (show aTab 324 49 = some (.iconst 2, 1, 0, 0, 0, 0, 0, 0) from rfl) (fr' := (324, 50, (mlp 4 (.int (f (1010 + 200 * tn + 4 + 2 * k))) lv), [.int 2, .int ((1010 + 200 * t) + 4), .ref 129])) (M' := M) rfl) ?_
    refine e_then (e_il1 hT (y := 324) (pc := 50) (q := (yX12_worked, cX12_worked, 6, (some .int), 12)) rfl (show aTab 324 50 = some (.iload_n 3, 1, 0, 0, 0, 0, 0, 0) from rfl) rfl (mlg_i l3 (by decide))) ?_
    refine e_then (e_st hT (y := 324) (pc := 51) (q := (yX12_worked, cX12_worked, 6, (some .int), 12)) rfl (show aTab 324 51 = some (.imul, 1, 0, 0, 0, 0, 0, 0) from rfl) (fr' := (324, 52, (mlp 4 (.int (f (1010 + 200 * tn + 4 + 2 * k))) lv), [.int (2 * (Int32.ofNat k)), .int ((1010 + 200 * t) + 4), .ref 129])) (M' := M) rfl) ?_
    refine e_then (e_st hT (y := 324) (pc := 52) (q := (yX12_worked, cX12_worked, 6, (some .int), 12)) rfl (show aTab 324 52 = some (.iadd, 1, 0, 0, 0, 0, 0, 0) from rfl) (fr' := (324, 53, (mlp 4 (.int (f (1010 + 200 * tn + 4 + 2 * k))) lv), [.int (((1010 + 200 * t) + 4) + (2 * (Int32.ofNat k))), .ref 129])) (M' := M) rfl) ?_
    refine e_then (e_st hT (y := 324) (pc := 53) (q := (yX12_worked, cX12_worked, 6, (some .int), 12)) rfl (show aTab 324 53 = some (.iconst 1, 1, 0, 0, 0, 0, 0, 0) from rfl) (fr' := (324, 54, (mlp 4 (.int (f (1010 + 200 * tn + 4 + 2 * k))) lv), [.int 1, .int (((1010 + 200 * t) + 4) + (2 * (Int32.ofNat k))), .ref 129])) (M' := M) rfl) ?_
    refine e_then (e_st hT (y := 324) (pc := 54) (q := (yX12_worked, cX12_worked, 6, (some .int), 12)) rfl (show aTab 324 54 = some (.iadd, 1, 0, 0, 0, 0, 0, 0) from rfl) (fr' := (324, 55, (mlp 4 (.int (f (1010 + 200 * tn + 4 + 2 * k))) lv), [.int ((((1010 + 200 * t) + 4) + (2 * (Int32.ofNat k))) + 1), .ref 129])) (M' := M) rfl) ?_
    refine e_then (e_aldR hT (y := 324) (pc := 55) (q := (yX12_worked, cX12_worked, 6, (some .int), 12)) rfl (show aTab 324 55 = some (.iaload, 1, 0, 0, 0, 0, 0, 0) from rfl) ⟨rfl, by omega⟩ hM rfl hj5 (by omega) (hrd _ (by omega))) ?_
    refine e_then (e_is2 hT (y := 324) (pc := 56) (q := (yX12_worked, cX12_worked, 6, (some .int), 12)) rfl (show aTab 324 56 = some (.istore 5, 2, 0, 0, 0, 0, 0, 0) from rfl) ⟨rfl, by decide⟩) ?_
    have g1_0 : mlg 0 (mlp 5 (.int (f (1010 + 200 * tn + 4 + 2 * k + 1))) (mlp 4 (.int (f (1010 + 200 * tn + 4 + 2 * k))) lv)) = some (.ref 128) := (mlg_r (mlg_r l0 (by decide)) (by decide))
    have g1_1 : mlg 1 (mlp 5 (.int (f (1010 + 200 * tn + 4 + 2 * k + 1))) (mlp 4 (.int (f (1010 + 200 * tn + 4 + 2 * k))) lv)) = some (.int t) := (mlg_i (mlg_i l1 (by decide)) (by decide))
    have g1_2 : mlg 2 (mlp 5 (.int (f (1010 + 200 * tn + 4 + 2 * k + 1))) (mlp 4 (.int (f (1010 + 200 * tn + 4 + 2 * k))) lv)) = some (.int n) := (mlg_i (mlg_i l2 (by decide)) (by decide))
    have g1_3 : mlg 3 (mlp 5 (.int (f (1010 + 200 * tn + 4 + 2 * k + 1))) (mlp 4 (.int (f (1010 + 200 * tn + 4 + 2 * k))) lv)) = some (.int (Int32.ofNat k)) := (mlg_i (mlg_i l3 (by decide)) (by decide))
    have g1_4 : mlg 4 (mlp 5 (.int (f (1010 + 200 * tn + 4 + 2 * k + 1))) (mlp 4 (.int (f (1010 + 200 * tn + 4 + 2 * k))) lv)) = some (.int (f (1010 + 200 * tn + 4 + 2 * k))) := (mlg_i (mlg_eq 4 _ _) (by decide))
    have g1_5 : mlg 5 (mlp 5 (.int (f (1010 + 200 * tn + 4 + 2 * k + 1))) (mlp 4 (.int (f (1010 + 200 * tn + 4 + 2 * k))) lv)) = some (.int (f (1010 + 200 * tn + 4 + 2 * k + 1))) := (mlg_eq 5 _ _)
    generalize (mlp 5 (.int (f (1010 + 200 * tn + 4 + 2 * k + 1))) (mlp 4 (.int (f (1010 + 200 * tn + 4 + 2 * k))) lv)) = lv1 at g1_0 g1_1 g1_2 g1_3 g1_4 g1_5 ⊢
    have hd := dep_le h0 hs k (by omega)
    have hst := hs k (by omega)
    have seg : ∃ lv' M' n', mTo none 2 (324, 58, lv1, []) M (324, 4, lv', []) M' ∧ yTy M' ∧ yFr [(131, 0, 99, 1, 0)] M M' ∧ mlg 0 lv' = some (.ref 128) ∧ mlg 1 lv' = some (.int t) ∧ mlg 2 lv' = some (.int n') ∧ n'.toInt = dep (k + 1) ∧ mlg 3 lv' = some (.int (Int32.ofNat (k + 1))) := by
      have go : ∀ (dl nl nh wl wh vl vh : Int), wkChk dl nl nh wl wh vl vh = true → (nl ≤ dep k ∧ dep k ≤ nh) → (wl ≤ (f (1010 + 200 * tn + 4 + 2 * k)).toInt ∧ (f (1010 + 200 * tn + 4 + 2 * k)).toInt ≤ wh) → (vl ≤ (f (1010 + 200 * tn + 4 + 2 * k + 1)).toInt ∧ (f (1010 + 200 * tn + 4 + 2 * k + 1)).toInt ≤ vh) → dep (k + 1) = dep k + dl → ∃ lv' M' n', mTo none 2 (324, 58, lv1, []) M (324, 4, lv', []) M' ∧ yTy M' ∧ yFr [(131, 0, 99, 1, 0)] M M' ∧ mlg 0 lv' = some (.ref 128) ∧ mlg 1 lv' = some (.int t) ∧ mlg 2 lv' = some (.int n') ∧ n'.toInt = dep (k + 1) ∧ mlg 3 lv' = some (.int (Int32.ofNat (k + 1))) := by
        intro dl nl nh wl wh vl vh hc c1 c2 c3 c4
        obtain ⟨lv', M', n', g1, g2, g3, g4, g5, g6, g7, g8⟩ := wk_seg hT hc hM (by omega) (by rw [hn]; exact c1) (k := k) (by omega) c2 c3 g1_0 g1_1 g1_2 g1_3 g1_4 g1_5
        exact ⟨lv', M', n', g1, g2, g3, g4, g5, g6, by omega, g8⟩
      have wlo := i32_lo (f (1010 + 200 * tn + 4 + 2 * k))
      have whi := i32_hi (f (1010 + 200 * tn + 4 + 2 * k))
      have vlo := i32_lo (f (1010 + 200 * tn + 4 + 2 * k + 1))
      have vhi := i32_hi (f (1010 + 200 * tn + 4 + 2 * k + 1))
      obtain ⟨s1, s2, s3⟩ := hst
      generalize (f (1010 + 200 * tn + 4 + 2 * k)).toInt = wn at *
      generalize (f (1010 + 200 * tn + 4 + 2 * k + 1)).toInt = vn at *
      by_cases hw : wn = 2
      · by_cases hv : vn = 33
        · have := s2 hw hv
          exact go _ _ _ _ _ _ _ wk_B (by omega) (by omega) (by omega) (by omega)
        · have := s3 hw hv
          by_cases hv2 : vn < 33
          · exact go _ _ _ _ _ _ _ wk_C1 (by omega) (by omega) (by omega) (by omega)
          · exact go _ _ _ _ _ _ _ wk_C2 (by omega) (by omega) (by omega) (by omega)
      · have := s1 hw
        by_cases w0 : wn = 0
        · exact go _ _ _ _ _ _ _ wk_A0 (by omega) (by omega) (by omega) (by omega)
        · by_cases w1 : wn < 0
          · exact go _ _ _ _ _ _ _ wk_A1 (by omega) (by omega) (by omega) (by omega)
          · by_cases w2 : wn = 1
            · exact go _ _ _ _ _ _ _ wk_A2 (by omega) (by omega) (by omega) (by omega)
            · exact go _ _ _ _ _ _ _ wk_A3 (by omega) (by omega) (by omega) (by omega)
    obtain ⟨lv', M', n', g1, g2, g3, g4, g5, g6, g7, g8⟩ := seg
    refine e_then g1 (ih (k + 1) M' lv' n' (by omega) g2 (yFr_tr hfr g3) (fun i hi => ?_) g4 g5 g6 g8 g7)
    rw [g3 _ 120 i (fun g hg => by rw [List.mem_singleton.mp hg]; rintro ⟨z, -⟩; cases z)]
    exact hrd i hi
theorem hand_worked (hT : aTabOk) : tCtOk (324, [(0, 128, 0, 0), (1, 0, 0, 11)], some (-2147483648, 2147483647), [(131, 0, 99, 1, 0)], 2, [], []) := by
  intro M vs d hM hvs hd _
  match vs, hvs with
  | [v1, v2], h =>
    have h1 : v1 = .ref 128 := h.1
    have h2' : ∃ x : Int32, v2 = .int x ∧ 0 ≤ x.toInt ∧ x.toInt ≤ 11 := h.2.1
    obtain ⟨t, h2, t1, t2⟩ := h2'
    subst h1; subst h2
    obtain ⟨f, hs, hf, hP⟩ := yTy_arr hM (rfl : tTy 120 = some (.inl (4000, 1, tRegS)))
    obtain ⟨⟨q1, dep, q2, q3⟩, -⟩ := (hP rfl).2.2.2 t.toInt.toNat (by omega)
    have main : mEv none 2 (324, 0, lv_args 0 [.ref 128, .int t], []) M (fun r M' => ∃ x, r = some (.int x) ∧ yTy M' ∧ yFr [(131, 0, 99, 1, 0)] M M') := by
      refine e_then (e_st hT (y := 324) (pc := 0) (q := (yX12_worked, cX12_worked, 6, (some .int), 12)) rfl (show aTab 324 0 = some (.iconst 0, 1, 0, 0, 0, 0, 0, 0) from rfl) (fr' := (324, 1, (lv_args 0 [.ref 128, .int t]), [.int 0])) (M' := M) rfl) ?_
      refine e_then (e_is1 hT (y := 324) (pc := 1) (q := (yX12_worked, cX12_worked, 6, (some .int), 12)) rfl (show aTab 324 1 = some (.istore_n 2, 1, 0, 0, 0, 0, 0, 0) from rfl) ⟨rfl, by decide⟩) ?_
      refine e_then (e_st hT (y := 324) (pc := 2) (q := (yX12_worked, cX12_worked, 6, (some .int), 12)) rfl (show aTab 324 2 = some (.iconst 0, 1, 0, 0, 0, 0, 0, 0) from rfl) (fr' := (324, 3, (mlp 2 (.int 0) (lv_args 0 [.ref 128, .int t])), [.int 0])) (M' := M) rfl) ?_
      refine e_then (e_is1 hT (y := 324) (pc := 3) (q := (yX12_worked, cX12_worked, 6, (some .int), 12)) rfl (show aTab 324 3 = some (.istore_n 3, 1, 0, 0, 0, 0, 0, 0) from rfl) ⟨rfl, by decide⟩) ?_
      exact worked_loop hT (f := f) (tn := t.toInt.toNat) (by omega) (by omega) q1 rfl q2 q3 _ 0 M _ 0 (Nat.zero_add _) hM (yFr_rf _ M) (fun i hi => yRd_arr _ (by decide) hs hi) (mlg_r (mlg_r rfl (by decide)) (by decide)) (mlg_i (mlg_i rfl (by decide)) (by decide)) (mlg_i (mlg_eq 2 _ _) (by decide)) (mlg_eq 3 _ _) (by rw [q2]; rfl)
    obtain ⟨N, r, M', m1, x, rfl, m2, m3⟩ := main
    exact ⟨N, _, M', mRun_dm m1 hd, m2, m3, ⟨x, rfl, i32_lo x, i32_hi x⟩, fun ab hab => by cases hab⟩
