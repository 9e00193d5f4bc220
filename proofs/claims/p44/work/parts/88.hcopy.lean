/-! HAND: the rows of a night -/
def rnP (y pc : Nat) : Option (tAn ⊕ Option Nat) := bif Nat.beq y 358 && Nat.beq pc 24 then some (.inr none) else none
def rnA : Bool := tCk (rnP, [(352, [(0, 128, 0, 0), (1, 0, (-2147483648), 2147483647), (1, 0, (-2147483648), 2147483647)], some ((-1), 2147483646), [], 1, [], [])]) 400 2 [[(137, 0, 15, 1, 0), (119, 34, 34, 1, 0)]] (358, 0, [(0, kR 128), (1, (4, 0, 0, 0)), (2, (4, 1, 0, 0))], []) [((119, 0, 34, 0), kI 0)] ([(-2147483648, 2147483647), (-2147483648, 2147483647)], []) (fun lf => lRes (-1000000005) 0 lf || (lAt 358 24 [] [(0, kR 128)] lf && lL 3 (-1) 2147483646 lf && lL 4 (-2147483648) 2147483647 lf && lL 5 0 0 lf && lFB 119 34 0 0 lf))
def rnB (k : Nat) : Bool := tCk (rnP, []) 400 2 [[(137, 0, 15, 1, 0), (119, 34, 34, 1, 0)]] (358, 26, [(0, kR 128), (3, (4, 0, 0, 0)), (4, (4, 1, 0, 0)), (5, kI k)], [kI k]) [((119, 0, 34, 0), (4, 2, 0, 0))] ([(-1, 2147483646), (-2147483648, 2147483647), (0, 2 * k)], []) (fun lf => lRes (-1000000005) 0 lf || (lAt 358 24 [] [(0, kR 128), (3, (4, 0, 0, 0))] lf && lL 4 (-2147483648) 2147483647 lf && lL 5 (k + 1) (k + 1) lf && lFB 119 34 0 (2 * k + 2) lf && Nat.blt k 8))
theorem rnA_ok : rnA = true := by decide +kernel
theorem rnB_all : (List.range 9).all rnB = true := by decide +kernel
theorem night_loop (hT : aTabOk) {M0 : mHe} : ∀ (j k : Nat) (M : mHe) (lv : List (Nat × Value)) (s p x : Int32), k + j = 8 → yTy M → yFr [(137, 0, 15, 1, 0), (119, 34, 34, 1, 0)] M0 M → mlg 0 lv = some (.ref 128) → mlg 3 lv = some (.int s) → (-1 ≤ s.toInt ∧ s.toInt ≤ 2147483646) → mlg 4 lv = some (.int p) → mlg 5 lv = some (.int (Int32.ofNat k)) → yRd x00 M 119 34 = some (.int x) → (0 ≤ x.toInt ∧ x.toInt ≤ 2 * k) → mEv none 2 (358, 24, lv, []) M (fun r M' => ∃ x : Int32, r = some (.int x) ∧ (-1000000005 ≤ x.toInt ∧ x.toInt ≤ 0) ∧ yTy M' ∧ yFr [(137, 0, 15, 1, 0), (119, 34, 34, 1, 0)] M0 M') := by
  intro j
  induction j with
  | zero => ?_
  | succ j ih => ?_
  all_goals
    intro k M lv s p x hk hM hfr l0 l3 hs l4 l5 hx1 hx
    have e5 := i32n (k := k) (by omega)
    refine e_then (e_il2 hT (y := 358) (pc := 24) (q := (yX12_rowsOfNight, cX12_rowsOfNight, 6, (some .int), 12)) rfl (show aTab 358 24 = some (.iload 5, 2, 0, 0, 0, 0, 0, 0) from rfl) rfl l5) ?_
    have hA := List.all_eq_true.mp rnB_all k (List.mem_range.mpr (by omega))
    unfold rnB at hA
    have hE : xE [s.toInt, p.toInt, x.toInt] ([(-1, 2147483646), (-2147483648, 2147483647), (0, 2 * (k : Int))], []) := by
      refine xE_of_list rfl (fun i l u e hb he => ?_)
      match i with
      | 0 => cases hb; cases he; exact ⟨hs, i32_lo _, i32_hi _⟩
      | 1 => cases hb; cases he; exact ⟨⟨i32_lo _, i32_hi _⟩, i32_lo _, i32_hi _⟩
      | 2 => cases hb; cases he; exact ⟨hx, i32_lo _, i32_hi _⟩
      | i + 3 => simp at hb
    have hL : yLv [s.toInt, p.toInt, x.toInt] [(0, kR 128), (3, (4, 0, 0, 0)), (4, (4, 1, 0, 0)), (5, kI k)] lv := yLv_cons l0 (yV_kR _ _) (yLv_cons l3 (yV_atom rfl) (yLv_cons l4 (yV_atom rfl) (yLv_cons l5 (yV_kI _ e5) (yLv_nil _ _))))
    obtain ⟨lf, f1, f2⟩ := tSegC (xs := x00) hT (fun ct hct => by cases hct) hA hE hL (cst := [.int (Int32.ofNat k)]) ⟨yV_kI _ e5, trivial⟩ ⟨hM, fun q hq => by rw [List.mem_singleton.mp hq]; exact ⟨34, rfl, _, hx1, yV_atom rfl⟩⟩
    simp only [Bool.or_eq_true, Bool.and_eq_true] at f1
    rcases f1 with f1 | ⟨⟨⟨⟨f1, f3⟩, f4⟩, f5⟩, f6⟩
    · obtain ⟨X, N, x, M', m1, m2, m3, m4, m5⟩ := lRes_ok f1 f2
      exact ⟨N, _, M', m2, x, rfl, m3, m4.1, yFr_tr hfr (m5 _ (List.mem_singleton_self _))⟩
  · have := blt_lt f6
    omega
  · obtain ⟨X, lv', st', M', m1, m2, m3, m4, m5, m6, m7⟩ := lAt_ok f1 f2
    obtain ⟨s', n1, n2⟩ := loc_i (k := 3) (i := 0) (a := 0) (e := s.toInt) m4 (by simp) rfl
    obtain ⟨k', k1, k2, k3⟩ := m5 _ _ _ f4
    obtain ⟨p', p1, -⟩ := m5 _ _ _ f3
    have hs' : s' = s := i32eq (by omega)
    have hk' : k' = Int32.ofNat (k + 1) := i32eq (by rw [i32n (by omega)]; omega)
    subst hs'; subst hk'
    have hst := yS_nil m3
    subst hst
    obtain ⟨x', x1, x2, x3⟩ := lFB_ok (k := 34) f5 m1 m6
    exact e_then m2 (ih (k + 1) M' lv' s' p' x' (by omega) m6.1 (yFr_tr hfr (m7 _ (List.mem_singleton_self _))) (loc_r m4 (by simp)) n1 hs p1 k1 x1 (by omega))
theorem hand_night (hT : aTabOk) (hC : tCtOk (352, [(0, 128, 0, 0), (1, 0, (-2147483648), 2147483647), (1, 0, (-2147483648), 2147483647)], some ((-1), 2147483646), [], 1, [], [])) : tCtOk (358, [(0, 128, 0, 0), (1, 0, (-2147483648), 2147483647), (1, 0, (-2147483648), 2147483647)], some ((-1000000005), 0), [(137, 0, 15, 1, 0), (119, 34, 34, 1, 0)], 2, [], [(119, 34, 0, 0)]) := by
  intro M vs d hM hvs hd hpre
  match vs, hvs with
  | [v1, v2, v3], h =>
    have h1 : v1 = .ref 128 := h.1
    have h2' : ∃ x : Int32, v2 = .int x ∧ -2147483648 ≤ x.toInt ∧ x.toInt ≤ 2147483647 := h.2.1
    have h3' : ∃ x : Int32, v3 = .int x ∧ -2147483648 ≤ x.toInt ∧ x.toInt ≤ 2147483647 := h.2.2.1
    obtain ⟨a, h2, a1⟩ := h2'
    obtain ⟨b, h3, b1⟩ := h3'
    subst h1; subst h2; subst h3
    obtain ⟨x0, y1, y2, y3⟩ := hpre _ (List.mem_singleton_self _) x00
    have main : mEv none 2 (358, 0, lv_args 0 [.ref 128, .int a, .int b], []) M (fun r M' => ∃ x : Int32, r = some (.int x) ∧ (-1000000005 ≤ x.toInt ∧ x.toInt ≤ 0) ∧ yTy M' ∧ yFr [(137, 0, 15, 1, 0), (119, 34, 34, 1, 0)] M M') := by
      have hA := rnA_ok
      unfold rnA at hA
      have hE : xE [a.toInt, b.toInt] ([(-2147483648, 2147483647), (-2147483648, 2147483647)], []) := by
        refine xE_of_list rfl (fun i l u e hb he => ?_)
        match i with
        | 0 => cases hb; cases he; exact ⟨a1, i32_lo _, i32_hi _⟩
        | 1 => cases hb; cases he; exact ⟨b1, i32_lo _, i32_hi _⟩
        | i + 2 => simp at hb
      have hL : yLv [a.toInt, b.toInt] [(0, kR 128), (1, (4, 0, 0, 0)), (2, (4, 1, 0, 0))] (lv_args 0 [.ref 128, .int a, .int b]) := yLv_cons rfl (yV_kR _ _) (yLv_cons rfl (yV_atom rfl) (yLv_cons rfl (yV_atom rfl) (yLv_nil _ _)))
      obtain ⟨lf, f1, f2⟩ := tSegC (xs := x00) hT (fun ct hct => by rw [List.mem_singleton.mp hct]; exact hC) hA hE hL (cst := []) (show yS _ [] [] from trivial) ⟨hM, fun q hq => by rw [List.mem_singleton.mp hq]; exact ⟨34, rfl, _, y1, yV_kI _ (by have : (0 : Int) ≤ x0.toInt := y2; have : x0.toInt ≤ (0 : Int) := y3; omega)⟩⟩
      simp only [Bool.or_eq_true, Bool.and_eq_true] at f1
      rcases f1 with f1 | ⟨⟨⟨⟨f1, f3⟩, f4⟩, f5⟩, f6⟩
      · obtain ⟨X, N, x, M', m1, m2, m3, m4, m5⟩ := lRes_ok f1 f2
        exact ⟨N, _, M', m2, x, rfl, m3, m4.1, m5 _ (List.mem_singleton_self _)⟩
      · obtain ⟨X, lv', st', M', m1, m2, m3, m4, m5, m6, m7⟩ := lAt_ok f1 f2
        obtain ⟨s', s1, s2⟩ := m5 _ _ _ f3
        obtain ⟨p', p1, -⟩ := m5 _ _ _ f4
        obtain ⟨k', k1, k2, k3⟩ := m5 _ _ _ f5
        have hk' : k' = Int32.ofNat 0 := i32eq (by rw [i32n (by omega)]; omega)
        subst hk'
        have hst := yS_nil m3
        subst hst
        obtain ⟨x', x1, x2, x3⟩ := lFB_ok (k := 34) f6 m1 m6
        exact e_then m2 (night_loop hT 8 0 M' lv' s' p' x' (by omega) m6.1 (m7 _ (List.mem_singleton_self _)) (loc_r m4 (by simp)) s1 s2 p1 k1 x1 (by omega))
    obtain ⟨N, r, M', m1, x, rfl, m2, m3, m4⟩ := main
    exact ⟨N, _, M', mRun_dm m1 hd, m3, m4, ⟨x, rfl, m2⟩, fun ab hab => by cases hab⟩
/-! HAND: copy -/
theorem lcmp_gt {a b c : Int32} : mCd .gt (lg_cmp (a.toInt64 + b.toInt64) c.toInt64) 0 = decide (a.toInt + b.toInt > c.toInt) := by
  have ha := i32_lo a
  have ha2 := i32_hi a
  have hb := i32_lo b
  have hb2 := i32_hi b
  have hs : (a.toInt64 + b.toInt64).toInt = a.toInt + b.toInt := by
    rw [i64_add (by rw [Int32.toInt_toInt64, Int32.toInt_toInt64]; omega) (by rw [Int32.toInt_toInt64, Int32.toInt_toInt64]; omega), Int32.toInt_toInt64, Int32.toInt_toInt64]
  have h := lg_cmp_sg (a.toInt64 + b.toInt64) c.toInt64
  rw [hs, Int32.toInt_toInt64] at h
  obtain ⟨h1, h2⟩ := h
  have e0 : (0 : Int32).toInt = 0 := rfl
  by_cases hc : a.toInt + b.toInt > c.toInt
  · rw [decide_eq_true hc]
    exact cdT (by rw [e0]; show (0 : Int) < _; omega)
  · rw [decide_eq_false hc]
    exact cdF (by rw [e0]; show ¬ (0 : Int) < _; omega)
theorem lcmp_le {a b c : Int32} : mCd .le (lg_cmp (a.toInt64 + b.toInt64) c.toInt64) 0 = decide (a.toInt + b.toInt ≤ c.toInt) := by
  have ha := i32_lo a
  have ha2 := i32_hi a
  have hb := i32_lo b
  have hb2 := i32_hi b
  have hs : (a.toInt64 + b.toInt64).toInt = a.toInt + b.toInt := by
    rw [i64_add (by rw [Int32.toInt_toInt64, Int32.toInt_toInt64]; omega) (by rw [Int32.toInt_toInt64, Int32.toInt_toInt64]; omega), Int32.toInt_toInt64, Int32.toInt_toInt64]
  have h := lg_cmp_sg (a.toInt64 + b.toInt64) c.toInt64
  rw [hs, Int32.toInt_toInt64] at h
  obtain ⟨h1, h2⟩ := h
  have e0 : (0 : Int32).toInt = 0 := rfl
  by_cases hc : a.toInt + b.toInt ≤ c.toInt
  · rw [decide_eq_true hc]
    exact cdT (by rw [e0]; show _ ≤ (0 : Int); omega)
  · rw [decide_eq_false hc]
    exact cdF (by rw [e0]; show ¬ _ ≤ (0 : Int); omega)
def cpP (y pc : Nat) : Option (tAn ⊕ Option Nat) := bif Nat.beq y 335 && Nat.beq pc 71 then some (.inr none) else none
def cpL : List (Nat × aV) := [(0, kR 128), (1, (4, 0, 0, 0)), (2, (4, 1, 0, 0)), (3, (4, 2, 0, 0)), (4, (4, 3, 0, 0)), (5, (4, 4, 0, 0))]
def cpA : Bool := tCk (cpP, []) 2000 4 [[]] (335, 0, cpL, []) [] ([(-2147483648, 2147483647), (-2147483648, 2147483647), (-2147483648, 2147483647), (-2147483648, 2147483647), (-2147483648, 2147483647)], []) (fun lf => lRes (-2147483648) 2147483647 lf || (lAt 335 71 [] cpL lf && lL 1 0 7 lf && lL 3 0 7 lf && lL 2 0 2147483647 lf && lL 4 0 2147483647 lf && lL 5 0 2147483647 lf))
theorem cpA_ok : cpA = true := by decide +kernel
abbrev cpW : List tG := [(125, 0, 159, 1, 0), (133, 0, 19, 1, 0)]
theorem cp_l2 (hT : aTabOk) {M0 : mHe} {a b c e m : Int32} (ha : 0 ≤ a.toInt ∧ a.toInt ≤ 7) (hb : 0 ≤ b.toInt) (hc : 0 ≤ c.toInt ∧ c.toInt ≤ 7) (he : 0 ≤ e.toInt) (hm : 0 ≤ m.toInt) (h1 : b.toInt + m.toInt ≤ 20) (h2 : e.toInt + m.toInt ≤ 20) : ∀ (j k : Nat) (M : mHe) (lv : List (Nat × Value)), ((k + j : Nat) : Int) = m.toInt → yTy M → yFr cpW M0 M → mlg 0 lv = some (.ref 128) → mlg 1 lv = some (.int a) → mlg 2 lv = some (.int b) → mlg 3 lv = some (.int c) → mlg 4 lv = some (.int e) → mlg 5 lv = some (.int m) → mlg 6 lv = some (.int (Int32.ofNat k)) → mEv none 4 (335, 150, lv, []) M (fun r M' => ∃ x : Int32, r = some (.int x) ∧ yTy M' ∧ yFr cpW M0 M') := by
  have eT : (20 : Int32).toInt = 20 := rfl
  have e1 : (Int32.ofInt 1).toInt = 1 := rfl
  have hix : ∀ (o y : Int32) (k : Nat), (0 ≤ o.toInt ∧ o.toInt ≤ 7) → 0 ≤ y.toInt → y.toInt + k < 20 → (20 * o + y + Int32.ofNat k).toInt = 20 * o.toInt + y.toInt + k := fun o y k ho hy hk => by
    have ek := i32n (k := k) (by omega)
    have q1 : (20 * o).toInt = 20 * o.toInt := by rw [i32_mul (by rw [eT]; omega) (by rw [eT]; omega), eT]
    exact i32_p (i32_p q1 rfl rfl (by omega)) ek rfl (by omega)
  intro j
  induction j with
  | zero =>
    intro k M lv hj hM hfr l0 l1 l2 l3 l4 l5 l6
    have ek := i32n (k := k) (by omega)
    refine e_then (e_il2 hT (y := 335) (pc := 150) (q := (yX12_copy, cX12_copy, 7, (some .int), 12)) rfl (show aTab 335 150 = some (.iload 6, 2, 0, 0, 0, 0, 0, 0) from rfl) rfl l6) ?_
    refine e_then (e_il2 hT (y := 335) (pc := 152) (q := (yX12_copy, cX12_copy, 7, (some .int), 12)) rfl (show aTab 335 152 = some (.iload 5, 2, 0, 0, 0, 0, 0, 0) from rfl) rfl l5) ?_
    refine e_then (e_icT hT (y := 335) (pc := 154) (q := (yX12_copy, cX12_copy, 7, (some .int), 12)) rfl (show aTab 335 154 = some (.if_icmp .ge 31, 3, 0, 0, 0, 0, 0, 0) from rfl) rfl (t := 185) rfl (cdT (by rw [ek]; show m.toInt ≤ _; omega))) ?_
    refine e_then (e_il2 hT (y := 335) (pc := 185) (q := (yX12_copy, cX12_copy, 7, (some .int), 12)) rfl (show aTab 335 185 = some (.iload 5, 2, 0, 0, 0, 0, 0, 0) from rfl) rfl l5) ?_
    exact e_fin (e_iret hT (y := 335) (pc := 187) (q := (yX12_copy, cX12_copy, 7, (some .int), 12)) rfl (show aTab 335 187 = some (.ireturn, 1, 0, 0, 0, 0, 0, 0) from rfl) ⟨rfl, rfl⟩) ⟨_, rfl, hM, hfr⟩
  | succ j ih =>
    intro k M lv hj hM hfr l0 l1 l2 l3 l4 l5 l6
    have ek := i32n (k := k) (by omega)
    have es : Int32.ofNat k + Int32.ofInt 1 = Int32.ofNat (k + 1) := i32eq (by rw [i32_add (by rw [ek, e1]; omega) (by rw [ek, e1]; omega), ek, e1, i32n (by omega)]; omega)
    have hxa := hix a b k ha hb (by omega)
    have hxc := hix c e k hc he (by omega)
    obtain ⟨f, hf, -⟩ := yTy_arr hM (rfl : tTy 133 = some (.inl (20, 0, [])))
    have hx : 0 ≤ (Int32.ofNat k).toInt ∧ (Int32.ofNat k).toInt < (20 : Nat) := by omega
    obtain ⟨n1, g, s1, s2, s3⟩ := yTy_sa (c := 125) (l := 0) (h := 159) (vl := -2147483648) (vh := 2147483647) (x := 20 * c + e + Int32.ofNat k) (y := f (Int32.ofNat k).toInt.toNat) hM (by decide +kernel) (by omega) ⟨i32_lo _, i32_hi _⟩
    obtain ⟨z1, z2, -⟩ := yTy_arr hM (rfl : tTy 125 = some (.inl (160, 0, [])))
    rw [s1] at z2
    cases z2
    have hfr1 := yFr_upd (x := f (Int32.ofNat k).toInt.toNat) hfr s1 (k := (20 * c + e + Int32.ofNat k).toInt.toNat) ⟨(125, 0, 159, 1, 0), by simp, rfl, by show (0 : Int) ≤ _; omega, by show _ ≤ (159 : Int); omega, by show _ % (1 : Int) = 0; omega⟩
    refine e_then (e_il2 hT (y := 335) (pc := 150) (q := (yX12_copy, cX12_copy, 7, (some .int), 12)) rfl (show aTab 335 150 = some (.iload 6, 2, 0, 0, 0, 0, 0, 0) from rfl) rfl l6) ?_
    refine e_then (e_il2 hT (y := 335) (pc := 152) (q := (yX12_copy, cX12_copy, 7, (some .int), 12)) rfl (show aTab 335 152 = some (.iload 5, 2, 0, 0, 0, 0, 0, 0) from rfl) rfl l5) ?_
    refine e_then (e_icF hT (y := 335) (pc := 154) (q := (yX12_copy, cX12_copy, 7, (some .int), 12)) rfl (show aTab 335 154 = some (.if_icmp .ge 31, 3, 0, 0, 0, 0, 0, 0) from rfl) rfl (t := 185) rfl (cdF (by rw [ek]; show ¬ m.toInt ≤ _; omega))) ?_
    refine e_then (e_al1 hT (y := 335) (pc := 157) (q := (yX12_copy, cX12_copy, 7, (some .int), 12)) rfl (show aTab 335 157 = some (.aload_n 0, 1, 0, 0, 0, 0, 0, 0) from rfl) rfl l0) ?_
    refine e_then (e_getR hT (y := 335) (pc := 158) (q := (yX12_copy, cX12_copy, 7, (some .int), 12)) rfl (show aTab 335 158 = some (.getfield 25, 3, 0, 12, 6, 0, 0, 0) from rfl) rfl (by decide) (by decide) hM rfl rfl) ?_
    refine e_then (e_st hT (y := 335) (pc := 161) (q := (yX12_copy, cX12_copy, 7, (some .int), 12)) rfl (show aTab 335 161 = some (.bipush 20, 2, 0, 0, 0, 0, 0, 0) from rfl) (fr' := (335, 163, lv, [.int 20, .ref 134])) (M' := M) rfl) ?_
    refine e_then (e_il1 hT (y := 335) (pc := 163) (q := (yX12_copy, cX12_copy, 7, (some .int), 12)) rfl (show aTab 335 163 = some (.iload_n 3, 1, 0, 0, 0, 0, 0, 0) from rfl) rfl l3) ?_
    refine e_then (e_st hT (y := 335) (pc := 164) (q := (yX12_copy, cX12_copy, 7, (some .int), 12)) rfl (show aTab 335 164 = some (.imul, 1, 0, 0, 0, 0, 0, 0) from rfl) (fr' := (335, 165, lv, [.int (20 * c), .ref 134])) (M' := M) rfl) ?_
    refine e_then (e_il2 hT (y := 335) (pc := 165) (q := (yX12_copy, cX12_copy, 7, (some .int), 12)) rfl (show aTab 335 165 = some (.iload 4, 2, 0, 0, 0, 0, 0, 0) from rfl) rfl l4) ?_
    refine e_then (e_st hT (y := 335) (pc := 167) (q := (yX12_copy, cX12_copy, 7, (some .int), 12)) rfl (show aTab 335 167 = some (.iadd, 1, 0, 0, 0, 0, 0, 0) from rfl) (fr' := (335, 168, lv, [.int ((20 * c) + e), .ref 134])) (M' := M) rfl) ?_
    refine e_then (e_il2 hT (y := 335) (pc := 168) (q := (yX12_copy, cX12_copy, 7, (some .int), 12)) rfl (show aTab 335 168 = some (.iload 6, 2, 0, 0, 0, 0, 0, 0) from rfl) rfl l6) ?_
    refine e_then (e_st hT (y := 335) (pc := 170) (q := (yX12_copy, cX12_copy, 7, (some .int), 12)) rfl (show aTab 335 170 = some (.iadd, 1, 0, 0, 0, 0, 0, 0) from rfl) (fr' := (335, 171, lv, [.int (((20 * c) + e) + (Int32.ofNat k)), .ref 134])) (M' := M) rfl) ?_
    refine e_then (e_al1 hT (y := 335) (pc := 171) (q := (yX12_copy, cX12_copy, 7, (some .int), 12)) rfl (show aTab 335 171 = some (.aload_n 0, 1, 0, 0, 0, 0, 0, 0) from rfl) rfl l0) ?_
    refine e_then (e_getR hT (y := 335) (pc := 172) (q := (yX12_copy, cX12_copy, 7, (some .int), 12)) rfl (show aTab 335 172 = some (.getfield 49, 3, 0, 12, 28, 0, 0, 0) from rfl) rfl (by decide) (by decide) hM rfl rfl) ?_
    refine e_then (e_il2 hT (y := 335) (pc := 175) (q := (yX12_copy, cX12_copy, 7, (some .int), 12)) rfl (show aTab 335 175 = some (.iload 6, 2, 0, 0, 0, 0, 0, 0) from rfl) rfl l6) ?_
    refine e_then (e_ald hT (y := 335) (pc := 177) (q := (yX12_copy, cX12_copy, 7, (some .int), 12)) rfl (show aTab 335 177 = some (.iaload, 1, 0, 0, 0, 0, 0, 0) from rfl) ⟨rfl, by omega⟩ hf hx) ?_
    refine e_then (e_ast hT (y := 335) (pc := 178) (q := (yX12_copy, cX12_copy, 7, (some .int), 12)) rfl (show aTab 335 178 = some (.iastore, 1, 0, 0, 0, 0, 0, 0) from rfl) ⟨rfl, by omega⟩ s1 s2) ?_
    refine e_then (e_ii hT (y := 335) (pc := 179) (q := (yX12_copy, cX12_copy, 7, (some .int), 12)) rfl (show aTab 335 179 = some (.iinc 6 1, 3, 0, 0, 0, 0, 0, 0) from rfl) ⟨rfl, by decide⟩ l6) ?_
    refine e_then (e_st hT (y := 335) (pc := 182) (q := (yX12_copy, cX12_copy, 7, (some .int), 12)) rfl (show aTab 335 182 = some (.goto (-32), 3, 0, 0, 0, 0, 0, 0) from rfl) (fr' := (335, 150, _, [])) (M' := _) rfl) ?_
    rw [es]
    exact ih (k + 1) _ _ (by omega) s3 hfr1 (mlg_r l0 (by decide)) (mlg_i l1 (by decide)) (mlg_i l2 (by decide)) (mlg_i l3 (by decide)) (mlg_i l4 (by decide)) (mlg_i l5 (by decide)) (mlg_eq 6 _ _)
theorem cp_l1 (hT : aTabOk) {M0 : mHe} {a b c e m : Int32} (ha : 0 ≤ a.toInt ∧ a.toInt ≤ 7) (hb : 0 ≤ b.toInt) (hc : 0 ≤ c.toInt ∧ c.toInt ≤ 7) (he : 0 ≤ e.toInt) (hm : 0 ≤ m.toInt) (h1 : b.toInt + m.toInt ≤ 20) (h2 : e.toInt + m.toInt ≤ 20) : ∀ (j k : Nat) (M : mHe) (lv : List (Nat × Value)), ((k + j : Nat) : Int) = m.toInt → yTy M → yFr cpW M0 M → mlg 0 lv = some (.ref 128) → mlg 1 lv = some (.int a) → mlg 2 lv = some (.int b) → mlg 3 lv = some (.int c) → mlg 4 lv = some (.int e) → mlg 5 lv = some (.int m) → mlg 6 lv = some (.int (Int32.ofNat k)) → mEv none 4 (335, 113, lv, []) M (fun r M' => ∃ x : Int32, r = some (.int x) ∧ yTy M' ∧ yFr cpW M0 M') := by
  have eT : (20 : Int32).toInt = 20 := rfl
  have e1 : (Int32.ofInt 1).toInt = 1 := rfl
  have hix : ∀ (o y : Int32) (k : Nat), (0 ≤ o.toInt ∧ o.toInt ≤ 7) → 0 ≤ y.toInt → y.toInt + k < 20 → (20 * o + y + Int32.ofNat k).toInt = 20 * o.toInt + y.toInt + k := fun o y k ho hy hk => by
    have ek := i32n (k := k) (by omega)
    have q1 : (20 * o).toInt = 20 * o.toInt := by rw [i32_mul (by rw [eT]; omega) (by rw [eT]; omega), eT]
    exact i32_p (i32_p q1 rfl rfl (by omega)) ek rfl (by omega)
  intro j
  induction j with
  | zero =>
    intro k M lv hj hM hfr l0 l1 l2 l3 l4 l5 l6
    have ek := i32n (k := k) (by omega)
    refine e_then (e_il2 hT (y := 335) (pc := 113) (q := (yX12_copy, cX12_copy, 7, (some .int), 12)) rfl (show aTab 335 113 = some (.iload 6, 2, 0, 0, 0, 0, 0, 0) from rfl) rfl l6) ?_
    refine e_then (e_il2 hT (y := 335) (pc := 115) (q := (yX12_copy, cX12_copy, 7, (some .int), 12)) rfl (show aTab 335 115 = some (.iload 5, 2, 0, 0, 0, 0, 0, 0) from rfl) rfl l5) ?_
    refine e_then (e_icT hT (y := 335) (pc := 117) (q := (yX12_copy, cX12_copy, 7, (some .int), 12)) rfl (show aTab 335 117 = some (.if_icmp .ge 30, 3, 0, 0, 0, 0, 0, 0) from rfl) rfl (t := 147) rfl (cdT (by rw [ek]; show m.toInt ≤ _; omega))) ?_
    refine e_then (e_st hT (y := 335) (pc := 147) (q := (yX12_copy, cX12_copy, 7, (some .int), 12)) rfl (show aTab 335 147 = some (.iconst 0, 1, 0, 0, 0, 0, 0, 0) from rfl) (fr' := (335, 148, lv, [.int 0])) (M' := M) rfl) ?_
    refine e_then (e_is2 hT (y := 335) (pc := 148) (q := (yX12_copy, cX12_copy, 7, (some .int), 12)) rfl (show aTab 335 148 = some (.istore 6, 2, 0, 0, 0, 0, 0, 0) from rfl) ⟨rfl, by decide⟩) ?_
    exact cp_l2 hT ha hb hc he hm h1 h2 m.toInt.toNat 0 M _ (by omega) hM hfr (mlg_r l0 (by decide)) (mlg_i l1 (by decide)) (mlg_i l2 (by decide)) (mlg_i l3 (by decide)) (mlg_i l4 (by decide)) (mlg_i l5 (by decide)) (mlg_eq 6 _ _)
  | succ j ih =>
    intro k M lv hj hM hfr l0 l1 l2 l3 l4 l5 l6
    have ek := i32n (k := k) (by omega)
    have es : Int32.ofNat k + Int32.ofInt 1 = Int32.ofNat (k + 1) := i32eq (by rw [i32_add (by rw [ek, e1]; omega) (by rw [ek, e1]; omega), ek, e1, i32n (by omega)]; omega)
    have hxa := hix a b k ha hb (by omega)
    have hxc := hix c e k hc he (by omega)
    obtain ⟨f, hf, -⟩ := yTy_arr hM (rfl : tTy 125 = some (.inl (160, 0, [])))
    have hx : 0 ≤ (20 * a + b + Int32.ofNat k).toInt ∧ (20 * a + b + Int32.ofNat k).toInt < (160 : Nat) := by omega
    obtain ⟨n1, g, s1, s2, s3⟩ := yTy_sa (c := 133) (l := 0) (h := 19) (vl := -2147483648) (vh := 2147483647) (x := Int32.ofNat k) (y := f (20 * a + b + Int32.ofNat k).toInt.toNat) hM (by decide +kernel) (by omega) ⟨i32_lo _, i32_hi _⟩
    obtain ⟨z1, z2, -⟩ := yTy_arr hM (rfl : tTy 133 = some (.inl (20, 0, [])))
    rw [s1] at z2
    cases z2
    have hfr1 := yFr_upd (x := f (20 * a + b + Int32.ofNat k).toInt.toNat) hfr s1 (k := (Int32.ofNat k).toInt.toNat) ⟨(133, 0, 19, 1, 0), by simp, rfl, by show (0 : Int) ≤ _; omega, by show _ ≤ (19 : Int); omega, by show _ % (1 : Int) = 0; omega⟩
    refine e_then (e_il2 hT (y := 335) (pc := 113) (q := (yX12_copy, cX12_copy, 7, (some .int), 12)) rfl (show aTab 335 113 = some (.iload 6, 2, 0, 0, 0, 0, 0, 0) from rfl) rfl l6) ?_
    refine e_then (e_il2 hT (y := 335) (pc := 115) (q := (yX12_copy, cX12_copy, 7, (some .int), 12)) rfl (show aTab 335 115 = some (.iload 5, 2, 0, 0, 0, 0, 0, 0) from rfl) rfl l5) ?_
    refine e_then (e_icF hT (y := 335) (pc := 117) (q := (yX12_copy, cX12_copy, 7, (some .int), 12)) rfl (show aTab 335 117 = some (.if_icmp .ge 30, 3, 0, 0, 0, 0, 0, 0) from rfl) rfl (t := 147) rfl (cdF (by rw [ek]; show ¬ m.toInt ≤ _; omega))) ?_
    refine e_then (e_al1 hT (y := 335) (pc := 120) (q := (yX12_copy, cX12_copy, 7, (some .int), 12)) rfl (show aTab 335 120 = some (.aload_n 0, 1, 0, 0, 0, 0, 0, 0) from rfl) rfl l0) ?_
    refine e_then (e_getR hT (y := 335) (pc := 121) (q := (yX12_copy, cX12_copy, 7, (some .int), 12)) rfl (show aTab 335 121 = some (.getfield 49, 3, 0, 12, 28, 0, 0, 0) from rfl) rfl (by decide) (by decide) hM rfl rfl) ?_
    refine e_then (e_il2 hT (y := 335) (pc := 124) (q := (yX12_copy, cX12_copy, 7, (some .int), 12)) rfl (show aTab 335 124 = some (.iload 6, 2, 0, 0, 0, 0, 0, 0) from rfl) rfl l6) ?_
    refine e_then (e_al1 hT (y := 335) (pc := 126) (q := (yX12_copy, cX12_copy, 7, (some .int), 12)) rfl (show aTab 335 126 = some (.aload_n 0, 1, 0, 0, 0, 0, 0, 0) from rfl) rfl l0) ?_
    refine e_then (e_getR hT (y := 335) (pc := 127) (q := (yX12_copy, cX12_copy, 7, (some .int), 12)) rfl (show aTab 335 127 = some (.getfield 25, 3, 0, 12, 6, 0, 0, 0) from rfl) rfl (by decide) (by decide) hM rfl rfl) ?_
    refine e_then (e_st hT (y := 335) (pc := 130) (q := (yX12_copy, cX12_copy, 7, (some .int), 12)) rfl (show aTab 335 130 = some (.bipush 20, 2, 0, 0, 0, 0, 0, 0) from rfl) (fr' := (335, 132, lv, [.int 20, .ref 134, .int (Int32.ofNat k), .ref 142])) (M' := M) rfl) ?_
    refine e_then (e_il1 hT (y := 335) (pc := 132) (q := (yX12_copy, cX12_copy, 7, (some .int), 12)) rfl (show aTab 335 132 = some (.iload_n 1, 1, 0, 0, 0, 0, 0, 0) from rfl) rfl l1) ?_
    refine e_then (e_st hT (y := 335) (pc := 133) (q := (yX12_copy, cX12_copy, 7, (some .int), 12)) rfl (show aTab 335 133 = some (.imul, 1, 0, 0, 0, 0, 0, 0) from rfl) (fr' := (335, 134, lv, [.int (20 * a), .ref 134, .int (Int32.ofNat k), .ref 142])) (M' := M) rfl) ?_
    refine e_then (e_il1 hT (y := 335) (pc := 134) (q := (yX12_copy, cX12_copy, 7, (some .int), 12)) rfl (show aTab 335 134 = some (.iload_n 2, 1, 0, 0, 0, 0, 0, 0) from rfl) rfl l2) ?_
    refine e_then (e_st hT (y := 335) (pc := 135) (q := (yX12_copy, cX12_copy, 7, (some .int), 12)) rfl (show aTab 335 135 = some (.iadd, 1, 0, 0, 0, 0, 0, 0) from rfl) (fr' := (335, 136, lv, [.int ((20 * a) + b), .ref 134, .int (Int32.ofNat k), .ref 142])) (M' := M) rfl) ?_
    refine e_then (e_il2 hT (y := 335) (pc := 136) (q := (yX12_copy, cX12_copy, 7, (some .int), 12)) rfl (show aTab 335 136 = some (.iload 6, 2, 0, 0, 0, 0, 0, 0) from rfl) rfl l6) ?_
    refine e_then (e_st hT (y := 335) (pc := 138) (q := (yX12_copy, cX12_copy, 7, (some .int), 12)) rfl (show aTab 335 138 = some (.iadd, 1, 0, 0, 0, 0, 0, 0) from rfl) (fr' := (335, 139, lv, [.int (((20 * a) + b) + (Int32.ofNat k)), .ref 134, .int (Int32.ofNat k), .ref 142])) (M' := M) rfl) ?_
    refine e_then (e_ald hT (y := 335) (pc := 139) (q := (yX12_copy, cX12_copy, 7, (some .int), 12)) rfl (show aTab 335 139 = some (.iaload, 1, 0, 0, 0, 0, 0, 0) from rfl) ⟨rfl, by omega⟩ hf hx) ?_
    refine e_then (e_ast hT (y := 335) (pc := 140) (q := (yX12_copy, cX12_copy, 7, (some .int), 12)) rfl (show aTab 335 140 = some (.iastore, 1, 0, 0, 0, 0, 0, 0) from rfl) ⟨rfl, by omega⟩ s1 s2) ?_
    refine e_then (e_ii hT (y := 335) (pc := 141) (q := (yX12_copy, cX12_copy, 7, (some .int), 12)) rfl (show aTab 335 141 = some (.iinc 6 1, 3, 0, 0, 0, 0, 0, 0) from rfl) ⟨rfl, by decide⟩ l6) ?_
    refine e_then (e_st hT (y := 335) (pc := 144) (q := (yX12_copy, cX12_copy, 7, (some .int), 12)) rfl (show aTab 335 144 = some (.goto (-31), 3, 0, 0, 0, 0, 0, 0) from rfl) (fr' := (335, 113, _, [])) (M' := _) rfl) ?_
    rw [es]
    exact ih (k + 1) _ _ (by omega) s3 hfr1 (mlg_r l0 (by decide)) (mlg_i l1 (by decide)) (mlg_i l2 (by decide)) (mlg_i l3 (by decide)) (mlg_i l4 (by decide)) (mlg_i l5 (by decide)) (mlg_eq 6 _ _)
theorem hand_copy (hT : aTabOk) : tCtOk (335, [(0, 128, 0, 0), (1, 0, -2147483648, 2147483647), (1, 0, -2147483648, 2147483647), (1, 0, -2147483648, 2147483647), (1, 0, -2147483648, 2147483647), (1, 0, -2147483648, 2147483647)], some (-2147483648, 2147483647), [(125, 0, 159, 1, 0), (133, 0, 19, 1, 0)], 4, [], []) := by
  intro M vs d hM hvs hd _
  match vs, hvs with
  | [v0, v1, v2, v3, v4, v5], h =>
    have h0 : v0 = .ref 128 := h.1
    have h1' : ∃ x : Int32, v1 = .int x ∧ -2147483648 ≤ x.toInt ∧ x.toInt ≤ 2147483647 := h.2.1
    have h2' : ∃ x : Int32, v2 = .int x ∧ -2147483648 ≤ x.toInt ∧ x.toInt ≤ 2147483647 := h.2.2.1
    have h3' : ∃ x : Int32, v3 = .int x ∧ -2147483648 ≤ x.toInt ∧ x.toInt ≤ 2147483647 := h.2.2.2.1
    have h4' : ∃ x : Int32, v4 = .int x ∧ -2147483648 ≤ x.toInt ∧ x.toInt ≤ 2147483647 := h.2.2.2.2.1
    have h5' : ∃ x : Int32, v5 = .int x ∧ -2147483648 ≤ x.toInt ∧ x.toInt ≤ 2147483647 := h.2.2.2.2.2.1
    obtain ⟨a, q1, b1⟩ := h1'
    obtain ⟨b, q2, b2⟩ := h2'
    obtain ⟨c, q3, b3⟩ := h3'
    obtain ⟨e, q4, b4⟩ := h4'
    obtain ⟨m, q5, b5⟩ := h5'
    subst h0; subst q1; subst q2; subst q3; subst q4; subst q5
    have main : mEv none 4 (335, 0, lv_args 0 [.ref 128, .int a, .int b, .int c, .int e, .int m], []) M (fun r M' => ∃ x : Int32, r = some (.int x) ∧ yTy M' ∧ yFr cpW M M') := by
      have hA := cpA_ok
      unfold cpA at hA
      have hE : xE [a.toInt, b.toInt, c.toInt, e.toInt, m.toInt] ([(-2147483648, 2147483647), (-2147483648, 2147483647), (-2147483648, 2147483647), (-2147483648, 2147483647), (-2147483648, 2147483647)], []) := by
        refine xE_of_list rfl (fun i l u e hb he => ?_)
        match i with
        | 0 => cases hb; cases he; exact ⟨b1, i32_lo _, i32_hi _⟩
        | 1 => cases hb; cases he; exact ⟨b2, i32_lo _, i32_hi _⟩
        | 2 => cases hb; cases he; exact ⟨b3, i32_lo _, i32_hi _⟩
        | 3 => cases hb; cases he; exact ⟨b4, i32_lo _, i32_hi _⟩
        | 4 => cases hb; cases he; exact ⟨b5, i32_lo _, i32_hi _⟩
        | i + 5 => simp at hb
      have hL : yLv [a.toInt, b.toInt, c.toInt, e.toInt, m.toInt] cpL (lv_args 0 [.ref 128, .int a, .int b, .int c, .int e, .int m]) := yLv_cons rfl (yV_kR _ _) (yLv_cons rfl (yV_atom rfl) (yLv_cons rfl (yV_atom rfl) (yLv_cons rfl (yV_atom rfl) (yLv_cons rfl (yV_atom rfl) (yLv_cons rfl (yV_atom rfl) (yLv_nil _ _))))))
      obtain ⟨lf, f1, f2⟩ := tSegC (xs := x00) hT (fun ct hct => by cases hct) hA hE hL (cst := []) (show yS _ [] [] from trivial) ⟨hM, fun q hq => by cases hq⟩
      simp only [Bool.or_eq_true, Bool.and_eq_true] at f1
      rcases f1 with f1 | ⟨⟨⟨⟨⟨f1, f3⟩, f4⟩, f5⟩, f6⟩, f7⟩
      · obtain ⟨X, N, x, M', m1, m2, m3, m4, m5⟩ := lRes_ok f1 f2
        exact ⟨N, _, M', m2, x, rfl, m4.1, yFr_tr (fun xs c k hn => yFr_nil (m5 _ (List.mem_singleton_self _)) c k) (yFr_rf _ _)⟩
      · obtain ⟨X, lv, st', M', m1, m2, m3, m4, m5, m6, m7⟩ := lAt_ok f1 f2
        have hfr : yFr cpW M M' := fun xs c k hn => yFr_nil (m7 _ (List.mem_singleton_self _)) c k
        obtain ⟨a', l1, z1⟩ := loc_i (k := 1) (i := 0) (a := 0) (e := a.toInt) m4 (by simp [cpL]) rfl
        obtain ⟨b', l2, z2⟩ := loc_i (k := 2) (i := 1) (a := 0) (e := b.toInt) m4 (by simp [cpL]) rfl
        obtain ⟨c', l3, z3⟩ := loc_i (k := 3) (i := 2) (a := 0) (e := c.toInt) m4 (by simp [cpL]) rfl
        obtain ⟨e', l4, z4⟩ := loc_i (k := 4) (i := 3) (a := 0) (e := e.toInt) m4 (by simp [cpL]) rfl
        obtain ⟨m', l5, z5⟩ := loc_i (k := 5) (i := 4) (a := 0) (e := m.toInt) m4 (by simp [cpL]) rfl
        have l0 : mlg 0 lv = some (.ref 128) := loc_r m4 (by simp [cpL])
        obtain ⟨x1, w1, u1, u1'⟩ := m5 _ _ _ f3
        obtain ⟨x3, w3, u3, u3'⟩ := m5 _ _ _ f4
        obtain ⟨x2, w2, u2, u2'⟩ := m5 _ _ _ f5
        obtain ⟨x4, w4, u4, u4'⟩ := m5 _ _ _ f6
        obtain ⟨x5, w5, u5, u5'⟩ := m5 _ _ _ f7
        rw [l1] at w1; cases w1
        rw [l2] at w2; cases w2
        rw [l3] at w3; cases w3
        rw [l4] at w4; cases w4
        rw [l5] at w5; cases w5
        have q1 : a' = a := i32eq (by omega)
        have q2 : b' = b := i32eq (by omega)
        have q3 : c' = c := i32eq (by omega)
        have q4 : e' = e := i32eq (by omega)
        have q5 : m' = m := i32eq (by omega)
        subst q1; subst q2; subst q3; subst q4; subst q5
        have hst := yS_nil m3
        subst hst
        refine e_then m2 ?_
        obtain ⟨sz, hsz, hst2, -⟩ := yTy_arr m6.1 (rfl : tTy 124 = some (.inl (8, 0, [(0, 7, 1, [(0, 20)])])))
        have hs1 := (hst2 (0, 7, 1, [(0, 20)]) (by simp) a'.toInt.toNat (by omega) (by show (0 : Int) ≤ _; omega) (by show _ ≤ (7 : Int); omega)).2
        have hs2 := (hst2 (0, 7, 1, [(0, 20)]) (by simp) c'.toInt.toNat (by omega) (by show (0 : Int) ≤ _; omega) (by show _ ≤ (7 : Int); omega)).2
        have e7 : ∀ k : Nat, k ≤ 7 → (tV1 [(0, 20)] 1 0 (k : Int)).2 ≤ 20 := fun k hk => by
          unfold tV1
          have : (((k : Int) - 0) % Int.ofNat 1).toNat = 0 := by show (((k : Int) - 0) % 1).toNat = 0; omega
          rw [this]
          decide
        have hs1 : (sz a'.toInt.toNat).toInt ≤ 20 := Int.le_trans hs1 (e7 _ (by omega))
        have hs2 : (sz c'.toInt.toNat).toInt ≤ 20 := Int.le_trans hs2 (e7 _ (by omega))
        refine e_then (e_il1 hT (y := 335) (pc := 71) (q := (yX12_copy, cX12_copy, 7, (some .int), 12)) rfl (show aTab 335 71 = some (.iload_n 2, 1, 0, 0, 0, 0, 0, 0) from rfl) rfl l2) ?_
        refine e_then (e_st hT (y := 335) (pc := 72) (q := (yX12_copy, cX12_copy, 7, (some .int), 12)) rfl (show aTab 335 72 = some (.i2l, 1, 0, 0, 0, 0, 0, 0) from rfl) (fr' := (335, 73, lv, [.long (b').toInt64])) (M' := M') rfl) ?_
        refine e_then (e_il2 hT (y := 335) (pc := 73) (q := (yX12_copy, cX12_copy, 7, (some .int), 12)) rfl (show aTab 335 73 = some (.iload 5, 2, 0, 0, 0, 0, 0, 0) from rfl) rfl l5) ?_
        refine e_then (e_st hT (y := 335) (pc := 75) (q := (yX12_copy, cX12_copy, 7, (some .int), 12)) rfl (show aTab 335 75 = some (.i2l, 1, 0, 0, 0, 0, 0, 0) from rfl) (fr' := (335, 76, lv, [.long (m').toInt64, .long (b').toInt64])) (M' := M') rfl) ?_
        refine e_then (e_st hT (y := 335) (pc := 76) (q := (yX12_copy, cX12_copy, 7, (some .int), 12)) rfl (show aTab 335 76 = some (.ladd, 1, 0, 0, 0, 0, 0, 0) from rfl) (fr' := (335, 77, lv, [.long ((b').toInt64 + (m').toInt64)])) (M' := M') rfl) ?_
        refine e_then (e_al1 hT (y := 335) (pc := 77) (q := (yX12_copy, cX12_copy, 7, (some .int), 12)) rfl (show aTab 335 77 = some (.aload_n 0, 1, 0, 0, 0, 0, 0, 0) from rfl) rfl l0) ?_
        refine e_then (e_getR hT (y := 335) (pc := 78) (q := (yX12_copy, cX12_copy, 7, (some .int), 12)) rfl (show aTab 335 78 = some (.getfield 22, 3, 0, 12, 5, 0, 0, 0) from rfl) rfl (by decide) (by decide) m6.1 rfl rfl) ?_
        refine e_then (e_il1 hT (y := 335) (pc := 81) (q := (yX12_copy, cX12_copy, 7, (some .int), 12)) rfl (show aTab 335 81 = some (.iload_n 1, 1, 0, 0, 0, 0, 0, 0) from rfl) rfl l1) ?_
        refine e_then (e_ald hT (y := 335) (pc := 82) (q := (yX12_copy, cX12_copy, 7, (some .int), 12)) rfl (show aTab 335 82 = some (.iaload, 1, 0, 0, 0, 0, 0, 0) from rfl) ⟨rfl, by omega⟩ hsz ⟨by omega, by show _ < (8 : Int); omega⟩) ?_
        refine e_then (e_st hT (y := 335) (pc := 83) (q := (yX12_copy, cX12_copy, 7, (some .int), 12)) rfl (show aTab 335 83 = some (.i2l, 1, 0, 0, 0, 0, 0, 0) from rfl) (fr' := (335, 84, lv, [.long ((sz a'.toInt.toNat)).toInt64, .long ((b').toInt64 + (m').toInt64)])) (M' := M') rfl) ?_
        refine e_then (e_st hT (y := 335) (pc := 84) (q := (yX12_copy, cX12_copy, 7, (some .int), 12)) rfl (show aTab 335 84 = some (.lcmp, 1, 0, 0, 0, 0, 0, 0) from rfl) (fr' := (335, 85, lv, [.int (lg_cmp (((b').toInt64 + (m').toInt64)) (((sz a'.toInt.toNat)).toInt64))])) (M' := M') rfl) ?_
        by_cases hc1 : b'.toInt + m'.toInt > (sz a'.toInt.toNat).toInt
        · refine e_then (e_ifT hT (y := 335) (pc := 85) (q := (yX12_copy, cX12_copy, 7, (some .int), 12)) rfl (show aTab 335 85 = some (.ifCond .gt 21, 3, 0, 0, 0, 0, 0, 0) from rfl) rfl (t := 106) rfl (by rw [lcmp_gt]; exact decide_eq_true hc1)) ?_
          refine e_then (e_st hT (y := 335) (pc := 106) (q := (yX12_copy, cX12_copy, 7, (some .int), 12)) rfl (show aTab 335 106 = some (.ldc_w 359, 3, 7, 0, (-1000000013), 0, 0, 0) from rfl) (fr' := (335, 109, lv, [.int (-1000000013)])) (M' := M') rfl) ?_
          exact e_fin (e_iret hT (y := 335) (pc := 109) (q := (yX12_copy, cX12_copy, 7, (some .int), 12)) rfl (show aTab 335 109 = some (.ireturn, 1, 0, 0, 0, 0, 0, 0) from rfl) ⟨rfl, rfl⟩) ⟨_, rfl, m6.1, hfr⟩
        · refine e_then (e_ifF hT (y := 335) (pc := 85) (q := (yX12_copy, cX12_copy, 7, (some .int), 12)) rfl (show aTab 335 85 = some (.ifCond .gt 21, 3, 0, 0, 0, 0, 0, 0) from rfl) rfl (t := 106) rfl (by rw [lcmp_gt]; exact decide_eq_false hc1)) ?_
          refine e_then (e_il2 hT (y := 335) (pc := 88) (q := (yX12_copy, cX12_copy, 7, (some .int), 12)) rfl (show aTab 335 88 = some (.iload 4, 2, 0, 0, 0, 0, 0, 0) from rfl) rfl l4) ?_
          refine e_then (e_st hT (y := 335) (pc := 90) (q := (yX12_copy, cX12_copy, 7, (some .int), 12)) rfl (show aTab 335 90 = some (.i2l, 1, 0, 0, 0, 0, 0, 0) from rfl) (fr' := (335, 91, lv, [.long (e').toInt64])) (M' := M') rfl) ?_
          refine e_then (e_il2 hT (y := 335) (pc := 91) (q := (yX12_copy, cX12_copy, 7, (some .int), 12)) rfl (show aTab 335 91 = some (.iload 5, 2, 0, 0, 0, 0, 0, 0) from rfl) rfl l5) ?_
          refine e_then (e_st hT (y := 335) (pc := 93) (q := (yX12_copy, cX12_copy, 7, (some .int), 12)) rfl (show aTab 335 93 = some (.i2l, 1, 0, 0, 0, 0, 0, 0) from rfl) (fr' := (335, 94, lv, [.long (m').toInt64, .long (e').toInt64])) (M' := M') rfl) ?_
          refine e_then (e_st hT (y := 335) (pc := 94) (q := (yX12_copy, cX12_copy, 7, (some .int), 12)) rfl (show aTab 335 94 = some (.ladd, 1, 0, 0, 0, 0, 0, 0) from rfl) (fr' := (335, 95, lv, [.long ((e').toInt64 + (m').toInt64)])) (M' := M') rfl) ?_
          refine e_then (e_al1 hT (y := 335) (pc := 95) (q := (yX12_copy, cX12_copy, 7, (some .int), 12)) rfl (show aTab 335 95 = some (.aload_n 0, 1, 0, 0, 0, 0, 0, 0) from rfl) rfl l0) ?_
          refine e_then (e_getR hT (y := 335) (pc := 96) (q := (yX12_copy, cX12_copy, 7, (some .int), 12)) rfl (show aTab 335 96 = some (.getfield 22, 3, 0, 12, 5, 0, 0, 0) from rfl) rfl (by decide) (by decide) m6.1 rfl rfl) ?_
          refine e_then (e_il1 hT (y := 335) (pc := 99) (q := (yX12_copy, cX12_copy, 7, (some .int), 12)) rfl (show aTab 335 99 = some (.iload_n 3, 1, 0, 0, 0, 0, 0, 0) from rfl) rfl l3) ?_
          refine e_then (e_ald hT (y := 335) (pc := 100) (q := (yX12_copy, cX12_copy, 7, (some .int), 12)) rfl (show aTab 335 100 = some (.iaload, 1, 0, 0, 0, 0, 0, 0) from rfl) ⟨rfl, by omega⟩ hsz ⟨by omega, by show _ < (8 : Int); omega⟩) ?_
          refine e_then (e_st hT (y := 335) (pc := 101) (q := (yX12_copy, cX12_copy, 7, (some .int), 12)) rfl (show aTab 335 101 = some (.i2l, 1, 0, 0, 0, 0, 0, 0) from rfl) (fr' := (335, 102, lv, [.long ((sz c'.toInt.toNat)).toInt64, .long ((e').toInt64 + (m').toInt64)])) (M' := M') rfl) ?_
          refine e_then (e_st hT (y := 335) (pc := 102) (q := (yX12_copy, cX12_copy, 7, (some .int), 12)) rfl (show aTab 335 102 = some (.lcmp, 1, 0, 0, 0, 0, 0, 0) from rfl) (fr' := (335, 103, lv, [.int (lg_cmp (((e').toInt64 + (m').toInt64)) (((sz c'.toInt.toNat)).toInt64))])) (M' := M') rfl) ?_
          by_cases hc2 : e'.toInt + m'.toInt ≤ (sz c'.toInt.toNat).toInt
          · refine e_then (e_ifT hT (y := 335) (pc := 103) (q := (yX12_copy, cX12_copy, 7, (some .int), 12)) rfl (show aTab 335 103 = some (.ifCond .le 7, 3, 0, 0, 0, 0, 0, 0) from rfl) rfl (t := 110) rfl (by rw [lcmp_le]; exact decide_eq_true hc2)) ?_
            refine e_then (e_st hT (y := 335) (pc := 110) (q := (yX12_copy, cX12_copy, 7, (some .int), 12)) rfl (show aTab 335 110 = some (.iconst 0, 1, 0, 0, 0, 0, 0, 0) from rfl) (fr' := (335, 111, lv, [.int 0])) (M' := M') rfl) ?_
            refine e_then (e_is2 hT (y := 335) (pc := 111) (q := (yX12_copy, cX12_copy, 7, (some .int), 12)) rfl (show aTab 335 111 = some (.istore 6, 2, 0, 0, 0, 0, 0, 0) from rfl) ⟨rfl, by decide⟩) ?_
            exact cp_l1 hT (by omega) (by omega) (by omega) (by omega) (by omega) (by omega) (by omega) m'.toInt.toNat 0 M' _ (by omega) m6.1 hfr (mlg_r l0 (by decide)) (mlg_i l1 (by decide)) (mlg_i l2 (by decide)) (mlg_i l3 (by decide)) (mlg_i l4 (by decide)) (mlg_i l5 (by decide)) (mlg_eq 6 _ _)
          · refine e_then (e_ifF hT (y := 335) (pc := 103) (q := (yX12_copy, cX12_copy, 7, (some .int), 12)) rfl (show aTab 335 103 = some (.ifCond .le 7, 3, 0, 0, 0, 0, 0, 0) from rfl) rfl (t := 110) rfl (by rw [lcmp_le]; exact decide_eq_false hc2)) ?_
            refine e_then (e_st hT (y := 335) (pc := 106) (q := (yX12_copy, cX12_copy, 7, (some .int), 12)) rfl (show aTab 335 106 = some (.ldc_w 359, 3, 7, 0, (-1000000013), 0, 0, 0) from rfl) (fr' := (335, 109, lv, [.int (-1000000013)])) (M' := M') rfl) ?_
            exact e_fin (e_iret hT (y := 335) (pc := 109) (q := (yX12_copy, cX12_copy, 7, (some .int), 12)) rfl (show aTab 335 109 = some (.ireturn, 1, 0, 0, 0, 0, 0, 0) from rfl) ⟨rfl, rfl⟩) ⟨_, rfl, m6.1, hfr⟩
    obtain ⟨N, r, M', m1, x, rfl, m2, m3⟩ := main
    exact ⟨N, _, M', mRun_dm m1 hd, m2, m3, ⟨x, rfl, i32_lo x, i32_hi x⟩, fun ab hab => by cases hab⟩
