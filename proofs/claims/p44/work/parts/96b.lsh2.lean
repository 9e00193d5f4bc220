/-- the table of all hours from h on -/
def shTB (mc : Nat) (H : Nat → Nat → Int32) (g : Nat → Nat → Int32) (N n : Nat) (g1 : Nat → Nat → Int32) (h : Nat) : Prop := (∀ c k, c ≠ mc → g1 c k = g c k) ∧ ∀ h', h ≤ h' → h' ≤ n → ∀ k, k < 14 → g1 mc (14 * h' + k) = rowV H N n (n - h') k
theorem xH_eq {g g1 : Nat → Nat → Int32} (h : ∀ c k, c ≠ 43 → g1 c k = g c k) : xHr g1 = xHr g := by
  funext h' w
  unfold xHr
  rw [h 42 h' (by decide), h 41 w (by decide)]
theorem rowV_s {H : Nat → Nat → Int32} {N n h k : Nat} (hh : h < n) : rowV H N n (n - h) k = mxV (hbV H N (rowV H N n (n - (h + 1))) h (k / 2) (k % 2)) 7 := by
  rw [show n - h = (n - (h + 1)) + 1 by omega]
  show mxV (hbV H N (rowV H N n (n - (h + 1))) (n - 1 - (n - (h + 1))) (k / 2) (k % 2)) 7 = _
  rw [show n - 1 - (n - (h + 1)) = h by omega]
theorem xwc_loop (hT : aTabOk) {g : Nat → Nat → Int32} {N n h : Nat} (hN : g 40 0 = Int32.ofNat N) (hN6 : N ≤ 6) (hn8 : n ≤ 8) (hh : h < n) {Q : Option Value → mHe → Prop} (hQ : ∀ (lv' : List (Nat × Value)) (M2 : mHe), yTy M2 → shTB 43 (xHr g) g N n (rdI M2) h → mlg 0 lv' = some (.ref 49) → mlg 1 lv' = some (.int (Int32.ofNat n)) → mlg 2 lv' = some (.int (Int32.ofNat h)) → mEv none 50 (144, 89, lv', []) M2 Q) : ∀ (j la : Nat) (lv : List (Nat × Value)) (M1 : mHe), la + j = 7 → yTy M1 → shTB 43 (xHr g) g N n (rdI M1) (h + 1) → (∀ k, k < 2 * la → rdI M1 43 (14 * h + k) = rowV (xHr g) N n (n - h) k) → mlg 0 lv = some (.ref 49) → mlg 1 lv = some (.int (Int32.ofNat n)) → mlg 2 lv = some (.int (Int32.ofNat h)) → mlg 3 lv = some (.int (Int32.ofNat la)) → mEv none 50 (144, 39, lv, []) M1 Q := by
  have e7 : (7 : Int32).toInt = 7 := rfl
  intro j
  induction j with
  | zero =>
    intro la lv M1 hj hM hB hC h0 h1 h2 h3
    have hj : la = 7 := by omega
    subst hj
    refine e_then (e_il1 hT (y := 144) (pc := 39) (q := (yX7_weigh, cX7_weigh, 4, none, 7)) rfl (show aTab 144 39 = some (.iload_n 3, 1, 0, 0, 0, 0, 0, 0) from rfl) rfl h3) ?_
    refine e_then (e_st hT (y := 144) (pc := 40) (q := (yX7_weigh, cX7_weigh, 4, none, 7)) rfl (show aTab 144 40 = some (.bipush 7, 2, 0, 0, 0, 0, 0, 0) from rfl) (fr' := (144, 42, lv, [.int 7, .int (Int32.ofNat 7)])) (M' := M1) rfl) ?_
    refine e_then (e_icT hT (y := 144) (pc := 42) (q := (yX7_weigh, cX7_weigh, 4, none, 7)) rfl (show aTab 144 42 = some (.if_icmp .ge 47, 3, 0, 0, 0, 0, 0, 0) from rfl) rfl (t := 89) rfl (cdT (by show (7 : Int32).toInt ≤ (Int32.ofNat 7).toInt; decide))) ?_
    refine hQ _ M1 hM ⟨hB.1, fun h' h1' h2' k hk => ?_⟩ h0 h1 h2
    by_cases e : h' = h
    · subst e; exact hC k (by omega)
    · exact hB.2 h' (by omega) h2' k hk
  | succ j ih =>
    intro la lv M1 hj hM hB hC h0 h1 h2 h3
    have el := i32n (k := la) (by omega)
    obtain ⟨g1, hg⟩ : ∃ x, x = rdI M1 := ⟨_, rfl⟩
    rw [← hg] at hB hC
    have hg := hg.symm
    have hN1 : g1 40 0 = Int32.ofNat N := by rw [hB.1 40 0 (by decide)]; exact hN
    have hx1 := xH_eq hB.1
    have hn1 : ∀ k, k < 14 → g1 43 (14 * (h + 1) + k) = rowV (xHr g) N n (n - (h + 1)) k := fun k hk => hB.2 (h + 1) (Nat.le_refl _) (by omega) k hk
    obtain ⟨K1, q1⟩ := xpl_run hT hM (h := h) (la := la) (tw := 0) (by omega) (by omega) (by decide) (d := 49) (by decide)
    obtain ⟨K2, q2⟩ := xbf_run hT hM hg hN1 hN6 hn1 (h := h) (la := la) (tw := 0) (by omega) (by omega) (by decide) (d := 49) (by decide)
    rw [hx1] at q2
    have v0 : mxV (hbV (xHr g) N (rowV (xHr g) N n (n - (h + 1))) h la 0) 7 = rowV (xHr g) N n (n - h) (2 * la) := by
      rw [rowV_s hh, show 2 * la / 2 = la by omega, show 2 * la % 2 = 0 by omega]
    rw [v0] at q2
    refine e_then (e_il1 hT (y := 144) (pc := 39) (q := (yX7_weigh, cX7_weigh, 4, none, 7)) rfl (show aTab 144 39 = some (.iload_n 3, 1, 0, 0, 0, 0, 0, 0) from rfl) rfl h3) ?_
    refine e_then (e_st hT (y := 144) (pc := 40) (q := (yX7_weigh, cX7_weigh, 4, none, 7)) rfl (show aTab 144 40 = some (.bipush 7, 2, 0, 0, 0, 0, 0, 0) from rfl) (fr' := (144, 42, lv, [.int 7, .int (Int32.ofNat la)])) (M' := M1) rfl) ?_
    refine e_then (e_icF hT (y := 144) (pc := 42) (q := (yX7_weigh, cX7_weigh, 4, none, 7)) rfl (show aTab 144 42 = some (.if_icmp .ge 47, 3, 0, 0, 0, 0, 0, 0) from rfl) rfl (t := 89) rfl (cdF (by show ¬ _ ≤ _; omega))) ?_
    refine e_then (e_al1 hT (y := 144) (pc := 45) (q := (yX7_weigh, cX7_weigh, 4, none, 7)) rfl (show aTab 144 45 = some (.aload_n 0, 1, 0, 0, 0, 0, 0, 0) from rfl) rfl h0) ?_
    refine e_then (e_getR hT (y := 144) (pc := 46) (q := (yX7_weigh, cX7_weigh, 4, none, 7)) rfl (show aTab 144 46 = some (.getfield 18, 3, 0, 7, 3, 0, 0, 0) from rfl) rfl (by decide) (by decide) hM rfl rfl) ?_
    refine e_then (e_al1 hT (y := 144) (pc := 49) (q := (yX7_weigh, cX7_weigh, 4, none, 7)) rfl (show aTab 144 49 = some (.aload_n 0, 1, 0, 0, 0, 0, 0, 0) from rfl) rfl h0) ?_
    refine e_then (e_il1 hT (y := 144) (pc := 50) (q := (yX7_weigh, cX7_weigh, 4, none, 7)) rfl (show aTab 144 50 = some (.iload_n 2, 1, 0, 0, 0, 0, 0, 0) from rfl) rfl h2) ?_
    refine e_then (e_il1 hT (y := 144) (pc := 51) (q := (yX7_weigh, cX7_weigh, 4, none, 7)) rfl (show aTab 144 51 = some (.iload_n 3, 1, 0, 0, 0, 0, 0, 0) from rfl) rfl h3) ?_
    refine e_then (e_st hT (y := 144) (pc := 52) (q := (yX7_weigh, cX7_weigh, 4, none, 7)) rfl (show aTab 144 52 = some (.iconst 0, 1, 0, 0, 0, 0, 0, 0) from rfl) (fr' := (144, 53, lv, [.int 0, .int (Int32.ofNat la), .int (Int32.ofNat h), .ref 49, .ref 52])) (M' := M1) rfl) ?_
    refine e_then (e_call hT (y := 144) (pc := 53) (q := (yX7_weigh, cX7_weigh, 4, none, 7)) rfl (show aTab 144 53 = some (.invokevirtual 69, 3, 1, 145, 0, 3, 5, 7) from rfl) rfl ⟨by decide, Nat.le_of_ble_eq_true rfl⟩ (ob_at hM (rfl : tTy 40 = some (.inr (7, _)))).choose_spec (Nat.le_of_ble_eq_true rfl) (Nat.le_of_ble_eq_true rfl) ⟨by decide, by decide⟩ q1) ?_
    refine e_then (e_al1 hT (y := 144) (pc := 56) (q := (yX7_weigh, cX7_weigh, 4, none, 7)) rfl (show aTab 144 56 = some (.aload_n 0, 1, 0, 0, 0, 0, 0, 0) from rfl) rfl h0) ?_
    refine e_then (e_il1 hT (y := 144) (pc := 57) (q := (yX7_weigh, cX7_weigh, 4, none, 7)) rfl (show aTab 144 57 = some (.iload_n 2, 1, 0, 0, 0, 0, 0, 0) from rfl) rfl h2) ?_
    refine e_then (e_il1 hT (y := 144) (pc := 58) (q := (yX7_weigh, cX7_weigh, 4, none, 7)) rfl (show aTab 144 58 = some (.iload_n 3, 1, 0, 0, 0, 0, 0, 0) from rfl) rfl h3) ?_
    refine e_then (e_st hT (y := 144) (pc := 59) (q := (yX7_weigh, cX7_weigh, 4, none, 7)) rfl (show aTab 144 59 = some (.iconst 0, 1, 0, 0, 0, 0, 0, 0) from rfl) (fr' := (144, 60, lv, [.int 0, .int (Int32.ofNat la), .int (Int32.ofNat h), .ref 49, .int (Int32.ofNat (14 * h + 2 * la + 0)), .ref 52])) (M' := M1) rfl) ?_
    refine e_then (e_call hT (y := 144) (pc := 60) (q := (yX7_weigh, cX7_weigh, 4, none, 7)) rfl (show aTab 144 60 = some (.invokevirtual 72, 3, 1, 147, 0, 3, 6, 7) from rfl) rfl ⟨by decide, Nat.le_of_ble_eq_true rfl⟩ (ob_at hM (rfl : tTy 40 = some (.inr (7, _)))).choose_spec (Nat.le_of_ble_eq_true rfl) (Nat.le_of_ble_eq_true rfl) ⟨by decide, by decide⟩ q2) ?_
    obtain ⟨m1, sm1, tm1, em1⟩ := s_ast (sc := none) (d := _) (lv := lv) (st := []) (z := (rowV (xHr g) N n (n - h) (2 * la))) (i := (Int32.ofNat (14 * h + 2 * la + 0))) hT (y := 144) (pc := 63) (q := (yX7_weigh, cX7_weigh, 4, none, 7)) rfl (show aTab 144 63 = some (.iastore, 1, 0, 0, 0, 0, 0, 0) from rfl) rfl hM hg 43 (14 * h + 2 * la) rfl (i32n (by omega)) (by omega)
    refine e_then sm1 ?_
    have hB2 : ∀ c k, c ≠ 43 → rdI m1 c k = g c k := fun c k hc => by rw [em1, up2_c _ _ hc]; exact hB.1 c k hc
    have hN2 : rdI m1 40 0 = Int32.ofNat N := by rw [hB2 40 0 (by decide)]; exact hN
    have hx2 := xH_eq hB2
    have hn2 : ∀ k, k < 14 → rdI m1 43 (14 * (h + 1) + k) = rowV (xHr g) N n (n - (h + 1)) k := fun k hk => by rw [em1, up2_k _ _ (by omega)]; exact hn1 k hk
    obtain ⟨K3, q3⟩ := xpl_run hT tm1 (h := h) (la := la) (tw := 1) (by omega) (by omega) (by decide) (d := 49) (by decide)
    obtain ⟨K4, q4⟩ := xbf_run hT tm1 rfl hN2 hN6 hn2 (h := h) (la := la) (tw := 1) (by omega) (by omega) (by decide) (d := 49) (by decide)
    rw [hx2] at q4
    have v1 : mxV (hbV (xHr g) N (rowV (xHr g) N n (n - (h + 1))) h la 1) 7 = rowV (xHr g) N n (n - h) (2 * la + 1) := by
      rw [rowV_s hh, show (2 * la + 1) / 2 = la by omega, show (2 * la + 1) % 2 = 1 by omega]
    rw [v1] at q4
    refine e_then (e_al1 hT (y := 144) (pc := 64) (q := (yX7_weigh, cX7_weigh, 4, none, 7)) rfl (show aTab 144 64 = some (.aload_n 0, 1, 0, 0, 0, 0, 0, 0) from rfl) rfl h0) ?_
    refine e_then (e_getR hT (y := 144) (pc := 65) (q := (yX7_weigh, cX7_weigh, 4, none, 7)) rfl (show aTab 144 65 = some (.getfield 18, 3, 0, 7, 3, 0, 0, 0) from rfl) rfl (by decide) (by decide) tm1 rfl rfl) ?_
    refine e_then (e_al1 hT (y := 144) (pc := 68) (q := (yX7_weigh, cX7_weigh, 4, none, 7)) rfl (show aTab 144 68 = some (.aload_n 0, 1, 0, 0, 0, 0, 0, 0) from rfl) rfl h0) ?_
    refine e_then (e_il1 hT (y := 144) (pc := 69) (q := (yX7_weigh, cX7_weigh, 4, none, 7)) rfl (show aTab 144 69 = some (.iload_n 2, 1, 0, 0, 0, 0, 0, 0) from rfl) rfl h2) ?_
    refine e_then (e_il1 hT (y := 144) (pc := 70) (q := (yX7_weigh, cX7_weigh, 4, none, 7)) rfl (show aTab 144 70 = some (.iload_n 3, 1, 0, 0, 0, 0, 0, 0) from rfl) rfl h3) ?_
    refine e_then (e_st hT (y := 144) (pc := 71) (q := (yX7_weigh, cX7_weigh, 4, none, 7)) rfl (show aTab 144 71 = some (.iconst 1, 1, 0, 0, 0, 0, 0, 0) from rfl) (fr' := (144, 72, lv, [.int 1, .int (Int32.ofNat la), .int (Int32.ofNat h), .ref 49, .ref 52])) (M' := m1) rfl) ?_
    refine e_then (e_call hT (y := 144) (pc := 72) (q := (yX7_weigh, cX7_weigh, 4, none, 7)) rfl (show aTab 144 72 = some (.invokevirtual 69, 3, 1, 145, 0, 3, 5, 7) from rfl) rfl ⟨by decide, Nat.le_of_ble_eq_true rfl⟩ (ob_at tm1 (rfl : tTy 40 = some (.inr (7, _)))).choose_spec (Nat.le_of_ble_eq_true rfl) (Nat.le_of_ble_eq_true rfl) ⟨by decide, by decide⟩ q3) ?_
    refine e_then (e_al1 hT (y := 144) (pc := 75) (q := (yX7_weigh, cX7_weigh, 4, none, 7)) rfl (show aTab 144 75 = some (.aload_n 0, 1, 0, 0, 0, 0, 0, 0) from rfl) rfl h0) ?_
    refine e_then (e_il1 hT (y := 144) (pc := 76) (q := (yX7_weigh, cX7_weigh, 4, none, 7)) rfl (show aTab 144 76 = some (.iload_n 2, 1, 0, 0, 0, 0, 0, 0) from rfl) rfl h2) ?_
    refine e_then (e_il1 hT (y := 144) (pc := 77) (q := (yX7_weigh, cX7_weigh, 4, none, 7)) rfl (show aTab 144 77 = some (.iload_n 3, 1, 0, 0, 0, 0, 0, 0) from rfl) rfl h3) ?_
    refine e_then (e_st hT (y := 144) (pc := 78) (q := (yX7_weigh, cX7_weigh, 4, none, 7)) rfl (show aTab 144 78 = some (.iconst 1, 1, 0, 0, 0, 0, 0, 0) from rfl) (fr' := (144, 79, lv, [.int 1, .int (Int32.ofNat la), .int (Int32.ofNat h), .ref 49, .int (Int32.ofNat (14 * h + 2 * la + 1)), .ref 52])) (M' := m1) rfl) ?_
    refine e_then (e_call hT (y := 144) (pc := 79) (q := (yX7_weigh, cX7_weigh, 4, none, 7)) rfl (show aTab 144 79 = some (.invokevirtual 72, 3, 1, 147, 0, 3, 6, 7) from rfl) rfl ⟨by decide, Nat.le_of_ble_eq_true rfl⟩ (ob_at tm1 (rfl : tTy 40 = some (.inr (7, _)))).choose_spec (Nat.le_of_ble_eq_true rfl) (Nat.le_of_ble_eq_true rfl) ⟨by decide, by decide⟩ q4) ?_
    obtain ⟨m2, sm2, tm2, em2⟩ := s_ast (sc := none) (d := _) (lv := lv) (st := []) (z := (rowV (xHr g) N n (n - h) (2 * la + 1))) (i := (Int32.ofNat (14 * h + 2 * la + 1))) hT (y := 144) (pc := 82) (q := (yX7_weigh, cX7_weigh, 4, none, 7)) rfl (show aTab 144 82 = some (.iastore, 1, 0, 0, 0, 0, 0, 0) from rfl) rfl tm1 rfl 43 (14 * h + 2 * la + 1) rfl (i32n (by omega)) (by omega)
    refine e_then sm2 ?_
    refine e_then (e_ii hT (y := 144) (pc := 83) (q := (yX7_weigh, cX7_weigh, 4, none, 7)) rfl (show aTab 144 83 = some (.iinc 3 1, 3, 0, 0, 0, 0, 0, 0) from rfl) ⟨rfl, by decide⟩ h3) ?_
    refine e_then (e_st hT (y := 144) (pc := 86) (q := (yX7_weigh, cX7_weigh, 4, none, 7)) rfl (show aTab 144 86 = some (.goto (-47), 3, 0, 0, 0, 0, 0, 0) from rfl) (fr' := (144, 39, (mlp 3 (.int ((Int32.ofNat la) + Int32.ofInt 1)) lv), [])) (M' := m2) rfl) ?_
    rw [os1 (by omega)]
    refine ih (la + 1) _ _ (by omega) tm2 ⟨fun c k hc => by rw [em2, up2_c _ _ hc]; exact hB2 c k hc, fun h' h1' h2' k hk => ?_⟩ (fun k hk => ?_) (mlg_r h0 (by decide)) (mlg_i h1 (by decide)) (mlg_i h2 (by decide)) (mlg_eq 3 _ _)
    · rw [em2, up2_k _ _ (by omega), em1, up2_k _ _ (by omega)]
      exact hB.2 h' h1' h2' k hk
    · rw [em2]
      by_cases e1 : k = 2 * la + 1
      · subst e1
        rw [show 14 * h + (2 * la + 1) = 14 * h + 2 * la + 1 by omega, up2_eq]
      · rw [up2_k _ _ (by omega), em1]
        by_cases e2 : k = 2 * la
        · subst e2
          rw [up2_eq]
        · rw [up2_k _ _ (by omega)]
          exact hC k (by omega)
theorem xwb_loop (hT : aTabOk) {g : Nat → Nat → Int32} {N n : Nat} (hN : g 40 0 = Int32.ofNat N) (hN6 : N ≤ 6) (hn8 : n ≤ 8) : ∀ (j : Nat) (lv : List (Nat × Value)) (M1 : mHe) (z : Int32), j ≤ n → z.toInt = (j : Int) - 1 → yTy M1 → shTB 43 (xHr g) g N n (rdI M1) j → mlg 0 lv = some (.ref 49) → mlg 1 lv = some (.int (Int32.ofNat n)) → mlg 2 lv = some (.int z) → mEv none 50 (144, 33, lv, []) M1 (fun r M' => r = none ∧ yTy M' ∧ shTB 43 (xHr g) g N n (rdI M') 0) := by
  intro j
  induction j with
  | zero =>
    intro lv M1 z hj hz hM hB h0 h1 h2
    refine e_then (e_il1 hT (y := 144) (pc := 33) (q := (yX7_weigh, cX7_weigh, 4, none, 7)) rfl (show aTab 144 33 = some (.iload_n 2, 1, 0, 0, 0, 0, 0, 0) from rfl) rfl h2) ?_
    refine e_then (e_ifT hT (y := 144) (pc := 34) (q := (yX7_weigh, cX7_weigh, 4, none, 7)) rfl (show aTab 144 34 = some (.ifCond .lt 61, 3, 0, 0, 0, 0, 0, 0) from rfl) rfl (t := 95) rfl (cdT (by show _ < (0 : Int); omega))) ?_
    exact e_fin (e_vret hT (y := 144) (pc := 95) (q := (yX7_weigh, cX7_weigh, 4, none, 7)) rfl (show aTab 144 95 = some (.return_, 1, 0, 0, 0, 0, 0, 0) from rfl) ⟨rfl, rfl⟩) ⟨rfl, hM, hB⟩
  | succ h ih =>
    intro lv M1 z hj hz hM hB h0 h1 h2
    have hzz : z = Int32.ofNat h := i32eq (by rw [i32n (by omega)]; omega)
    subst hzz
    have eh := i32n (k := h) (by omega)
    refine e_then (e_il1 hT (y := 144) (pc := 33) (q := (yX7_weigh, cX7_weigh, 4, none, 7)) rfl (show aTab 144 33 = some (.iload_n 2, 1, 0, 0, 0, 0, 0, 0) from rfl) rfl h2) ?_
    refine e_then (e_ifF hT (y := 144) (pc := 34) (q := (yX7_weigh, cX7_weigh, 4, none, 7)) rfl (show aTab 144 34 = some (.ifCond .lt 61, 3, 0, 0, 0, 0, 0, 0) from rfl) rfl (t := 95) rfl (cdF (by show ¬ _ < (0 : Int); omega))) ?_
    refine e_then (e_st hT (y := 144) (pc := 37) (q := (yX7_weigh, cX7_weigh, 4, none, 7)) rfl (show aTab 144 37 = some (.iconst 0, 1, 0, 0, 0, 0, 0, 0) from rfl) (fr' := (144, 38, lv, [.int 0])) (M' := M1) rfl) ?_
    refine e_then (e_is1 hT (y := 144) (pc := 38) (q := (yX7_weigh, cX7_weigh, 4, none, 7)) rfl (show aTab 144 38 = some (.istore_n 3, 1, 0, 0, 0, 0, 0, 0) from rfl) ⟨rfl, by decide⟩) ?_
    refine xwc_loop hT hN hN6 hn8 (by omega) (fun lv' M2 t2 hB2 g0 g1 g2 => ?_) 7 0 _ M1 (by omega) hM hB (fun k hk => absurd hk (by omega)) (mlg_r h0 (by decide)) (mlg_i h1 (by decide)) (mlg_i h2 (by decide)) (mlg_eq 3 _ _)
    refine e_then (e_ii hT (y := 144) (pc := 89) (q := (yX7_weigh, cX7_weigh, 4, none, 7)) rfl (show aTab 144 89 = some (.iinc 2 (-1), 3, 0, 0, 0, 0, 0, 0) from rfl) ⟨rfl, by decide⟩ g2) ?_
    refine e_then (e_st hT (y := 144) (pc := 92) (q := (yX7_weigh, cX7_weigh, 4, none, 7)) rfl (show aTab 144 92 = some (.goto (-59), 3, 0, 0, 0, 0, 0, 0) from rfl) (fr' := (144, 33, (mlp 2 (.int ((Int32.ofNat h) + Int32.ofInt (-1))) lv'), [])) (M' := M2) rfl) ?_
    exact ih _ M2 _ (by omega) (by rw [i32_add (by rw [eh, show (Int32.ofInt (-1)).toInt = -1 from rfl]; omega) (by rw [eh, show (Int32.ofInt (-1)).toInt = -1 from rfl]; omega), eh, show (Int32.ofInt (-1)).toInt = -1 from rfl]; omega) t2 hB2 (mlg_r g0 (by decide)) (mlg_i g1 (by decide)) (mlg_eq 2 _ _)
theorem xwa_loop (hT : aTabOk) {g : Nat → Nat → Int32} {n : Nat} {Q : Option Value → mHe → Prop} (hQ : ∀ (lv' : List (Nat × Value)) (M2 : mHe), yTy M2 → (∀ c k, c ≠ 43 → rdI M2 c k = g c k) → (∀ k, k < 126 → rdI M2 43 k = 0) → mlg 0 lv' = some (.ref 49) → mlg 1 lv' = some (.int (Int32.ofNat n)) → mEv none 50 (144, 24, lv', []) M2 Q) : ∀ (j i : Nat) (lv : List (Nat × Value)) (M1 : mHe), i + j = 126 → yTy M1 → (∀ c k, c ≠ 43 → rdI M1 c k = g c k) → (∀ k, k < i → rdI M1 43 k = 0) → mlg 0 lv = some (.ref 49) → mlg 1 lv = some (.int (Int32.ofNat n)) → mlg 2 lv = some (.int (Int32.ofNat i)) → mEv none 50 (144, 2, lv, []) M1 Q := by
  intro j
  induction j with
  | zero =>
    intro i lv M1 hj hM hB hC h0 h1 h2
    have hj : i = 126 := by omega
    subst hj
    refine e_then (e_il1 hT (y := 144) (pc := 2) (q := (yX7_weigh, cX7_weigh, 4, none, 7)) rfl (show aTab 144 2 = some (.iload_n 2, 1, 0, 0, 0, 0, 0, 0) from rfl) rfl h2) ?_
    refine e_then (e_al1 hT (y := 144) (pc := 3) (q := (yX7_weigh, cX7_weigh, 4, none, 7)) rfl (show aTab 144 3 = some (.aload_n 0, 1, 0, 0, 0, 0, 0, 0) from rfl) rfl h0) ?_
    refine e_then (e_getR hT (y := 144) (pc := 4) (q := (yX7_weigh, cX7_weigh, 4, none, 7)) rfl (show aTab 144 4 = some (.getfield 18, 3, 0, 7, 3, 0, 0, 0) from rfl) rfl (by decide) (by decide) hM rfl rfl) ?_
    refine e_then (s_len hT (y := 144) (pc := 7) (q := (yX7_weigh, cX7_weigh, 4, none, 7)) rfl (show aTab 144 7 = some (.arraylength, 1, 0, 0, 0, 0, 0, 0) from rfl) rfl hM 43 rfl) ?_
    refine e_then (e_icT hT (y := 144) (pc := 8) (q := (yX7_weigh, cX7_weigh, 4, none, 7)) rfl (show aTab 144 8 = some (.if_icmp .ge 16, 3, 0, 0, 0, 0, 0, 0) from rfl) rfl (t := 24) rfl (cdT (Int.le_refl _))) ?_
    exact hQ _ M1 hM hB hC h0 h1
  | succ j ih =>
    intro i lv M1 hj hM hB hC h0 h1 h2
    have ei := i32n (k := i) (by omega)
    have e126 : (Int32.ofNat 126).toInt = 126 := rfl
    refine e_then (e_il1 hT (y := 144) (pc := 2) (q := (yX7_weigh, cX7_weigh, 4, none, 7)) rfl (show aTab 144 2 = some (.iload_n 2, 1, 0, 0, 0, 0, 0, 0) from rfl) rfl h2) ?_
    refine e_then (e_al1 hT (y := 144) (pc := 3) (q := (yX7_weigh, cX7_weigh, 4, none, 7)) rfl (show aTab 144 3 = some (.aload_n 0, 1, 0, 0, 0, 0, 0, 0) from rfl) rfl h0) ?_
    refine e_then (e_getR hT (y := 144) (pc := 4) (q := (yX7_weigh, cX7_weigh, 4, none, 7)) rfl (show aTab 144 4 = some (.getfield 18, 3, 0, 7, 3, 0, 0, 0) from rfl) rfl (by decide) (by decide) hM rfl rfl) ?_
    refine e_then (s_len hT (y := 144) (pc := 7) (q := (yX7_weigh, cX7_weigh, 4, none, 7)) rfl (show aTab 144 7 = some (.arraylength, 1, 0, 0, 0, 0, 0, 0) from rfl) rfl hM 43 rfl) ?_
    refine e_then (e_icF hT (y := 144) (pc := 8) (q := (yX7_weigh, cX7_weigh, 4, none, 7)) rfl (show aTab 144 8 = some (.if_icmp .ge 16, 3, 0, 0, 0, 0, 0, 0) from rfl) rfl (t := 24) rfl (cdF (by show ¬ _ ≤ _; omega))) ?_
    refine e_then (e_al1 hT (y := 144) (pc := 11) (q := (yX7_weigh, cX7_weigh, 4, none, 7)) rfl (show aTab 144 11 = some (.aload_n 0, 1, 0, 0, 0, 0, 0, 0) from rfl) rfl h0) ?_
    refine e_then (e_getR hT (y := 144) (pc := 12) (q := (yX7_weigh, cX7_weigh, 4, none, 7)) rfl (show aTab 144 12 = some (.getfield 18, 3, 0, 7, 3, 0, 0, 0) from rfl) rfl (by decide) (by decide) hM rfl rfl) ?_
    refine e_then (e_il1 hT (y := 144) (pc := 15) (q := (yX7_weigh, cX7_weigh, 4, none, 7)) rfl (show aTab 144 15 = some (.iload_n 2, 1, 0, 0, 0, 0, 0, 0) from rfl) rfl h2) ?_
    refine e_then (e_st hT (y := 144) (pc := 16) (q := (yX7_weigh, cX7_weigh, 4, none, 7)) rfl (show aTab 144 16 = some (.iconst 0, 1, 0, 0, 0, 0, 0, 0) from rfl) (fr' := (144, 17, lv, [.int 0, .int (Int32.ofNat i), .ref 52])) (M' := M1) rfl) ?_
    obtain ⟨m1, sm1, tm1, em1⟩ := s_ast (sc := none) (d := _) (lv := lv) (st := []) (z := 0) (i := (Int32.ofNat i)) hT (y := 144) (pc := 17) (q := (yX7_weigh, cX7_weigh, 4, none, 7)) rfl (show aTab 144 17 = some (.iastore, 1, 0, 0, 0, 0, 0, 0) from rfl) rfl hM rfl 43 i rfl ei (by omega)
    refine e_then sm1 ?_
    refine e_then (e_ii hT (y := 144) (pc := 18) (q := (yX7_weigh, cX7_weigh, 4, none, 7)) rfl (show aTab 144 18 = some (.iinc 2 1, 3, 0, 0, 0, 0, 0, 0) from rfl) ⟨rfl, by decide⟩ h2) ?_
    refine e_then (e_st hT (y := 144) (pc := 21) (q := (yX7_weigh, cX7_weigh, 4, none, 7)) rfl (show aTab 144 21 = some (.goto (-19), 3, 0, 0, 0, 0, 0, 0) from rfl) (fr' := (144, 2, (mlp 2 (.int ((Int32.ofNat i) + Int32.ofInt 1)) lv), [])) (M' := m1) rfl) ?_
    rw [os1 (by omega)]
    refine ih (i + 1) _ _ (by omega) tm1 (fun c k hc => by rw [em1, up2_c _ _ hc]; exact hB c k hc) (fun k hk => ?_) (mlg_r h0 (by decide)) (mlg_i h1 (by decide)) (mlg_eq 2 _ _)
    rw [em1]
    by_cases e : k = i
    · subst e; exact up2_eq _ _ _ _
    · rw [up2_k _ _ e]; exact hC k (by omega)
theorem xwe_run (hT : aTabOk) {M : mHe} (hM : yTy M) {g : Nat → Nat → Int32} (hg : rdI M = g) {N n : Nat} (hN : g 40 0 = Int32.ofNat N) (hN6 : N ≤ 6) (hn8 : n ≤ 8) {d : Nat} (hd : 50 ≤ d) : ∃ K M', mRun none K d (144, 0, lv_args 0 [.ref 49, .int (Int32.ofNat n)], []) M = some (none, M') ∧ yTy M' ∧ shTB 43 (xHr g) g N n (rdI M') 0 := by
  have en := i32n (k := n) (by omega)
  have go : mEv none 50 (144, 0, lv_args 0 [.ref 49, .int (Int32.ofNat n)], []) M (fun r M' => r = none ∧ yTy M' ∧ shTB 43 (xHr g) g N n (rdI M') 0) := by
    refine e_then (e_st hT (y := 144) (pc := 0) (q := (yX7_weigh, cX7_weigh, 4, none, 7)) rfl (show aTab 144 0 = some (.iconst 0, 1, 0, 0, 0, 0, 0, 0) from rfl) (fr' := (144, 1, (lv_args 0 [.ref 49, .int (Int32.ofNat n)]), [.int 0])) (M' := M) rfl) ?_
    refine e_then (e_is1 hT (y := 144) (pc := 1) (q := (yX7_weigh, cX7_weigh, 4, none, 7)) rfl (show aTab 144 1 = some (.istore_n 2, 1, 0, 0, 0, 0, 0, 0) from rfl) ⟨rfl, by decide⟩) ?_
    refine xwa_loop hT (g := g) (n := n) (fun lv' M2 t2 hB hC g0 g1 => ?_) 126 0 _ M (by omega) hM (fun c k _ => by rw [hg]) (fun k hk => absurd hk (by omega)) (mlg_r rfl (by decide)) (mlg_i rfl (by decide)) (mlg_eq 2 _ _)
    refine e_then (e_il1 hT (y := 144) (pc := 24) (q := (yX7_weigh, cX7_weigh, 4, none, 7)) rfl (show aTab 144 24 = some (.iload_n 1, 1, 0, 0, 0, 0, 0, 0) from rfl) rfl g1) ?_
    refine e_then (e_st hT (y := 144) (pc := 25) (q := (yX7_weigh, cX7_weigh, 4, none, 7)) rfl (show aTab 144 25 = some (.bipush 8, 2, 0, 0, 0, 0, 0, 0) from rfl) (fr' := (144, 27, lv', [.int 8, .int (Int32.ofNat n)])) (M' := M2) rfl) ?_
    refine e_then (e_mn hT (y := 144) (pc := 27) (q := (yX7_weigh, cX7_weigh, 4, none, 7)) rfl (show aTab 144 27 = some (.invokestatic 40, 3, 14, 0, 0, 0, 0, 0) from rfl) (Nat.le_of_ble_eq_true rfl) (by decide)) ?_
    have emn : (if (8 : Int32) < Int32.ofNat n then (8 : Int32) else Int32.ofNat n) = Int32.ofNat n := if_neg (fun z => by have z := Int32.lt_iff_toInt_lt.mp z; rw [en, show (8 : Int32).toInt = 8 from rfl] at z; omega)
    rw [emn]
    refine e_then (e_st hT (y := 144) (pc := 30) (q := (yX7_weigh, cX7_weigh, 4, none, 7)) rfl (show aTab 144 30 = some (.iconst 1, 1, 0, 0, 0, 0, 0, 0) from rfl) (fr' := (144, 31, lv', [.int 1, .int (Int32.ofNat n)])) (M' := M2) rfl) ?_
    refine e_then (e_st hT (y := 144) (pc := 31) (q := (yX7_weigh, cX7_weigh, 4, none, 7)) rfl (show aTab 144 31 = some (.isub, 1, 0, 0, 0, 0, 0, 0) from rfl) (fr' := (144, 32, lv', [.int ((Int32.ofNat n) - 1)])) (M' := M2) rfl) ?_
    refine e_then (e_is1 hT (y := 144) (pc := 32) (q := (yX7_weigh, cX7_weigh, 4, none, 7)) rfl (show aTab 144 32 = some (.istore_n 2, 1, 0, 0, 0, 0, 0, 0) from rfl) ⟨rfl, by decide⟩) ?_
    refine xwb_loop hT hN hN6 hn8 n _ M2 _ (Nat.le_refl _) (by rw [i32_sub (by rw [en, show (1 : Int32).toInt = 1 from rfl]; omega) (by rw [en, show (1 : Int32).toInt = 1 from rfl]; omega), en, show (1 : Int32).toInt = 1 from rfl]) t2 ⟨hB, fun h' h1' h2' k hk => ?_⟩ (mlg_r g0 (by decide)) (mlg_i g1 (by decide)) (mlg_eq 2 _ _)
    have : h' = n := by omega
    subst this
    rw [hC _ (by omega), Nat.sub_self]
    rfl
  obtain ⟨K, r, M', q, rfl, q2, q3⟩ := go
  exact ⟨K, M', mRun_dm q hd, q2, q3⟩
theorem xmh_run (hT : aTabOk) {M : mHe} (hM : yTy M) {g : Nat → Nat → Int32} (hg : rdI M = g) {N : Nat} (hN : g 40 0 = Int32.ofNat N) (hN6 : N ≤ 6) {a : Int32} {d : Nat} (hd : 60 ≤ d) : ∃ K M' r, mRun none K d (142, 0, lv_args 0 [.ref 49, .int a], []) M = some (some (.int r), M') ∧ yTy M' ∧ (∀ c k, c ≠ 43 → rdI M' c k = g c k) ∧ r = if 1 ≤ a.toInt ∧ a.toInt ≤ 8 then rowV (xHr g) N a.toInt.toNat a.toInt.toNat 12 else -1000000001 := by
  obtain ⟨K1, q1⟩ := within_i hT (M := M) (v := a) (l := 1) (h := 8) (d := 59) (by decide)
  rw [show (1 : Int32).toInt = 1 from rfl, show (8 : Int32).toInt = 8 from rfl] at q1
  have go : mEv none 60 (142, 0, lv_args 0 [.ref 49, .int a], []) M (fun r M' => yTy M' ∧ (∀ c k, c ≠ 43 → rdI M' c k = g c k) ∧ r = some (.int (if 1 ≤ a.toInt ∧ a.toInt ≤ 8 then rowV (xHr g) N a.toInt.toNat a.toInt.toNat 12 else -1000000001))) := by
    by_cases c1 : 1 ≤ a.toInt ∧ a.toInt ≤ 8
    · rw [gB_t c1] at q1
      obtain ⟨n, hn⟩ : ∃ n : Nat, (n : Int) = a.toInt := ⟨a.toInt.toNat, by omega⟩
      have ha : a = Int32.ofNat n := i32eq (by rw [i32n (by omega)]; omega)
      rw [if_pos c1, show a.toInt.toNat = n by omega]
      subst ha
      obtain ⟨K2, M2, q2, t2, hB⟩ := xwe_run hT hM hg hN hN6 (n := n) (by omega) (d := 59) (by decide)
      obtain ⟨K3, q3⟩ := xmf_run hT t2 rfl (h := 0) (la := 6) (tw := 0) (by decide) (by decide) (by decide) (d := 59) (by decide)
      have hv := hB.2 0 (Nat.le_refl _) (by omega) 12 (by omega)
      rw [show rdI M2 43 (14 * 0 + 2 * 6 + 0) = rdI M2 43 (14 * 0 + 12) from rfl, hv, Nat.sub_zero] at q3
      refine e_then (e_il1 hT (y := 142) (pc := 0) (q := (yX7_mostHeard, cX7_mostHeard, 2, (some .int), 7)) rfl (show aTab 142 0 = some (.iload_n 1, 1, 0, 0, 0, 0, 0, 0) from rfl) rfl rfl) ?_
      refine e_then (e_st hT (y := 142) (pc := 1) (q := (yX7_mostHeard, cX7_mostHeard, 2, (some .int), 7)) rfl (show aTab 142 1 = some (.iconst 1, 1, 0, 0, 0, 0, 0, 0) from rfl) (fr' := (142, 2, (lv_args 0 [.ref 49, .int (Int32.ofNat n)]), [.int 1, .int (Int32.ofNat n)])) (M' := M) rfl) ?_
      refine e_then (e_st hT (y := 142) (pc := 2) (q := (yX7_mostHeard, cX7_mostHeard, 2, (some .int), 7)) rfl (show aTab 142 2 = some (.bipush 8, 2, 0, 0, 0, 0, 0, 0) from rfl) (fr' := (142, 4, (lv_args 0 [.ref 49, .int (Int32.ofNat n)]), [.int 8, .int 1, .int (Int32.ofNat n)])) (M' := M) rfl) ?_
      refine e_then (e_callsN hT (y := 142) (pc := 4) (q := (yX7_mostHeard, cX7_mostHeard, 2, (some .int), 7)) rfl (show aTab 142 4 = some (.invokestatic 30, 3, 3, 234, 0, 3, 3, 11) from rfl) (Nat.le_of_ble_eq_true rfl) (Nat.le_of_ble_eq_true rfl) (Nat.le_of_ble_eq_true rfl) ⟨by decide, by decide⟩ q1) ?_
      refine e_then (e_ifT hT (y := 142) (pc := 7) (q := (yX7_mostHeard, cX7_mostHeard, 2, (some .int), 7)) rfl (show aTab 142 7 = some (.ifCond .ne 6, 3, 0, 0, 0, 0, 0, 0) from rfl) rfl (t := 13) rfl (cdT (by show ¬ (1 : Int32).toInt = 0; decide))) ?_
      refine e_then (e_al1 hT (y := 142) (pc := 13) (q := (yX7_mostHeard, cX7_mostHeard, 2, (some .int), 7)) rfl (show aTab 142 13 = some (.aload_n 0, 1, 0, 0, 0, 0, 0, 0) from rfl) rfl rfl) ?_
      refine e_then (e_il1 hT (y := 142) (pc := 14) (q := (yX7_mostHeard, cX7_mostHeard, 2, (some .int), 7)) rfl (show aTab 142 14 = some (.iload_n 1, 1, 0, 0, 0, 0, 0, 0) from rfl) rfl rfl) ?_
      refine e_then (e_call hT (y := 142) (pc := 15) (q := (yX7_mostHeard, cX7_mostHeard, 2, (some .int), 7)) rfl (show aTab 142 15 = some (.invokevirtual 58, 3, 1, 144, 0, 1, 4, 7) from rfl) rfl ⟨by decide, Nat.le_of_ble_eq_true rfl⟩ (ob_at hM (rfl : tTy 40 = some (.inr (7, _)))).choose_spec (Nat.le_of_ble_eq_true rfl) (Nat.le_of_ble_eq_true rfl) ⟨by decide, by decide⟩ q2) ?_
      refine e_then (e_al1 hT (y := 142) (pc := 18) (q := (yX7_mostHeard, cX7_mostHeard, 2, (some .int), 7)) rfl (show aTab 142 18 = some (.aload_n 0, 1, 0, 0, 0, 0, 0, 0) from rfl) rfl rfl) ?_
      refine e_then (e_st hT (y := 142) (pc := 19) (q := (yX7_mostHeard, cX7_mostHeard, 2, (some .int), 7)) rfl (show aTab 142 19 = some (.iconst 0, 1, 0, 0, 0, 0, 0, 0) from rfl) (fr' := (142, 20, (lv_args 0 [.ref 49, .int (Int32.ofNat n)]), [.int 0, .ref 49])) (M' := M2) rfl) ?_
      refine e_then (e_st hT (y := 142) (pc := 20) (q := (yX7_mostHeard, cX7_mostHeard, 2, (some .int), 7)) rfl (show aTab 142 20 = some (.bipush 6, 2, 0, 0, 0, 0, 0, 0) from rfl) (fr' := (142, 22, (lv_args 0 [.ref 49, .int (Int32.ofNat n)]), [.int 6, .int 0, .ref 49])) (M' := M2) rfl) ?_
      refine e_then (e_st hT (y := 142) (pc := 22) (q := (yX7_mostHeard, cX7_mostHeard, 2, (some .int), 7)) rfl (show aTab 142 22 = some (.iconst 0, 1, 0, 0, 0, 0, 0, 0) from rfl) (fr' := (142, 23, (lv_args 0 [.ref 49, .int (Int32.ofNat n)]), [.int 0, .int 6, .int 0, .ref 49])) (M' := M2) rfl) ?_
      refine e_then (e_call hT (y := 142) (pc := 23) (q := (yX7_mostHeard, cX7_mostHeard, 2, (some .int), 7)) rfl (show aTab 142 23 = some (.invokevirtual 62, 3, 1, 146, 0, 3, 4, 7) from rfl) rfl ⟨by decide, Nat.le_of_ble_eq_true rfl⟩ (ob_at t2 (rfl : tTy 40 = some (.inr (7, _)))).choose_spec (Nat.le_of_ble_eq_true rfl) (Nat.le_of_ble_eq_true rfl) ⟨by decide, by decide⟩ q3) ?_
      exact e_fin (e_iret hT (y := 142) (pc := 26) (q := (yX7_mostHeard, cX7_mostHeard, 2, (some .int), 7)) rfl (show aTab 142 26 = some (.ireturn, 1, 0, 0, 0, 0, 0, 0) from rfl) ⟨rfl, rfl⟩) ⟨t2, hB.1, rfl⟩
    · rw [gB_f c1] at q1
      rw [if_neg c1]
      refine e_then (e_il1 hT (y := 142) (pc := 0) (q := (yX7_mostHeard, cX7_mostHeard, 2, (some .int), 7)) rfl (show aTab 142 0 = some (.iload_n 1, 1, 0, 0, 0, 0, 0, 0) from rfl) rfl rfl) ?_
      refine e_then (e_st hT (y := 142) (pc := 1) (q := (yX7_mostHeard, cX7_mostHeard, 2, (some .int), 7)) rfl (show aTab 142 1 = some (.iconst 1, 1, 0, 0, 0, 0, 0, 0) from rfl) (fr' := (142, 2, (lv_args 0 [.ref 49, .int a]), [.int 1, .int a])) (M' := M) rfl) ?_
      refine e_then (e_st hT (y := 142) (pc := 2) (q := (yX7_mostHeard, cX7_mostHeard, 2, (some .int), 7)) rfl (show aTab 142 2 = some (.bipush 8, 2, 0, 0, 0, 0, 0, 0) from rfl) (fr' := (142, 4, (lv_args 0 [.ref 49, .int a]), [.int 8, .int 1, .int a])) (M' := M) rfl) ?_
      refine e_then (e_callsN hT (y := 142) (pc := 4) (q := (yX7_mostHeard, cX7_mostHeard, 2, (some .int), 7)) rfl (show aTab 142 4 = some (.invokestatic 30, 3, 3, 234, 0, 3, 3, 11) from rfl) (Nat.le_of_ble_eq_true rfl) (Nat.le_of_ble_eq_true rfl) (Nat.le_of_ble_eq_true rfl) ⟨by decide, by decide⟩ q1) ?_
      refine e_then (e_ifF hT (y := 142) (pc := 7) (q := (yX7_mostHeard, cX7_mostHeard, 2, (some .int), 7)) rfl (show aTab 142 7 = some (.ifCond .ne 6, 3, 0, 0, 0, 0, 0, 0) from rfl) rfl (t := 13) rfl (cdF (by show ¬ ¬ (0 : Int32).toInt = 0; decide))) ?_
      refine e_then (e_st hT (y := 142) (pc := 10) (q := (yX7_mostHeard, cX7_mostHeard, 2, (some .int), 7)) rfl (show aTab 142 10 = some (.ldc 47, 2, 7, 0, (-1000000001), 0, 0, 0) from rfl) (fr' := (142, 12, (lv_args 0 [.ref 49, .int a]), [.int (-1000000001)])) (M' := M) rfl) ?_
      exact e_fin (e_iret hT (y := 142) (pc := 12) (q := (yX7_mostHeard, cX7_mostHeard, 2, (some .int), 7)) rfl (show aTab 142 12 = some (.ireturn, 1, 0, 0, 0, 0, 0, 0) from rfl) ⟨rfl, rfl⟩) ⟨hM, fun c k _ => by rw [hg], rfl⟩
  obtain ⟨K, r, M', q, q2, q3, rfl⟩ := go
  exact ⟨K, M', _, mRun_dm q hd, q2, q3, rfl⟩
theorem xheard_run (hT : aTabOk) {M : mHe} (hM : yTy M) {g : Nat → Nat → Int32} (hg : rdI M = g) {N : Nat} (hN : g 40 0 = Int32.ofNat N) (hN6 : N ≤ 6) {a : Int32} {d : Nat} (hd : 70 ≤ d) : ∃ K M' r, mRun none K d (224, 0, lv_args 0 [.ref 9, .int a], []) M = some (some (.int r), M') ∧ yTy M' ∧ (∀ c k, c ≠ 43 → rdI M' c k = g c k) ∧ r = if 1 ≤ a.toInt ∧ a.toInt ≤ 8 then rowV (xHr g) N a.toInt.toNat a.toInt.toNat 12 else -1000000001 := by
  obtain ⟨K1, M1, r1, q1, t1, f1, e1⟩ := xmh_run hT hM hg hN hN6 (a := a) (d := 69) (by decide)
  have go : mEv none 70 (224, 0, lv_args 0 [.ref 9, .int a], []) M (fun r M' => r = some (.int r1) ∧ M' = M1) := by
    refine e_then (e_al1 hT (y := 224) (pc := 0) (q := (yX11_heard, cX11_heard, 2, (some .int), 11)) rfl (show aTab 224 0 = some (.aload_n 0, 1, 0, 0, 0, 0, 0, 0) from rfl) rfl rfl) ?_
    refine e_then (e_getR hT (y := 224) (pc := 1) (q := (yX11_heard, cX11_heard, 2, (some .int), 11)) rfl (show aTab 224 1 = some (.getfield 12, 3, 0, 11, 0, 0, 0, 0) from rfl) rfl (by decide) (by decide) hM rfl rfl) ?_
    refine e_then (e_getR hT (y := 224) (pc := 4) (q := (yX11_heard, cX11_heard, 2, (some .int), 11)) rfl (show aTab 224 4 = some (.getfield 220, 3, 0, 1, 8, 0, 0, 0) from rfl) rfl (by decide) (by decide) hM rfl rfl) ?_
    refine e_then (e_il1 hT (y := 224) (pc := 7) (q := (yX11_heard, cX11_heard, 2, (some .int), 11)) rfl (show aTab 224 7 = some (.iload_n 1, 1, 0, 0, 0, 0, 0, 0) from rfl) rfl rfl) ?_
    refine e_then (e_call hT (y := 224) (pc := 8) (q := (yX11_heard, cX11_heard, 2, (some .int), 11)) rfl (show aTab 224 8 = some (.invokevirtual 234, 3, 1, 142, 0, 1, 2, 7) from rfl) rfl ⟨by decide, Nat.le_of_ble_eq_true rfl⟩ (ob_at hM (rfl : tTy 40 = some (.inr (7, _)))).choose_spec (Nat.le_of_ble_eq_true rfl) (Nat.le_of_ble_eq_true rfl) ⟨by decide, by decide⟩ q1) ?_
    exact e_fin (e_iret hT (y := 224) (pc := 11) (q := (yX11_heard, cX11_heard, 2, (some .int), 11)) rfl (show aTab 224 11 = some (.ireturn, 1, 0, 0, 0, 0, 0, 0) from rfl) ⟨rfl, rfl⟩) ⟨rfl, rfl⟩
  obtain ⟨K, r, M', q, rfl, rfl⟩ := go
  exact ⟨K, M', r1, mRun_dm q hd, t1, f1, e1⟩
theorem xfb_loop (hT : aTabOk) {M : mHe} (hM : yTy M) {g : Nat → Nat → Int32} (hg : rdI M = g) {N : Nat} (hN : g 40 0 = Int32.ofNat N) (hN6 : N ≤ 6) {nx : Nat → Int32} {h la tw : Nat} (hn : ∀ k, k < 14 → g 43 (14 * (h + 1) + k) = nx k) (hx : 0 ≤ (g 43 (14 * h + 2 * la + tw)).toInt) (hh : h ≤ 7) (hl : la ≤ 6) (ht : tw ≤ 1) : ∀ (j who : Nat) (lv : List (Nat × Value)), who + j = 6 → mlg 0 lv = some (.ref 49) → mlg 1 lv = some (.int (Int32.ofNat h)) → mlg 2 lv = some (.int (Int32.ofNat la)) → mlg 3 lv = some (.int (Int32.ofNat tw)) → mlg 4 lv = some (.int (Int32.ofNat who)) → mEv none 40 (148, 3, lv, []) M (fun r M' => r = some (.int (Int32.ofNat (fsV (hbV (xHr g) N nx h la tw) (g 43 (14 * h + 2 * la + tw)) j who))) ∧ M' = M) := by
  have e6 : (6 : Int32).toInt = 6 := rfl
  intro j
  induction j with
  | zero =>
    intro who lv hj h0 h1 h2 h3 h4
    have hj : who = 6 := by omega
    subst hj
    refine e_then (e_il2 hT (y := 148) (pc := 3) (q := (yX7_firstBest, cX7_firstBest, 5, (some .int), 7)) rfl (show aTab 148 3 = some (.iload 4, 2, 0, 0, 0, 0, 0, 0) from rfl) rfl h4) ?_
    refine e_then (e_st hT (y := 148) (pc := 5) (q := (yX7_firstBest, cX7_firstBest, 5, (some .int), 7)) rfl (show aTab 148 5 = some (.bipush 6, 2, 0, 0, 0, 0, 0, 0) from rfl) (fr' := (148, 7, lv, [.int 6, .int (Int32.ofNat 6)])) (M' := M) rfl) ?_
    refine e_then (e_icT hT (y := 148) (pc := 7) (q := (yX7_firstBest, cX7_firstBest, 5, (some .int), 7)) rfl (show aTab 148 7 = some (.if_icmp .ge 41, 3, 0, 0, 0, 0, 0, 0) from rfl) rfl (t := 48) rfl (cdT (by show (6 : Int32).toInt ≤ (Int32.ofNat 6).toInt; decide))) ?_
    refine e_then (e_st hT (y := 148) (pc := 48) (q := (yX7_firstBest, cX7_firstBest, 5, (some .int), 7)) rfl (show aTab 148 48 = some (.bipush 6, 2, 0, 0, 0, 0, 0, 0) from rfl) (fr' := (148, 50, lv, [.int 6])) (M' := M) rfl) ?_
    exact e_fin (e_iret hT (y := 148) (pc := 50) (q := (yX7_firstBest, cX7_firstBest, 5, (some .int), 7)) rfl (show aTab 148 50 = some (.ireturn, 1, 0, 0, 0, 0, 0, 0) from rfl) ⟨rfl, rfl⟩) ⟨rfl, rfl⟩
  | succ j ih =>
    intro who lv hj h0 h1 h2 h3 h4
    have ew := i32n (k := who) (by omega)
    obtain ⟨x, hx0⟩ : ∃ x, x = g 43 (14 * h + 2 * la + tw) := ⟨_, rfl⟩
    obtain ⟨v, hv0⟩ : ∃ v, v = hbV (xHr g) N nx h la tw := ⟨_, rfl⟩
    obtain ⟨K1, q1⟩ := xct_run hT hM hg hN hN6 (who := who) (by omega) hl ht (d := 39) (by decide)
    obtain ⟨K2, q2⟩ := xhw_run hT hM hg hh (who := who) (la := la) (by omega) hl (d := 39) (by decide)
    obtain ⟨K3, q3⟩ := xmf_run hT hM hg (h := h) (la := la) (tw := tw) (by omega) hl ht (d := 39) (by decide)
    have hv := hbV_x (N := N) (tw := tw) (la := la) hn (who := who) (by omega)
    have ih := ih (who + 1)
    rw [← hx0] at q3 hx ih ⊢
    rw [← hv0] at hv ih ⊢
    have hs : fsV v x (j + 1) who = if v who = x then who else fsV v x j (who + 1) := rfl
    by_cases c1 : who < 6 ∧ (N ≤ who ∨ (who = la ∧ tw = 1))
    · rw [gB_f (fun z => z c1)] at q1
      rw [if_pos c1] at hv
      rw [hs, if_neg (fun z => by rw [hv] at z; rw [← z, show (-1 : Int32).toInt = -1 from rfl] at hx; omega)]
      refine e_then (e_il2 hT (y := 148) (pc := 3) (q := (yX7_firstBest, cX7_firstBest, 5, (some .int), 7)) rfl (show aTab 148 3 = some (.iload 4, 2, 0, 0, 0, 0, 0, 0) from rfl) rfl h4) ?_
      refine e_then (e_st hT (y := 148) (pc := 5) (q := (yX7_firstBest, cX7_firstBest, 5, (some .int), 7)) rfl (show aTab 148 5 = some (.bipush 6, 2, 0, 0, 0, 0, 0, 0) from rfl) (fr' := (148, 7, lv, [.int 6, .int (Int32.ofNat who)])) (M' := M) rfl) ?_
      refine e_then (e_icF hT (y := 148) (pc := 7) (q := (yX7_firstBest, cX7_firstBest, 5, (some .int), 7)) rfl (show aTab 148 7 = some (.if_icmp .ge 41, 3, 0, 0, 0, 0, 0, 0) from rfl) rfl (t := 48) rfl (cdF (by show ¬ _ ≤ _; omega))) ?_
      refine e_then (e_al1 hT (y := 148) (pc := 10) (q := (yX7_firstBest, cX7_firstBest, 5, (some .int), 7)) rfl (show aTab 148 10 = some (.aload_n 0, 1, 0, 0, 0, 0, 0, 0) from rfl) rfl h0) ?_
      refine e_then (e_il2 hT (y := 148) (pc := 11) (q := (yX7_firstBest, cX7_firstBest, 5, (some .int), 7)) rfl (show aTab 148 11 = some (.iload 4, 2, 0, 0, 0, 0, 0, 0) from rfl) rfl h4) ?_
      refine e_then (e_il1 hT (y := 148) (pc := 13) (q := (yX7_firstBest, cX7_firstBest, 5, (some .int), 7)) rfl (show aTab 148 13 = some (.iload_n 2, 1, 0, 0, 0, 0, 0, 0) from rfl) rfl h2) ?_
      refine e_then (e_il1 hT (y := 148) (pc := 14) (q := (yX7_firstBest, cX7_firstBest, 5, (some .int), 7)) rfl (show aTab 148 14 = some (.iload_n 3, 1, 0, 0, 0, 0, 0, 0) from rfl) rfl h3) ?_
      refine e_then (e_call hT (y := 148) (pc := 15) (q := (yX7_firstBest, cX7_firstBest, 5, (some .int), 7)) rfl (show aTab 148 15 = some (.invokevirtual 75, 3, 1, 149, 0, 3, 4, 7) from rfl) rfl ⟨by decide, Nat.le_of_ble_eq_true rfl⟩ (ob_at hM (rfl : tTy 40 = some (.inr (7, _)))).choose_spec (Nat.le_of_ble_eq_true rfl) (Nat.le_of_ble_eq_true rfl) ⟨by decide, by decide⟩ q1) ?_
      refine e_then (e_ifT hT (y := 148) (pc := 18) (q := (yX7_firstBest, cX7_firstBest, 5, (some .int), 7)) rfl (show aTab 148 18 = some (.ifCond .eq 24, 3, 0, 0, 0, 0, 0, 0) from rfl) rfl (t := 42) rfl (cdT (by show (0 : Int32).toInt = 0; rfl))) ?_
      refine e_then (e_ii hT (y := 148) (pc := 42) (q := (yX7_firstBest, cX7_firstBest, 5, (some .int), 7)) rfl (show aTab 148 42 = some (.iinc 4 1, 3, 0, 0, 0, 0, 0, 0) from rfl) ⟨rfl, by decide⟩ h4) ?_
      refine e_then (e_st hT (y := 148) (pc := 45) (q := (yX7_firstBest, cX7_firstBest, 5, (some .int), 7)) rfl (show aTab 148 45 = some (.goto (-42), 3, 0, 0, 0, 0, 0, 0) from rfl) (fr' := (148, 3, (mlp 4 (.int ((Int32.ofNat who) + Int32.ofInt 1)) lv), [])) (M' := M) rfl) ?_
      rw [os1 (by omega)]
      exact ih _ (by omega) (mlg_r h0 (by decide)) (mlg_i h1 (by decide)) (mlg_i h2 (by decide)) (mlg_i h3 (by decide)) (mlg_eq 4 _ _)
    rw [gB_t c1] at q1
    rw [if_neg c1] at hv
    rw [← hv] at q2
    by_cases c2 : v who = x
    · rw [hs, if_pos c2]
      refine e_then (e_il2 hT (y := 148) (pc := 3) (q := (yX7_firstBest, cX7_firstBest, 5, (some .int), 7)) rfl (show aTab 148 3 = some (.iload 4, 2, 0, 0, 0, 0, 0, 0) from rfl) rfl h4) ?_
      refine e_then (e_st hT (y := 148) (pc := 5) (q := (yX7_firstBest, cX7_firstBest, 5, (some .int), 7)) rfl (show aTab 148 5 = some (.bipush 6, 2, 0, 0, 0, 0, 0, 0) from rfl) (fr' := (148, 7, lv, [.int 6, .int (Int32.ofNat who)])) (M' := M) rfl) ?_
      refine e_then (e_icF hT (y := 148) (pc := 7) (q := (yX7_firstBest, cX7_firstBest, 5, (some .int), 7)) rfl (show aTab 148 7 = some (.if_icmp .ge 41, 3, 0, 0, 0, 0, 0, 0) from rfl) rfl (t := 48) rfl (cdF (by show ¬ _ ≤ _; omega))) ?_
      refine e_then (e_al1 hT (y := 148) (pc := 10) (q := (yX7_firstBest, cX7_firstBest, 5, (some .int), 7)) rfl (show aTab 148 10 = some (.aload_n 0, 1, 0, 0, 0, 0, 0, 0) from rfl) rfl h0) ?_
      refine e_then (e_il2 hT (y := 148) (pc := 11) (q := (yX7_firstBest, cX7_firstBest, 5, (some .int), 7)) rfl (show aTab 148 11 = some (.iload 4, 2, 0, 0, 0, 0, 0, 0) from rfl) rfl h4) ?_
      refine e_then (e_il1 hT (y := 148) (pc := 13) (q := (yX7_firstBest, cX7_firstBest, 5, (some .int), 7)) rfl (show aTab 148 13 = some (.iload_n 2, 1, 0, 0, 0, 0, 0, 0) from rfl) rfl h2) ?_
      refine e_then (e_il1 hT (y := 148) (pc := 14) (q := (yX7_firstBest, cX7_firstBest, 5, (some .int), 7)) rfl (show aTab 148 14 = some (.iload_n 3, 1, 0, 0, 0, 0, 0, 0) from rfl) rfl h3) ?_
      refine e_then (e_call hT (y := 148) (pc := 15) (q := (yX7_firstBest, cX7_firstBest, 5, (some .int), 7)) rfl (show aTab 148 15 = some (.invokevirtual 75, 3, 1, 149, 0, 3, 4, 7) from rfl) rfl ⟨by decide, Nat.le_of_ble_eq_true rfl⟩ (ob_at hM (rfl : tTy 40 = some (.inr (7, _)))).choose_spec (Nat.le_of_ble_eq_true rfl) (Nat.le_of_ble_eq_true rfl) ⟨by decide, by decide⟩ q1) ?_
      refine e_then (e_ifF hT (y := 148) (pc := 18) (q := (yX7_firstBest, cX7_firstBest, 5, (some .int), 7)) rfl (show aTab 148 18 = some (.ifCond .eq 24, 3, 0, 0, 0, 0, 0, 0) from rfl) rfl (t := 42) rfl (cdF (by show ¬ (1 : Int32).toInt = 0; decide))) ?_
      refine e_then (e_al1 hT (y := 148) (pc := 21) (q := (yX7_firstBest, cX7_firstBest, 5, (some .int), 7)) rfl (show aTab 148 21 = some (.aload_n 0, 1, 0, 0, 0, 0, 0, 0) from rfl) rfl h0) ?_
      refine e_then (e_il1 hT (y := 148) (pc := 22) (q := (yX7_firstBest, cX7_firstBest, 5, (some .int), 7)) rfl (show aTab 148 22 = some (.iload_n 1, 1, 0, 0, 0, 0, 0, 0) from rfl) rfl h1) ?_
      refine e_then (e_il2 hT (y := 148) (pc := 23) (q := (yX7_firstBest, cX7_firstBest, 5, (some .int), 7)) rfl (show aTab 148 23 = some (.iload 4, 2, 0, 0, 0, 0, 0, 0) from rfl) rfl h4) ?_
      refine e_then (e_il1 hT (y := 148) (pc := 25) (q := (yX7_firstBest, cX7_firstBest, 5, (some .int), 7)) rfl (show aTab 148 25 = some (.iload_n 2, 1, 0, 0, 0, 0, 0, 0) from rfl) rfl h2) ?_
      refine e_then (e_call hT (y := 148) (pc := 26) (q := (yX7_firstBest, cX7_firstBest, 5, (some .int), 7)) rfl (show aTab 148 26 = some (.invokevirtual 79, 3, 1, 150, 0, 3, 5, 7) from rfl) rfl ⟨by decide, Nat.le_of_ble_eq_true rfl⟩ (ob_at hM (rfl : tTy 40 = some (.inr (7, _)))).choose_spec (Nat.le_of_ble_eq_true rfl) (Nat.le_of_ble_eq_true rfl) ⟨by decide, by decide⟩ q2) ?_
      refine e_then (e_al1 hT (y := 148) (pc := 29) (q := (yX7_firstBest, cX7_firstBest, 5, (some .int), 7)) rfl (show aTab 148 29 = some (.aload_n 0, 1, 0, 0, 0, 0, 0, 0) from rfl) rfl h0) ?_
      refine e_then (e_il1 hT (y := 148) (pc := 30) (q := (yX7_firstBest, cX7_firstBest, 5, (some .int), 7)) rfl (show aTab 148 30 = some (.iload_n 1, 1, 0, 0, 0, 0, 0, 0) from rfl) rfl h1) ?_
      refine e_then (e_il1 hT (y := 148) (pc := 31) (q := (yX7_firstBest, cX7_firstBest, 5, (some .int), 7)) rfl (show aTab 148 31 = some (.iload_n 2, 1, 0, 0, 0, 0, 0, 0) from rfl) rfl h2) ?_
      refine e_then (e_il1 hT (y := 148) (pc := 32) (q := (yX7_firstBest, cX7_firstBest, 5, (some .int), 7)) rfl (show aTab 148 32 = some (.iload_n 3, 1, 0, 0, 0, 0, 0, 0) from rfl) rfl h3) ?_
      refine e_then (e_call hT (y := 148) (pc := 33) (q := (yX7_firstBest, cX7_firstBest, 5, (some .int), 7)) rfl (show aTab 148 33 = some (.invokevirtual 62, 3, 1, 146, 0, 3, 4, 7) from rfl) rfl ⟨by decide, Nat.le_of_ble_eq_true rfl⟩ (ob_at hM (rfl : tTy 40 = some (.inr (7, _)))).choose_spec (Nat.le_of_ble_eq_true rfl) (Nat.le_of_ble_eq_true rfl) ⟨by decide, by decide⟩ q3) ?_
      refine e_then (e_icF hT (y := 148) (pc := 36) (q := (yX7_firstBest, cX7_firstBest, 5, (some .int), 7)) rfl (show aTab 148 36 = some (.if_icmp .ne 6, 3, 0, 0, 0, 0, 0, 0) from rfl) rfl (t := 42) rfl (cdF (by show ¬ ¬ _ = _; rw [c2]; exact fun z => z rfl))) ?_
      refine e_then (e_il2 hT (y := 148) (pc := 39) (q := (yX7_firstBest, cX7_firstBest, 5, (some .int), 7)) rfl (show aTab 148 39 = some (.iload 4, 2, 0, 0, 0, 0, 0, 0) from rfl) rfl h4) ?_
      exact e_fin (e_iret hT (y := 148) (pc := 41) (q := (yX7_firstBest, cX7_firstBest, 5, (some .int), 7)) rfl (show aTab 148 41 = some (.ireturn, 1, 0, 0, 0, 0, 0, 0) from rfl) ⟨rfl, rfl⟩) ⟨rfl, rfl⟩
    · rw [hs, if_neg c2]
      refine e_then (e_il2 hT (y := 148) (pc := 3) (q := (yX7_firstBest, cX7_firstBest, 5, (some .int), 7)) rfl (show aTab 148 3 = some (.iload 4, 2, 0, 0, 0, 0, 0, 0) from rfl) rfl h4) ?_
      refine e_then (e_st hT (y := 148) (pc := 5) (q := (yX7_firstBest, cX7_firstBest, 5, (some .int), 7)) rfl (show aTab 148 5 = some (.bipush 6, 2, 0, 0, 0, 0, 0, 0) from rfl) (fr' := (148, 7, lv, [.int 6, .int (Int32.ofNat who)])) (M' := M) rfl) ?_
      refine e_then (e_icF hT (y := 148) (pc := 7) (q := (yX7_firstBest, cX7_firstBest, 5, (some .int), 7)) rfl (show aTab 148 7 = some (.if_icmp .ge 41, 3, 0, 0, 0, 0, 0, 0) from rfl) rfl (t := 48) rfl (cdF (by show ¬ _ ≤ _; omega))) ?_
      refine e_then (e_al1 hT (y := 148) (pc := 10) (q := (yX7_firstBest, cX7_firstBest, 5, (some .int), 7)) rfl (show aTab 148 10 = some (.aload_n 0, 1, 0, 0, 0, 0, 0, 0) from rfl) rfl h0) ?_
      refine e_then (e_il2 hT (y := 148) (pc := 11) (q := (yX7_firstBest, cX7_firstBest, 5, (some .int), 7)) rfl (show aTab 148 11 = some (.iload 4, 2, 0, 0, 0, 0, 0, 0) from rfl) rfl h4) ?_
      refine e_then (e_il1 hT (y := 148) (pc := 13) (q := (yX7_firstBest, cX7_firstBest, 5, (some .int), 7)) rfl (show aTab 148 13 = some (.iload_n 2, 1, 0, 0, 0, 0, 0, 0) from rfl) rfl h2) ?_
      refine e_then (e_il1 hT (y := 148) (pc := 14) (q := (yX7_firstBest, cX7_firstBest, 5, (some .int), 7)) rfl (show aTab 148 14 = some (.iload_n 3, 1, 0, 0, 0, 0, 0, 0) from rfl) rfl h3) ?_
      refine e_then (e_call hT (y := 148) (pc := 15) (q := (yX7_firstBest, cX7_firstBest, 5, (some .int), 7)) rfl (show aTab 148 15 = some (.invokevirtual 75, 3, 1, 149, 0, 3, 4, 7) from rfl) rfl ⟨by decide, Nat.le_of_ble_eq_true rfl⟩ (ob_at hM (rfl : tTy 40 = some (.inr (7, _)))).choose_spec (Nat.le_of_ble_eq_true rfl) (Nat.le_of_ble_eq_true rfl) ⟨by decide, by decide⟩ q1) ?_
      refine e_then (e_ifF hT (y := 148) (pc := 18) (q := (yX7_firstBest, cX7_firstBest, 5, (some .int), 7)) rfl (show aTab 148 18 = some (.ifCond .eq 24, 3, 0, 0, 0, 0, 0, 0) from rfl) rfl (t := 42) rfl (cdF (by show ¬ (1 : Int32).toInt = 0; decide))) ?_
      refine e_then (e_al1 hT (y := 148) (pc := 21) (q := (yX7_firstBest, cX7_firstBest, 5, (some .int), 7)) rfl (show aTab 148 21 = some (.aload_n 0, 1, 0, 0, 0, 0, 0, 0) from rfl) rfl h0) ?_
      refine e_then (e_il1 hT (y := 148) (pc := 22) (q := (yX7_firstBest, cX7_firstBest, 5, (some .int), 7)) rfl (show aTab 148 22 = some (.iload_n 1, 1, 0, 0, 0, 0, 0, 0) from rfl) rfl h1) ?_
      refine e_then (e_il2 hT (y := 148) (pc := 23) (q := (yX7_firstBest, cX7_firstBest, 5, (some .int), 7)) rfl (show aTab 148 23 = some (.iload 4, 2, 0, 0, 0, 0, 0, 0) from rfl) rfl h4) ?_
      refine e_then (e_il1 hT (y := 148) (pc := 25) (q := (yX7_firstBest, cX7_firstBest, 5, (some .int), 7)) rfl (show aTab 148 25 = some (.iload_n 2, 1, 0, 0, 0, 0, 0, 0) from rfl) rfl h2) ?_
      refine e_then (e_call hT (y := 148) (pc := 26) (q := (yX7_firstBest, cX7_firstBest, 5, (some .int), 7)) rfl (show aTab 148 26 = some (.invokevirtual 79, 3, 1, 150, 0, 3, 5, 7) from rfl) rfl ⟨by decide, Nat.le_of_ble_eq_true rfl⟩ (ob_at hM (rfl : tTy 40 = some (.inr (7, _)))).choose_spec (Nat.le_of_ble_eq_true rfl) (Nat.le_of_ble_eq_true rfl) ⟨by decide, by decide⟩ q2) ?_
      refine e_then (e_al1 hT (y := 148) (pc := 29) (q := (yX7_firstBest, cX7_firstBest, 5, (some .int), 7)) rfl (show aTab 148 29 = some (.aload_n 0, 1, 0, 0, 0, 0, 0, 0) from rfl) rfl h0) ?_
      refine e_then (e_il1 hT (y := 148) (pc := 30) (q := (yX7_firstBest, cX7_firstBest, 5, (some .int), 7)) rfl (show aTab 148 30 = some (.iload_n 1, 1, 0, 0, 0, 0, 0, 0) from rfl) rfl h1) ?_
      refine e_then (e_il1 hT (y := 148) (pc := 31) (q := (yX7_firstBest, cX7_firstBest, 5, (some .int), 7)) rfl (show aTab 148 31 = some (.iload_n 2, 1, 0, 0, 0, 0, 0, 0) from rfl) rfl h2) ?_
      refine e_then (e_il1 hT (y := 148) (pc := 32) (q := (yX7_firstBest, cX7_firstBest, 5, (some .int), 7)) rfl (show aTab 148 32 = some (.iload_n 3, 1, 0, 0, 0, 0, 0, 0) from rfl) rfl h3) ?_
      refine e_then (e_call hT (y := 148) (pc := 33) (q := (yX7_firstBest, cX7_firstBest, 5, (some .int), 7)) rfl (show aTab 148 33 = some (.invokevirtual 62, 3, 1, 146, 0, 3, 4, 7) from rfl) rfl ⟨by decide, Nat.le_of_ble_eq_true rfl⟩ (ob_at hM (rfl : tTy 40 = some (.inr (7, _)))).choose_spec (Nat.le_of_ble_eq_true rfl) (Nat.le_of_ble_eq_true rfl) ⟨by decide, by decide⟩ q3) ?_
      refine e_then (e_icT hT (y := 148) (pc := 36) (q := (yX7_firstBest, cX7_firstBest, 5, (some .int), 7)) rfl (show aTab 148 36 = some (.if_icmp .ne 6, 3, 0, 0, 0, 0, 0, 0) from rfl) rfl (t := 42) rfl (cdT (by show ¬ _ = _; exact fun z => c2 (Int32.toInt_inj.mp z)))) ?_
      refine e_then (e_ii hT (y := 148) (pc := 42) (q := (yX7_firstBest, cX7_firstBest, 5, (some .int), 7)) rfl (show aTab 148 42 = some (.iinc 4 1, 3, 0, 0, 0, 0, 0, 0) from rfl) ⟨rfl, by decide⟩ h4) ?_
      refine e_then (e_st hT (y := 148) (pc := 45) (q := (yX7_firstBest, cX7_firstBest, 5, (some .int), 7)) rfl (show aTab 148 45 = some (.goto (-42), 3, 0, 0, 0, 0, 0, 0) from rfl) (fr' := (148, 3, (mlp 4 (.int ((Int32.ofNat who) + Int32.ofInt 1)) lv), [])) (M' := M) rfl) ?_
      rw [os1 (by omega)]
      exact ih _ (by omega) (mlg_r h0 (by decide)) (mlg_i h1 (by decide)) (mlg_i h2 (by decide)) (mlg_i h3 (by decide)) (mlg_eq 4 _ _)
theorem xfb_run (hT : aTabOk) {M : mHe} (hM : yTy M) {g : Nat → Nat → Int32} (hg : rdI M = g) {N : Nat} (hN : g 40 0 = Int32.ofNat N) (hN6 : N ≤ 6) {nx : Nat → Int32} {h la tw : Nat} (hn : ∀ k, k < 14 → g 43 (14 * (h + 1) + k) = nx k) (hx : 0 ≤ (g 43 (14 * h + 2 * la + tw)).toInt) (hh : h ≤ 7) (hl : la ≤ 6) (ht : tw ≤ 1) {d : Nat} (hd : 40 ≤ d) : ∃ K, mRun none K d (148, 0, lv_args 0 [.ref 49, .int (Int32.ofNat h), .int (Int32.ofNat la), .int (Int32.ofNat tw)], []) M = some (some (.int (Int32.ofNat (fsV (hbV (xHr g) N nx h la tw) (g 43 (14 * h + 2 * la + tw)) 6 0))), M) := by
  have go : mEv none 40 (148, 0, lv_args 0 [.ref 49, .int (Int32.ofNat h), .int (Int32.ofNat la), .int (Int32.ofNat tw)], []) M (fun r M' => r = some (.int (Int32.ofNat (fsV (hbV (xHr g) N nx h la tw) (g 43 (14 * h + 2 * la + tw)) 6 0))) ∧ M' = M) := by
    refine e_then (e_st hT (y := 148) (pc := 0) (q := (yX7_firstBest, cX7_firstBest, 5, (some .int), 7)) rfl (show aTab 148 0 = some (.iconst 0, 1, 0, 0, 0, 0, 0, 0) from rfl) (fr' := (148, 1, (lv_args 0 [.ref 49, .int (Int32.ofNat h), .int (Int32.ofNat la), .int (Int32.ofNat tw)]), [.int 0])) (M' := M) rfl) ?_
    refine e_then (e_is2 hT (y := 148) (pc := 1) (q := (yX7_firstBest, cX7_firstBest, 5, (some .int), 7)) rfl (show aTab 148 1 = some (.istore 4, 2, 0, 0, 0, 0, 0, 0) from rfl) ⟨rfl, by decide⟩) ?_
    exact xfb_loop hT hM hg hN hN6 hn hx hh hl ht 6 0 _ (by omega) (mlg_r rfl (by decide)) (mlg_i rfl (by decide)) (mlg_i rfl (by decide)) (mlg_i rfl (by decide)) (mlg_eq 4 _ _)
  obtain ⟨K, r, M', q, rfl, rfl⟩ := go
  exact ⟨K, mRun_dm q hd⟩
def shA (H : Nat → Nat → Int32) (N n u : Nat) : Int32 := if (goV H N n (u + 1)).1 = 6 then -1000000005 else Int32.ofNat (goV H N n (u + 1)).1
theorem goV_s {H : Nat → Nat → Int32} {N n h : Nat} (hh : h < n) : (goV H N n (h + 1)).1 = fsV (hbV H N (rowV H N n (n - (h + 1))) h (goV H N n h).1 (goV H N n h).2) (rowV H N n (n - h) (2 * (goV H N n h).1 + (goV H N n h).2)) 6 0 ∧ (goV H N n (h + 1)).2 = if (goV H N n (h + 1)).1 = (goV H N n h).1 ∧ (goV H N n (h + 1)).1 < 6 then 1 else 0 := by
  have e : n - 1 - h = n - (h + 1) := by omega
  constructor
  · show fsV (hbV H N (rowV H N n (n - 1 - h)) h (goV H N n h).1 (goV H N n h).2) (rowV H N n (n - h) (2 * (goV H N n h).1 + (goV H N n h).2)) 6 0 = _
    rw [e]
  · rfl
theorem xin_loop (hT : aTabOk) {M : mHe} (hM : yTy M) {g : Nat → Nat → Int32} {N n u : Nat} (hN : g 40 0 = Int32.ofNat N) (hN6 : N ≤ 6) (hn8 : n ≤ 8) (hu : u < n) (hB : shTB 43 (xHr g) g N n (rdI M) 0) : ∀ (j h : Nat) (lv : List (Nat × Value)), h + j = u + 1 → mlg 0 lv = some (.ref 49) → mlg 1 lv = some (.int (Int32.ofNat n)) → mlg 2 lv = some (.int (Int32.ofNat u)) → mlg 3 lv = some (.int (Int32.ofNat (goV (xHr g) N n h).1)) → mlg 4 lv = some (.int (Int32.ofNat (goV (xHr g) N n h).2)) → mlg 5 lv = some (.int (Int32.ofNat h)) → mEv none 50 (143, 38, lv, []) M (fun r M' => r = some (.int (shA (xHr g) N n u)) ∧ M' = M) := by
  have e6 : (6 : Int32).toInt = 6 := rfl
  have e8 : (8 : Int32).toInt = 8 := rfl
  have eu := i32n (k := u) (by omega)
  have hb6 := xH_6 g
  have hb1 := xH_b g
  intro j
  induction j with
  | zero =>
    intro h lv hj h0 h1 h2 h3 h4 h5
    have hj : h = u + 1 := by omega
    subst hj
    have eh := i32n (k := u + 1) (by omega)
    have hl := (goV_b (H := xHr g) (N := N) (n := n) (u + 1)).2 hb1 hb6 hn8 (by omega)
    unfold shA
    obtain ⟨w, hw⟩ : ∃ w, w = (goV (xHr g) N n (u + 1)).1 := ⟨_, rfl⟩
    rw [← hw] at h3 hl ⊢
    have ew := i32n (k := w) (by omega)
    by_cases c1 : w = 6
    · rw [if_pos c1]
      refine e_then (e_il2 hT (y := 143) (pc := 38) (q := (yX7_interpreterIn, cX7_interpreterIn, 7, (some .int), 7)) rfl (show aTab 143 38 = some (.iload 5, 2, 0, 0, 0, 0, 0, 0) from rfl) rfl h5) ?_
      refine e_then (e_il1 hT (y := 143) (pc := 40) (q := (yX7_interpreterIn, cX7_interpreterIn, 7, (some .int), 7)) rfl (show aTab 143 40 = some (.iload_n 2, 1, 0, 0, 0, 0, 0, 0) from rfl) rfl h2) ?_
      refine e_then (e_icT hT (y := 143) (pc := 41) (q := (yX7_interpreterIn, cX7_interpreterIn, 7, (some .int), 7)) rfl (show aTab 143 41 = some (.if_icmp .gt 50, 3, 0, 0, 0, 0, 0, 0) from rfl) rfl (t := 91) rfl (cdT (by show _ < _; omega))) ?_
      refine e_then (e_il1 hT (y := 143) (pc := 91) (q := (yX7_interpreterIn, cX7_interpreterIn, 7, (some .int), 7)) rfl (show aTab 143 91 = some (.iload_n 3, 1, 0, 0, 0, 0, 0, 0) from rfl) rfl h3) ?_
      refine e_then (e_st hT (y := 143) (pc := 92) (q := (yX7_interpreterIn, cX7_interpreterIn, 7, (some .int), 7)) rfl (show aTab 143 92 = some (.bipush 6, 2, 0, 0, 0, 0, 0, 0) from rfl) (fr' := (143, 94, lv, [.int 6, .int (Int32.ofNat w)])) (M' := M) rfl) ?_
      refine e_then (e_icF hT (y := 143) (pc := 94) (q := (yX7_interpreterIn, cX7_interpreterIn, 7, (some .int), 7)) rfl (show aTab 143 94 = some (.if_icmp .ne 8, 3, 0, 0, 0, 0, 0, 0) from rfl) rfl (t := 102) rfl (cdF (by show ¬ ¬ _ = _; omega))) ?_
      refine e_then (e_st hT (y := 143) (pc := 97) (q := (yX7_interpreterIn, cX7_interpreterIn, 7, (some .int), 7)) rfl (show aTab 143 97 = some (.ldc 57, 2, 7, 0, (-1000000005), 0, 0, 0) from rfl) (fr' := (143, 99, lv, [.int (-1000000005)])) (M' := M) rfl) ?_
      refine e_then (e_st hT (y := 143) (pc := 99) (q := (yX7_interpreterIn, cX7_interpreterIn, 7, (some .int), 7)) rfl (show aTab 143 99 = some (.goto 4, 3, 0, 0, 0, 0, 0, 0) from rfl) (fr' := (143, 103, lv, [.int (-1000000005)])) (M' := M) rfl) ?_
      exact e_fin (e_iret hT (y := 143) (pc := 103) (q := (yX7_interpreterIn, cX7_interpreterIn, 7, (some .int), 7)) rfl (show aTab 143 103 = some (.ireturn, 1, 0, 0, 0, 0, 0, 0) from rfl) ⟨rfl, rfl⟩) ⟨rfl, rfl⟩
    · rw [if_neg c1]
      refine e_then (e_il2 hT (y := 143) (pc := 38) (q := (yX7_interpreterIn, cX7_interpreterIn, 7, (some .int), 7)) rfl (show aTab 143 38 = some (.iload 5, 2, 0, 0, 0, 0, 0, 0) from rfl) rfl h5) ?_
      refine e_then (e_il1 hT (y := 143) (pc := 40) (q := (yX7_interpreterIn, cX7_interpreterIn, 7, (some .int), 7)) rfl (show aTab 143 40 = some (.iload_n 2, 1, 0, 0, 0, 0, 0, 0) from rfl) rfl h2) ?_
      refine e_then (e_icT hT (y := 143) (pc := 41) (q := (yX7_interpreterIn, cX7_interpreterIn, 7, (some .int), 7)) rfl (show aTab 143 41 = some (.if_icmp .gt 50, 3, 0, 0, 0, 0, 0, 0) from rfl) rfl (t := 91) rfl (cdT (by show _ < _; omega))) ?_
      refine e_then (e_il1 hT (y := 143) (pc := 91) (q := (yX7_interpreterIn, cX7_interpreterIn, 7, (some .int), 7)) rfl (show aTab 143 91 = some (.iload_n 3, 1, 0, 0, 0, 0, 0, 0) from rfl) rfl h3) ?_
      refine e_then (e_st hT (y := 143) (pc := 92) (q := (yX7_interpreterIn, cX7_interpreterIn, 7, (some .int), 7)) rfl (show aTab 143 92 = some (.bipush 6, 2, 0, 0, 0, 0, 0, 0) from rfl) (fr' := (143, 94, lv, [.int 6, .int (Int32.ofNat w)])) (M' := M) rfl) ?_
      refine e_then (e_icT hT (y := 143) (pc := 94) (q := (yX7_interpreterIn, cX7_interpreterIn, 7, (some .int), 7)) rfl (show aTab 143 94 = some (.if_icmp .ne 8, 3, 0, 0, 0, 0, 0, 0) from rfl) rfl (t := 102) rfl (cdT (by show ¬ _ = _; omega))) ?_
      refine e_then (e_il1 hT (y := 143) (pc := 102) (q := (yX7_interpreterIn, cX7_interpreterIn, 7, (some .int), 7)) rfl (show aTab 143 102 = some (.iload_n 3, 1, 0, 0, 0, 0, 0, 0) from rfl) rfl h3) ?_
      exact e_fin (e_iret hT (y := 143) (pc := 103) (q := (yX7_interpreterIn, cX7_interpreterIn, 7, (some .int), 7)) rfl (show aTab 143 103 = some (.ireturn, 1, 0, 0, 0, 0, 0, 0) from rfl) ⟨rfl, rfl⟩) ⟨rfl, rfl⟩
  | succ j ih =>
    intro h lv hj h0 h1 h2 h3 h4 h5
    have eh := i32n (k := h) (by omega)
    have hl := (goV_b (H := xHr g) (N := N) (n := n) h).2 hb1 hb6 hn8 (by omega)
    have ht := (goV_b (H := xHr g) (N := N) (n := n) h).1
    have hl' := (goV_b (H := xHr g) (N := N) (n := n) (h + 1)).2 hb1 hb6 hn8 (by omega)
    obtain ⟨s1, s2⟩ := goV_s (H := xHr g) (N := N) (n := n) (h := h) (by omega)
    have ih := ih (h + 1)
    obtain ⟨la, hla⟩ : ∃ x, x = (goV (xHr g) N n h).1 := ⟨_, rfl⟩
    obtain ⟨tw, htw⟩ : ∃ x, x = (goV (xHr g) N n h).2 := ⟨_, rfl⟩
    obtain ⟨w, hw⟩ : ∃ x, x = (goV (xHr g) N n (h + 1)).1 := ⟨_, rfl⟩
    obtain ⟨tw', htw'⟩ : ∃ x, x = (goV (xHr g) N n (h + 1)).2 := ⟨_, rfl⟩
    rw [← hw, ← htw'] at ih
    rw [← hla, ← htw, ← hw] at s1
    rw [← hw, ← hla, ← htw'] at s2
    rw [← hla] at h3 hl
    rw [← htw] at h4 ht
    rw [← hw] at hl'
    have ew := i32n (k := w) (by omega)
    have el := i32n (k := la) (by omega)
    have hrow := hB.2 h (by omega) (by omega) (2 * la + tw) (by omega)
    have hrb := rowV_b (N := N) (n := n) hb1 (n - h) (2 * la + tw) (by omega)
    rw [← hrow, ← Nat.add_assoc] at s1 hrb
    have hN1 : rdI M 40 0 = Int32.ofNat N := by rw [hB.1 40 0 (by decide)]; exact hN
    obtain ⟨K1, q1⟩ := xfb_run hT hM rfl hN1 hN6 (nx := rowV (xHr g) N n (n - (h + 1))) (h := h) (la := la) (tw := tw) (fun k hk => hB.2 (h + 1) (by omega) (by omega) k hk) hrb.1 (by omega) hl ht (d := 49) (by decide)
    rw [xH_eq hB.1, ← s1] at q1
    by_cases c1 : w = la
    · by_cases c2 : w = 6
      · have s2' : tw' = 0 := by rw [s2, if_neg (fun z => by omega)]
        refine e_then (e_il2 hT (y := 143) (pc := 38) (q := (yX7_interpreterIn, cX7_interpreterIn, 7, (some .int), 7)) rfl (show aTab 143 38 = some (.iload 5, 2, 0, 0, 0, 0, 0, 0) from rfl) rfl h5) ?_
        refine e_then (e_il1 hT (y := 143) (pc := 40) (q := (yX7_interpreterIn, cX7_interpreterIn, 7, (some .int), 7)) rfl (show aTab 143 40 = some (.iload_n 2, 1, 0, 0, 0, 0, 0, 0) from rfl) rfl h2) ?_
        refine e_then (e_icF hT (y := 143) (pc := 41) (q := (yX7_interpreterIn, cX7_interpreterIn, 7, (some .int), 7)) rfl (show aTab 143 41 = some (.if_icmp .gt 50, 3, 0, 0, 0, 0, 0, 0) from rfl) rfl (t := 91) rfl (cdF (by show ¬ _ < _; omega))) ?_
        refine e_then (e_il2 hT (y := 143) (pc := 44) (q := (yX7_interpreterIn, cX7_interpreterIn, 7, (some .int), 7)) rfl (show aTab 143 44 = some (.iload 5, 2, 0, 0, 0, 0, 0, 0) from rfl) rfl h5) ?_
        refine e_then (e_st hT (y := 143) (pc := 46) (q := (yX7_interpreterIn, cX7_interpreterIn, 7, (some .int), 7)) rfl (show aTab 143 46 = some (.bipush 8, 2, 0, 0, 0, 0, 0, 0) from rfl) (fr' := (143, 48, lv, [.int 8, .int (Int32.ofNat h)])) (M' := M) rfl) ?_
        refine e_then (e_icF hT (y := 143) (pc := 48) (q := (yX7_interpreterIn, cX7_interpreterIn, 7, (some .int), 7)) rfl (show aTab 143 48 = some (.if_icmp .ge 43, 3, 0, 0, 0, 0, 0, 0) from rfl) rfl (t := 91) rfl (cdF (by show ¬ _ ≤ _; omega))) ?_
        refine e_then (e_al1 hT (y := 143) (pc := 51) (q := (yX7_interpreterIn, cX7_interpreterIn, 7, (some .int), 7)) rfl (show aTab 143 51 = some (.aload_n 0, 1, 0, 0, 0, 0, 0, 0) from rfl) rfl h0) ?_
        refine e_then (e_il2 hT (y := 143) (pc := 52) (q := (yX7_interpreterIn, cX7_interpreterIn, 7, (some .int), 7)) rfl (show aTab 143 52 = some (.iload 5, 2, 0, 0, 0, 0, 0, 0) from rfl) rfl h5) ?_
        refine e_then (e_il1 hT (y := 143) (pc := 54) (q := (yX7_interpreterIn, cX7_interpreterIn, 7, (some .int), 7)) rfl (show aTab 143 54 = some (.iload_n 3, 1, 0, 0, 0, 0, 0, 0) from rfl) rfl h3) ?_
        refine e_then (e_il2 hT (y := 143) (pc := 55) (q := (yX7_interpreterIn, cX7_interpreterIn, 7, (some .int), 7)) rfl (show aTab 143 55 = some (.iload 4, 2, 0, 0, 0, 0, 0, 0) from rfl) rfl h4) ?_
        refine e_then (e_call hT (y := 143) (pc := 57) (q := (yX7_interpreterIn, cX7_interpreterIn, 7, (some .int), 7)) rfl (show aTab 143 57 = some (.invokevirtual 66, 3, 1, 148, 0, 3, 5, 7) from rfl) rfl ⟨by decide, Nat.le_of_ble_eq_true rfl⟩ (ob_at hM (rfl : tTy 40 = some (.inr (7, _)))).choose_spec (Nat.le_of_ble_eq_true rfl) (Nat.le_of_ble_eq_true rfl) ⟨by decide, by decide⟩ q1) ?_
        refine e_then (e_is2 hT (y := 143) (pc := 60) (q := (yX7_interpreterIn, cX7_interpreterIn, 7, (some .int), 7)) rfl (show aTab 143 60 = some (.istore 6, 2, 0, 0, 0, 0, 0, 0) from rfl) ⟨rfl, by decide⟩) ?_
        refine e_then (e_il2 hT (y := 143) (pc := 62) (q := (yX7_interpreterIn, cX7_interpreterIn, 7, (some .int), 7)) rfl (show aTab 143 62 = some (.iload 6, 2, 0, 0, 0, 0, 0, 0) from rfl) rfl (mlg_eq 6 _ _)) ?_
        refine e_then (e_il1 hT (y := 143) (pc := 64) (q := (yX7_interpreterIn, cX7_interpreterIn, 7, (some .int), 7)) rfl (show aTab 143 64 = some (.iload_n 3, 1, 0, 0, 0, 0, 0, 0) from rfl) rfl (mlg_i h3 (by decide))) ?_
        refine e_then (e_icF hT (y := 143) (pc := 65) (q := (yX7_interpreterIn, cX7_interpreterIn, 7, (some .int), 7)) rfl (show aTab 143 65 = some (.if_icmp .ne 14, 3, 0, 0, 0, 0, 0, 0) from rfl) rfl (t := 79) rfl (cdF (by show ¬ ¬ _ = _; omega))) ?_
        refine e_then (e_il2 hT (y := 143) (pc := 68) (q := (yX7_interpreterIn, cX7_interpreterIn, 7, (some .int), 7)) rfl (show aTab 143 68 = some (.iload 6, 2, 0, 0, 0, 0, 0, 0) from rfl) rfl (mlg_eq 6 _ _)) ?_
        refine e_then (e_st hT (y := 143) (pc := 70) (q := (yX7_interpreterIn, cX7_interpreterIn, 7, (some .int), 7)) rfl (show aTab 143 70 = some (.bipush 6, 2, 0, 0, 0, 0, 0, 0) from rfl) (fr' := (143, 72, (mlp 6 (.int (Int32.ofNat w)) lv), [.int 6, .int (Int32.ofNat w)])) (M' := M) rfl) ?_
        refine e_then (e_icT hT (y := 143) (pc := 72) (q := (yX7_interpreterIn, cX7_interpreterIn, 7, (some .int), 7)) rfl (show aTab 143 72 = some (.if_icmp .eq 7, 3, 0, 0, 0, 0, 0, 0) from rfl) rfl (t := 79) rfl (cdT (by show _ = _; omega))) ?_
        refine e_then (e_st hT (y := 143) (pc := 79) (q := (yX7_interpreterIn, cX7_interpreterIn, 7, (some .int), 7)) rfl (show aTab 143 79 = some (.iconst 0, 1, 0, 0, 0, 0, 0, 0) from rfl) (fr' := (143, 80, (mlp 6 (.int (Int32.ofNat w)) lv), [.int 0])) (M' := M) rfl) ?_
        refine e_then (e_is2 hT (y := 143) (pc := 80) (q := (yX7_interpreterIn, cX7_interpreterIn, 7, (some .int), 7)) rfl (show aTab 143 80 = some (.istore 4, 2, 0, 0, 0, 0, 0, 0) from rfl) ⟨rfl, by decide⟩) ?_
        refine e_then (e_il2 hT (y := 143) (pc := 82) (q := (yX7_interpreterIn, cX7_interpreterIn, 7, (some .int), 7)) rfl (show aTab 143 82 = some (.iload 6, 2, 0, 0, 0, 0, 0, 0) from rfl) rfl (mlg_i (mlg_eq 6 _ _) (by decide))) ?_
        refine e_then (e_is1 hT (y := 143) (pc := 84) (q := (yX7_interpreterIn, cX7_interpreterIn, 7, (some .int), 7)) rfl (show aTab 143 84 = some (.istore_n 3, 1, 0, 0, 0, 0, 0, 0) from rfl) ⟨rfl, by decide⟩) ?_
        refine e_then (e_ii hT (y := 143) (pc := 85) (q := (yX7_interpreterIn, cX7_interpreterIn, 7, (some .int), 7)) rfl (show aTab 143 85 = some (.iinc 5 1, 3, 0, 0, 0, 0, 0, 0) from rfl) ⟨rfl, by decide⟩ (mlg_i (mlg_i (mlg_i h5 (by decide)) (by decide)) (by decide))) ?_
        refine e_then (e_st hT (y := 143) (pc := 88) (q := (yX7_interpreterIn, cX7_interpreterIn, 7, (some .int), 7)) rfl (show aTab 143 88 = some (.goto (-50), 3, 0, 0, 0, 0, 0, 0) from rfl) (fr' := (143, 38, (mlp 5 (.int ((Int32.ofNat h) + Int32.ofInt 1)) (mlp 3 (.int (Int32.ofNat w)) (mlp 4 (.int 0) (mlp 6 (.int (Int32.ofNat w)) lv)))), [])) (M' := M) rfl) ?_
        rw [os1 (by omega)]
        exact ih _ (by omega) (mlg_r (mlg_r (mlg_r (mlg_r h0 (by decide)) (by decide)) (by decide)) (by decide)) (mlg_i (mlg_i (mlg_i (mlg_i h1 (by decide)) (by decide)) (by decide)) (by decide)) (mlg_i (mlg_i (mlg_i (mlg_i h2 (by decide)) (by decide)) (by decide)) (by decide)) (mlg_i (mlg_eq 3 _ _) (by decide)) (by rw [s2']; exact (mlg_i (mlg_i (mlg_eq 4 _ _) (by decide)) (by decide))) (mlg_eq 5 _ _)
      · have s2' : tw' = 1 := by rw [s2, if_pos ⟨c1, by omega⟩]
        refine e_then (e_il2 hT (y := 143) (pc := 38) (q := (yX7_interpreterIn, cX7_interpreterIn, 7, (some .int), 7)) rfl (show aTab 143 38 = some (.iload 5, 2, 0, 0, 0, 0, 0, 0) from rfl) rfl h5) ?_
        refine e_then (e_il1 hT (y := 143) (pc := 40) (q := (yX7_interpreterIn, cX7_interpreterIn, 7, (some .int), 7)) rfl (show aTab 143 40 = some (.iload_n 2, 1, 0, 0, 0, 0, 0, 0) from rfl) rfl h2) ?_
        refine e_then (e_icF hT (y := 143) (pc := 41) (q := (yX7_interpreterIn, cX7_interpreterIn, 7, (some .int), 7)) rfl (show aTab 143 41 = some (.if_icmp .gt 50, 3, 0, 0, 0, 0, 0, 0) from rfl) rfl (t := 91) rfl (cdF (by show ¬ _ < _; omega))) ?_
        refine e_then (e_il2 hT (y := 143) (pc := 44) (q := (yX7_interpreterIn, cX7_interpreterIn, 7, (some .int), 7)) rfl (show aTab 143 44 = some (.iload 5, 2, 0, 0, 0, 0, 0, 0) from rfl) rfl h5) ?_
        refine e_then (e_st hT (y := 143) (pc := 46) (q := (yX7_interpreterIn, cX7_interpreterIn, 7, (some .int), 7)) rfl (show aTab 143 46 = some (.bipush 8, 2, 0, 0, 0, 0, 0, 0) from rfl) (fr' := (143, 48, lv, [.int 8, .int (Int32.ofNat h)])) (M' := M) rfl) ?_
        refine e_then (e_icF hT (y := 143) (pc := 48) (q := (yX7_interpreterIn, cX7_interpreterIn, 7, (some .int), 7)) rfl (show aTab 143 48 = some (.if_icmp .ge 43, 3, 0, 0, 0, 0, 0, 0) from rfl) rfl (t := 91) rfl (cdF (by show ¬ _ ≤ _; omega))) ?_
        refine e_then (e_al1 hT (y := 143) (pc := 51) (q := (yX7_interpreterIn, cX7_interpreterIn, 7, (some .int), 7)) rfl (show aTab 143 51 = some (.aload_n 0, 1, 0, 0, 0, 0, 0, 0) from rfl) rfl h0) ?_
        refine e_then (e_il2 hT (y := 143) (pc := 52) (q := (yX7_interpreterIn, cX7_interpreterIn, 7, (some .int), 7)) rfl (show aTab 143 52 = some (.iload 5, 2, 0, 0, 0, 0, 0, 0) from rfl) rfl h5) ?_
        refine e_then (e_il1 hT (y := 143) (pc := 54) (q := (yX7_interpreterIn, cX7_interpreterIn, 7, (some .int), 7)) rfl (show aTab 143 54 = some (.iload_n 3, 1, 0, 0, 0, 0, 0, 0) from rfl) rfl h3) ?_
        refine e_then (e_il2 hT (y := 143) (pc := 55) (q := (yX7_interpreterIn, cX7_interpreterIn, 7, (some .int), 7)) rfl (show aTab 143 55 = some (.iload 4, 2, 0, 0, 0, 0, 0, 0) from rfl) rfl h4) ?_
        refine e_then (e_call hT (y := 143) (pc := 57) (q := (yX7_interpreterIn, cX7_interpreterIn, 7, (some .int), 7)) rfl (show aTab 143 57 = some (.invokevirtual 66, 3, 1, 148, 0, 3, 5, 7) from rfl) rfl ⟨by decide, Nat.le_of_ble_eq_true rfl⟩ (ob_at hM (rfl : tTy 40 = some (.inr (7, _)))).choose_spec (Nat.le_of_ble_eq_true rfl) (Nat.le_of_ble_eq_true rfl) ⟨by decide, by decide⟩ q1) ?_
        refine e_then (e_is2 hT (y := 143) (pc := 60) (q := (yX7_interpreterIn, cX7_interpreterIn, 7, (some .int), 7)) rfl (show aTab 143 60 = some (.istore 6, 2, 0, 0, 0, 0, 0, 0) from rfl) ⟨rfl, by decide⟩) ?_
        refine e_then (e_il2 hT (y := 143) (pc := 62) (q := (yX7_interpreterIn, cX7_interpreterIn, 7, (some .int), 7)) rfl (show aTab 143 62 = some (.iload 6, 2, 0, 0, 0, 0, 0, 0) from rfl) rfl (mlg_eq 6 _ _)) ?_
        refine e_then (e_il1 hT (y := 143) (pc := 64) (q := (yX7_interpreterIn, cX7_interpreterIn, 7, (some .int), 7)) rfl (show aTab 143 64 = some (.iload_n 3, 1, 0, 0, 0, 0, 0, 0) from rfl) rfl (mlg_i h3 (by decide))) ?_
        refine e_then (e_icF hT (y := 143) (pc := 65) (q := (yX7_interpreterIn, cX7_interpreterIn, 7, (some .int), 7)) rfl (show aTab 143 65 = some (.if_icmp .ne 14, 3, 0, 0, 0, 0, 0, 0) from rfl) rfl (t := 79) rfl (cdF (by show ¬ ¬ _ = _; omega))) ?_
        refine e_then (e_il2 hT (y := 143) (pc := 68) (q := (yX7_interpreterIn, cX7_interpreterIn, 7, (some .int), 7)) rfl (show aTab 143 68 = some (.iload 6, 2, 0, 0, 0, 0, 0, 0) from rfl) rfl (mlg_eq 6 _ _)) ?_
        refine e_then (e_st hT (y := 143) (pc := 70) (q := (yX7_interpreterIn, cX7_interpreterIn, 7, (some .int), 7)) rfl (show aTab 143 70 = some (.bipush 6, 2, 0, 0, 0, 0, 0, 0) from rfl) (fr' := (143, 72, (mlp 6 (.int (Int32.ofNat w)) lv), [.int 6, .int (Int32.ofNat w)])) (M' := M) rfl) ?_
        refine e_then (e_icF hT (y := 143) (pc := 72) (q := (yX7_interpreterIn, cX7_interpreterIn, 7, (some .int), 7)) rfl (show aTab 143 72 = some (.if_icmp .eq 7, 3, 0, 0, 0, 0, 0, 0) from rfl) rfl (t := 79) rfl (cdF (by show ¬ _ = _; omega))) ?_
        refine e_then (e_st hT (y := 143) (pc := 75) (q := (yX7_interpreterIn, cX7_interpreterIn, 7, (some .int), 7)) rfl (show aTab 143 75 = some (.iconst 1, 1, 0, 0, 0, 0, 0, 0) from rfl) (fr' := (143, 76, (mlp 6 (.int (Int32.ofNat w)) lv), [.int 1])) (M' := M) rfl) ?_
        refine e_then (e_st hT (y := 143) (pc := 76) (q := (yX7_interpreterIn, cX7_interpreterIn, 7, (some .int), 7)) rfl (show aTab 143 76 = some (.goto 4, 3, 0, 0, 0, 0, 0, 0) from rfl) (fr' := (143, 80, (mlp 6 (.int (Int32.ofNat w)) lv), [.int 1])) (M' := M) rfl) ?_
        refine e_then (e_is2 hT (y := 143) (pc := 80) (q := (yX7_interpreterIn, cX7_interpreterIn, 7, (some .int), 7)) rfl (show aTab 143 80 = some (.istore 4, 2, 0, 0, 0, 0, 0, 0) from rfl) ⟨rfl, by decide⟩) ?_
        refine e_then (e_il2 hT (y := 143) (pc := 82) (q := (yX7_interpreterIn, cX7_interpreterIn, 7, (some .int), 7)) rfl (show aTab 143 82 = some (.iload 6, 2, 0, 0, 0, 0, 0, 0) from rfl) rfl (mlg_i (mlg_eq 6 _ _) (by decide))) ?_
        refine e_then (e_is1 hT (y := 143) (pc := 84) (q := (yX7_interpreterIn, cX7_interpreterIn, 7, (some .int), 7)) rfl (show aTab 143 84 = some (.istore_n 3, 1, 0, 0, 0, 0, 0, 0) from rfl) ⟨rfl, by decide⟩) ?_
        refine e_then (e_ii hT (y := 143) (pc := 85) (q := (yX7_interpreterIn, cX7_interpreterIn, 7, (some .int), 7)) rfl (show aTab 143 85 = some (.iinc 5 1, 3, 0, 0, 0, 0, 0, 0) from rfl) ⟨rfl, by decide⟩ (mlg_i (mlg_i (mlg_i h5 (by decide)) (by decide)) (by decide))) ?_
        refine e_then (e_st hT (y := 143) (pc := 88) (q := (yX7_interpreterIn, cX7_interpreterIn, 7, (some .int), 7)) rfl (show aTab 143 88 = some (.goto (-50), 3, 0, 0, 0, 0, 0, 0) from rfl) (fr' := (143, 38, (mlp 5 (.int ((Int32.ofNat h) + Int32.ofInt 1)) (mlp 3 (.int (Int32.ofNat w)) (mlp 4 (.int 1) (mlp 6 (.int (Int32.ofNat w)) lv)))), [])) (M' := M) rfl) ?_
        rw [os1 (by omega)]
        exact ih _ (by omega) (mlg_r (mlg_r (mlg_r (mlg_r h0 (by decide)) (by decide)) (by decide)) (by decide)) (mlg_i (mlg_i (mlg_i (mlg_i h1 (by decide)) (by decide)) (by decide)) (by decide)) (mlg_i (mlg_i (mlg_i (mlg_i h2 (by decide)) (by decide)) (by decide)) (by decide)) (mlg_i (mlg_eq 3 _ _) (by decide)) (by rw [s2']; exact (mlg_i (mlg_i (mlg_eq 4 _ _) (by decide)) (by decide))) (mlg_eq 5 _ _)
    · have s2' : tw' = 0 := by rw [s2, if_neg (fun z => c1 z.1)]
      refine e_then (e_il2 hT (y := 143) (pc := 38) (q := (yX7_interpreterIn, cX7_interpreterIn, 7, (some .int), 7)) rfl (show aTab 143 38 = some (.iload 5, 2, 0, 0, 0, 0, 0, 0) from rfl) rfl h5) ?_
      refine e_then (e_il1 hT (y := 143) (pc := 40) (q := (yX7_interpreterIn, cX7_interpreterIn, 7, (some .int), 7)) rfl (show aTab 143 40 = some (.iload_n 2, 1, 0, 0, 0, 0, 0, 0) from rfl) rfl h2) ?_
      refine e_then (e_icF hT (y := 143) (pc := 41) (q := (yX7_interpreterIn, cX7_interpreterIn, 7, (some .int), 7)) rfl (show aTab 143 41 = some (.if_icmp .gt 50, 3, 0, 0, 0, 0, 0, 0) from rfl) rfl (t := 91) rfl (cdF (by show ¬ _ < _; omega))) ?_
      refine e_then (e_il2 hT (y := 143) (pc := 44) (q := (yX7_interpreterIn, cX7_interpreterIn, 7, (some .int), 7)) rfl (show aTab 143 44 = some (.iload 5, 2, 0, 0, 0, 0, 0, 0) from rfl) rfl h5) ?_
      refine e_then (e_st hT (y := 143) (pc := 46) (q := (yX7_interpreterIn, cX7_interpreterIn, 7, (some .int), 7)) rfl (show aTab 143 46 = some (.bipush 8, 2, 0, 0, 0, 0, 0, 0) from rfl) (fr' := (143, 48, lv, [.int 8, .int (Int32.ofNat h)])) (M' := M) rfl) ?_
      refine e_then (e_icF hT (y := 143) (pc := 48) (q := (yX7_interpreterIn, cX7_interpreterIn, 7, (some .int), 7)) rfl (show aTab 143 48 = some (.if_icmp .ge 43, 3, 0, 0, 0, 0, 0, 0) from rfl) rfl (t := 91) rfl (cdF (by show ¬ _ ≤ _; omega))) ?_
      refine e_then (e_al1 hT (y := 143) (pc := 51) (q := (yX7_interpreterIn, cX7_interpreterIn, 7, (some .int), 7)) rfl (show aTab 143 51 = some (.aload_n 0, 1, 0, 0, 0, 0, 0, 0) from rfl) rfl h0) ?_
      refine e_then (e_il2 hT (y := 143) (pc := 52) (q := (yX7_interpreterIn, cX7_interpreterIn, 7, (some .int), 7)) rfl (show aTab 143 52 = some (.iload 5, 2, 0, 0, 0, 0, 0, 0) from rfl) rfl h5) ?_
      refine e_then (e_il1 hT (y := 143) (pc := 54) (q := (yX7_interpreterIn, cX7_interpreterIn, 7, (some .int), 7)) rfl (show aTab 143 54 = some (.iload_n 3, 1, 0, 0, 0, 0, 0, 0) from rfl) rfl h3) ?_
      refine e_then (e_il2 hT (y := 143) (pc := 55) (q := (yX7_interpreterIn, cX7_interpreterIn, 7, (some .int), 7)) rfl (show aTab 143 55 = some (.iload 4, 2, 0, 0, 0, 0, 0, 0) from rfl) rfl h4) ?_
      refine e_then (e_call hT (y := 143) (pc := 57) (q := (yX7_interpreterIn, cX7_interpreterIn, 7, (some .int), 7)) rfl (show aTab 143 57 = some (.invokevirtual 66, 3, 1, 148, 0, 3, 5, 7) from rfl) rfl ⟨by decide, Nat.le_of_ble_eq_true rfl⟩ (ob_at hM (rfl : tTy 40 = some (.inr (7, _)))).choose_spec (Nat.le_of_ble_eq_true rfl) (Nat.le_of_ble_eq_true rfl) ⟨by decide, by decide⟩ q1) ?_
      refine e_then (e_is2 hT (y := 143) (pc := 60) (q := (yX7_interpreterIn, cX7_interpreterIn, 7, (some .int), 7)) rfl (show aTab 143 60 = some (.istore 6, 2, 0, 0, 0, 0, 0, 0) from rfl) ⟨rfl, by decide⟩) ?_
      refine e_then (e_il2 hT (y := 143) (pc := 62) (q := (yX7_interpreterIn, cX7_interpreterIn, 7, (some .int), 7)) rfl (show aTab 143 62 = some (.iload 6, 2, 0, 0, 0, 0, 0, 0) from rfl) rfl (mlg_eq 6 _ _)) ?_
      refine e_then (e_il1 hT (y := 143) (pc := 64) (q := (yX7_interpreterIn, cX7_interpreterIn, 7, (some .int), 7)) rfl (show aTab 143 64 = some (.iload_n 3, 1, 0, 0, 0, 0, 0, 0) from rfl) rfl (mlg_i h3 (by decide))) ?_
      refine e_then (e_icT hT (y := 143) (pc := 65) (q := (yX7_interpreterIn, cX7_interpreterIn, 7, (some .int), 7)) rfl (show aTab 143 65 = some (.if_icmp .ne 14, 3, 0, 0, 0, 0, 0, 0) from rfl) rfl (t := 79) rfl (cdT (by show ¬ _ = _; omega))) ?_
      refine e_then (e_st hT (y := 143) (pc := 79) (q := (yX7_interpreterIn, cX7_interpreterIn, 7, (some .int), 7)) rfl (show aTab 143 79 = some (.iconst 0, 1, 0, 0, 0, 0, 0, 0) from rfl) (fr' := (143, 80, (mlp 6 (.int (Int32.ofNat w)) lv), [.int 0])) (M' := M) rfl) ?_
      refine e_then (e_is2 hT (y := 143) (pc := 80) (q := (yX7_interpreterIn, cX7_interpreterIn, 7, (some .int), 7)) rfl (show aTab 143 80 = some (.istore 4, 2, 0, 0, 0, 0, 0, 0) from rfl) ⟨rfl, by decide⟩) ?_
      refine e_then (e_il2 hT (y := 143) (pc := 82) (q := (yX7_interpreterIn, cX7_interpreterIn, 7, (some .int), 7)) rfl (show aTab 143 82 = some (.iload 6, 2, 0, 0, 0, 0, 0, 0) from rfl) rfl (mlg_i (mlg_eq 6 _ _) (by decide))) ?_
      refine e_then (e_is1 hT (y := 143) (pc := 84) (q := (yX7_interpreterIn, cX7_interpreterIn, 7, (some .int), 7)) rfl (show aTab 143 84 = some (.istore_n 3, 1, 0, 0, 0, 0, 0, 0) from rfl) ⟨rfl, by decide⟩) ?_
      refine e_then (e_ii hT (y := 143) (pc := 85) (q := (yX7_interpreterIn, cX7_interpreterIn, 7, (some .int), 7)) rfl (show aTab 143 85 = some (.iinc 5 1, 3, 0, 0, 0, 0, 0, 0) from rfl) ⟨rfl, by decide⟩ (mlg_i (mlg_i (mlg_i h5 (by decide)) (by decide)) (by decide))) ?_
      refine e_then (e_st hT (y := 143) (pc := 88) (q := (yX7_interpreterIn, cX7_interpreterIn, 7, (some .int), 7)) rfl (show aTab 143 88 = some (.goto (-50), 3, 0, 0, 0, 0, 0, 0) from rfl) (fr' := (143, 38, (mlp 5 (.int ((Int32.ofNat h) + Int32.ofInt 1)) (mlp 3 (.int (Int32.ofNat w)) (mlp 4 (.int 0) (mlp 6 (.int (Int32.ofNat w)) lv)))), [])) (M' := M) rfl) ?_
      rw [os1 (by omega)]
      exact ih _ (by omega) (mlg_r (mlg_r (mlg_r (mlg_r h0 (by decide)) (by decide)) (by decide)) (by decide)) (mlg_i (mlg_i (mlg_i (mlg_i h1 (by decide)) (by decide)) (by decide)) (by decide)) (mlg_i (mlg_i (mlg_i (mlg_i h2 (by decide)) (by decide)) (by decide)) (by decide)) (mlg_i (mlg_eq 3 _ _) (by decide)) (by rw [s2']; exact (mlg_i (mlg_i (mlg_eq 4 _ _) (by decide)) (by decide))) (mlg_eq 5 _ _)
def shOk (a b : Int32) : Prop := (1 ≤ a.toInt ∧ a.toInt ≤ 8) ∧ (0 ≤ b.toInt ∧ b.toInt ≤ a.toInt - 1)
theorem xin_run (hT : aTabOk) {M : mHe} (hM : yTy M) {g : Nat → Nat → Int32} (hg : rdI M = g) {N : Nat} (hN : g 40 0 = Int32.ofNat N) (hN6 : N ≤ 6) {a b : Int32} {d : Nat} (hd : 60 ≤ d) : ∃ K M' r, mRun none K d (143, 0, lv_args 0 [.ref 49, .int a, .int b], []) M = some (some (.int r), M') ∧ yTy M' ∧ (∀ c k, c ≠ 43 → rdI M' c k = g c k) ∧ (shOk a b → r = shA (xHr g) N a.toInt.toNat b.toInt.toNat) ∧ (¬ shOk a b → r = -1000000001) := by
  have e1 : (1 : Int32).toInt = 1 := rfl
  obtain ⟨K1, q1⟩ := within_i hT (M := M) (v := a) (l := 1) (h := 8) (d := 59) (by decide)
  obtain ⟨K2, q2⟩ := within_i hT (M := M) (v := b) (l := 0) (h := a - 1) (d := 59) (by decide)
  rw [show (1 : Int32).toInt = 1 from rfl, show (8 : Int32).toInt = 8 from rfl] at q1
  rw [show (0 : Int32).toInt = 0 from rfl] at q2
  have go : mEv none 60 (143, 0, lv_args 0 [.ref 49, .int a, .int b], []) M (fun r M' => yTy M' ∧ (∀ c k, c ≠ 43 → rdI M' c k = g c k) ∧ ∃ x, r = some (.int x) ∧ (shOk a b → x = shA (xHr g) N a.toInt.toNat b.toInt.toNat) ∧ (¬ shOk a b → x = -1000000001)) := by
    by_cases c1 : 1 ≤ a.toInt ∧ a.toInt ≤ 8
    · have ha1 : (a - 1).toInt = a.toInt - 1 := by rw [i32_sub (by rw [e1]; omega) (by rw [e1]; omega), e1]
      rw [gB_t c1] at q1
      rw [ha1] at q2
      by_cases c2 : 0 ≤ b.toInt ∧ b.toInt ≤ a.toInt - 1
      · rw [gB_t c2] at q2
        obtain ⟨n, hn⟩ : ∃ n : Nat, (n : Int) = a.toInt := ⟨a.toInt.toNat, by omega⟩
        obtain ⟨u, hu⟩ : ∃ u : Nat, (u : Int) = b.toInt := ⟨b.toInt.toNat, by omega⟩
        have ha : a = Int32.ofNat n := i32eq (by rw [i32n (by omega)]; omega)
        have hb : b = Int32.ofNat u := i32eq (by rw [i32n (by omega)]; omega)
        have hok : shOk a b := ⟨c1, c2⟩
        have en : a.toInt.toNat = n := by omega
        have eu : b.toInt.toNat = u := by omega
        rw [en, eu]
        obtain ⟨K3, M2, q3, t2, hB⟩ := xwe_run hT hM hg hN hN6 (n := n) (by omega) (d := 59) (by decide)
        rw [ha] at q1 q2 ⊢
        rw [hb] at q2 ⊢
        refine e_then (e_il1 hT (y := 143) (pc := 0) (q := (yX7_interpreterIn, cX7_interpreterIn, 7, (some .int), 7)) rfl (show aTab 143 0 = some (.iload_n 1, 1, 0, 0, 0, 0, 0, 0) from rfl) rfl rfl) ?_
        refine e_then (e_st hT (y := 143) (pc := 1) (q := (yX7_interpreterIn, cX7_interpreterIn, 7, (some .int), 7)) rfl (show aTab 143 1 = some (.iconst 1, 1, 0, 0, 0, 0, 0, 0) from rfl) (fr' := (143, 2, (lv_args 0 [.ref 49, .int (Int32.ofNat n), .int (Int32.ofNat u)]), [.int 1, .int (Int32.ofNat n)])) (M' := M) rfl) ?_
        refine e_then (e_st hT (y := 143) (pc := 2) (q := (yX7_interpreterIn, cX7_interpreterIn, 7, (some .int), 7)) rfl (show aTab 143 2 = some (.bipush 8, 2, 0, 0, 0, 0, 0, 0) from rfl) (fr' := (143, 4, (lv_args 0 [.ref 49, .int (Int32.ofNat n), .int (Int32.ofNat u)]), [.int 8, .int 1, .int (Int32.ofNat n)])) (M' := M) rfl) ?_
        refine e_then (e_callsN hT (y := 143) (pc := 4) (q := (yX7_interpreterIn, cX7_interpreterIn, 7, (some .int), 7)) rfl (show aTab 143 4 = some (.invokestatic 30, 3, 3, 234, 0, 3, 3, 11) from rfl) (Nat.le_of_ble_eq_true rfl) (Nat.le_of_ble_eq_true rfl) (Nat.le_of_ble_eq_true rfl) ⟨by decide, by decide⟩ q1) ?_
        refine e_then (e_ifF hT (y := 143) (pc := 7) (q := (yX7_interpreterIn, cX7_interpreterIn, 7, (some .int), 7)) rfl (show aTab 143 7 = some (.ifCond .eq 14, 3, 0, 0, 0, 0, 0, 0) from rfl) rfl (t := 21) rfl (cdF (by show ¬ (1 : Int32).toInt = 0; decide))) ?_
        refine e_then (e_il1 hT (y := 143) (pc := 10) (q := (yX7_interpreterIn, cX7_interpreterIn, 7, (some .int), 7)) rfl (show aTab 143 10 = some (.iload_n 2, 1, 0, 0, 0, 0, 0, 0) from rfl) rfl rfl) ?_
        refine e_then (e_st hT (y := 143) (pc := 11) (q := (yX7_interpreterIn, cX7_interpreterIn, 7, (some .int), 7)) rfl (show aTab 143 11 = some (.iconst 0, 1, 0, 0, 0, 0, 0, 0) from rfl) (fr' := (143, 12, (lv_args 0 [.ref 49, .int (Int32.ofNat n), .int (Int32.ofNat u)]), [.int 0, .int (Int32.ofNat u)])) (M' := M) rfl) ?_
        refine e_then (e_il1 hT (y := 143) (pc := 12) (q := (yX7_interpreterIn, cX7_interpreterIn, 7, (some .int), 7)) rfl (show aTab 143 12 = some (.iload_n 1, 1, 0, 0, 0, 0, 0, 0) from rfl) rfl rfl) ?_
        refine e_then (e_st hT (y := 143) (pc := 13) (q := (yX7_interpreterIn, cX7_interpreterIn, 7, (some .int), 7)) rfl (show aTab 143 13 = some (.iconst 1, 1, 0, 0, 0, 0, 0, 0) from rfl) (fr' := (143, 14, (lv_args 0 [.ref 49, .int (Int32.ofNat n), .int (Int32.ofNat u)]), [.int 1, .int (Int32.ofNat n), .int 0, .int (Int32.ofNat u)])) (M' := M) rfl) ?_
        refine e_then (e_st hT (y := 143) (pc := 14) (q := (yX7_interpreterIn, cX7_interpreterIn, 7, (some .int), 7)) rfl (show aTab 143 14 = some (.isub, 1, 0, 0, 0, 0, 0, 0) from rfl) (fr' := (143, 15, (lv_args 0 [.ref 49, .int (Int32.ofNat n), .int (Int32.ofNat u)]), [.int ((Int32.ofNat n) - 1), .int 0, .int (Int32.ofNat u)])) (M' := M) rfl) ?_
        refine e_then (e_callsN hT (y := 143) (pc := 15) (q := (yX7_interpreterIn, cX7_interpreterIn, 7, (some .int), 7)) rfl (show aTab 143 15 = some (.invokestatic 30, 3, 3, 234, 0, 3, 3, 11) from rfl) (Nat.le_of_ble_eq_true rfl) (Nat.le_of_ble_eq_true rfl) (Nat.le_of_ble_eq_true rfl) ⟨by decide, by decide⟩ q2) ?_
        refine e_then (e_ifT hT (y := 143) (pc := 18) (q := (yX7_interpreterIn, cX7_interpreterIn, 7, (some .int), 7)) rfl (show aTab 143 18 = some (.ifCond .ne 6, 3, 0, 0, 0, 0, 0, 0) from rfl) rfl (t := 24) rfl (cdT (by show ¬ (1 : Int32).toInt = 0; decide))) ?_
        refine e_then (e_al1 hT (y := 143) (pc := 24) (q := (yX7_interpreterIn, cX7_interpreterIn, 7, (some .int), 7)) rfl (show aTab 143 24 = some (.aload_n 0, 1, 0, 0, 0, 0, 0, 0) from rfl) rfl rfl) ?_
        refine e_then (e_il1 hT (y := 143) (pc := 25) (q := (yX7_interpreterIn, cX7_interpreterIn, 7, (some .int), 7)) rfl (show aTab 143 25 = some (.iload_n 1, 1, 0, 0, 0, 0, 0, 0) from rfl) rfl rfl) ?_
        refine e_then (e_call hT (y := 143) (pc := 26) (q := (yX7_interpreterIn, cX7_interpreterIn, 7, (some .int), 7)) rfl (show aTab 143 26 = some (.invokevirtual 58, 3, 1, 144, 0, 1, 4, 7) from rfl) rfl ⟨by decide, Nat.le_of_ble_eq_true rfl⟩ (ob_at hM (rfl : tTy 40 = some (.inr (7, _)))).choose_spec (Nat.le_of_ble_eq_true rfl) (Nat.le_of_ble_eq_true rfl) ⟨by decide, by decide⟩ q3) ?_
        refine e_then (e_st hT (y := 143) (pc := 29) (q := (yX7_interpreterIn, cX7_interpreterIn, 7, (some .int), 7)) rfl (show aTab 143 29 = some (.bipush 6, 2, 0, 0, 0, 0, 0, 0) from rfl) (fr' := (143, 31, (lv_args 0 [.ref 49, .int (Int32.ofNat n), .int (Int32.ofNat u)]), [.int 6])) (M' := M2) rfl) ?_
        refine e_then (e_is1 hT (y := 143) (pc := 31) (q := (yX7_interpreterIn, cX7_interpreterIn, 7, (some .int), 7)) rfl (show aTab 143 31 = some (.istore_n 3, 1, 0, 0, 0, 0, 0, 0) from rfl) ⟨rfl, by decide⟩) ?_
        refine e_then (e_st hT (y := 143) (pc := 32) (q := (yX7_interpreterIn, cX7_interpreterIn, 7, (some .int), 7)) rfl (show aTab 143 32 = some (.iconst 0, 1, 0, 0, 0, 0, 0, 0) from rfl) (fr' := (143, 33, (mlp 3 (.int 6) (lv_args 0 [.ref 49, .int (Int32.ofNat n), .int (Int32.ofNat u)])), [.int 0])) (M' := M2) rfl) ?_
        refine e_then (e_is2 hT (y := 143) (pc := 33) (q := (yX7_interpreterIn, cX7_interpreterIn, 7, (some .int), 7)) rfl (show aTab 143 33 = some (.istore 4, 2, 0, 0, 0, 0, 0, 0) from rfl) ⟨rfl, by decide⟩) ?_
        refine e_then (e_st hT (y := 143) (pc := 35) (q := (yX7_interpreterIn, cX7_interpreterIn, 7, (some .int), 7)) rfl (show aTab 143 35 = some (.iconst 0, 1, 0, 0, 0, 0, 0, 0) from rfl) (fr' := (143, 36, (mlp 4 (.int 0) (mlp 3 (.int 6) (lv_args 0 [.ref 49, .int (Int32.ofNat n), .int (Int32.ofNat u)]))), [.int 0])) (M' := M2) rfl) ?_
        refine e_then (e_is2 hT (y := 143) (pc := 36) (q := (yX7_interpreterIn, cX7_interpreterIn, 7, (some .int), 7)) rfl (show aTab 143 36 = some (.istore 5, 2, 0, 0, 0, 0, 0, 0) from rfl) ⟨rfl, by decide⟩) ?_
        obtain ⟨K4, r4, M4, q4, rfl, rfl⟩ := xin_loop hT t2 (n := n) (u := u) hN hN6 (by omega) (by omega) hB (u + 1) 0 (mlp 5 (.int 0) (mlp 4 (.int 0) (mlp 3 (.int 6) (lv_args 0 [.ref 49, .int (Int32.ofNat n), .int (Int32.ofNat u)])))) (by omega) (mlg_r (mlg_r (mlg_r rfl (by decide)) (by decide)) (by decide)) (mlg_i (mlg_i (mlg_i rfl (by decide)) (by decide)) (by decide)) (mlg_i (mlg_i (mlg_i rfl (by decide)) (by decide)) (by decide)) (mlg_i (mlg_i (mlg_eq 3 _ _) (by decide)) (by decide)) (mlg_i (mlg_eq 4 _ _) (by decide)) (mlg_eq 5 _ _)
        refine ⟨K4, _, _, mRun_dm q4 (by decide), t2, hB.1, _, rfl, fun _ => rfl, fun z => absurd hok (by rw [ha, hb]; exact z)⟩
      · rw [gB_f c2] at q2
        refine e_then (e_il1 hT (y := 143) (pc := 0) (q := (yX7_interpreterIn, cX7_interpreterIn, 7, (some .int), 7)) rfl (show aTab 143 0 = some (.iload_n 1, 1, 0, 0, 0, 0, 0, 0) from rfl) rfl rfl) ?_
        refine e_then (e_st hT (y := 143) (pc := 1) (q := (yX7_interpreterIn, cX7_interpreterIn, 7, (some .int), 7)) rfl (show aTab 143 1 = some (.iconst 1, 1, 0, 0, 0, 0, 0, 0) from rfl) (fr' := (143, 2, (lv_args 0 [.ref 49, .int a, .int b]), [.int 1, .int a])) (M' := M) rfl) ?_
        refine e_then (e_st hT (y := 143) (pc := 2) (q := (yX7_interpreterIn, cX7_interpreterIn, 7, (some .int), 7)) rfl (show aTab 143 2 = some (.bipush 8, 2, 0, 0, 0, 0, 0, 0) from rfl) (fr' := (143, 4, (lv_args 0 [.ref 49, .int a, .int b]), [.int 8, .int 1, .int a])) (M' := M) rfl) ?_
        refine e_then (e_callsN hT (y := 143) (pc := 4) (q := (yX7_interpreterIn, cX7_interpreterIn, 7, (some .int), 7)) rfl (show aTab 143 4 = some (.invokestatic 30, 3, 3, 234, 0, 3, 3, 11) from rfl) (Nat.le_of_ble_eq_true rfl) (Nat.le_of_ble_eq_true rfl) (Nat.le_of_ble_eq_true rfl) ⟨by decide, by decide⟩ q1) ?_
        refine e_then (e_ifF hT (y := 143) (pc := 7) (q := (yX7_interpreterIn, cX7_interpreterIn, 7, (some .int), 7)) rfl (show aTab 143 7 = some (.ifCond .eq 14, 3, 0, 0, 0, 0, 0, 0) from rfl) rfl (t := 21) rfl (cdF (by show ¬ (1 : Int32).toInt = 0; decide))) ?_
        refine e_then (e_il1 hT (y := 143) (pc := 10) (q := (yX7_interpreterIn, cX7_interpreterIn, 7, (some .int), 7)) rfl (show aTab 143 10 = some (.iload_n 2, 1, 0, 0, 0, 0, 0, 0) from rfl) rfl rfl) ?_
        refine e_then (e_st hT (y := 143) (pc := 11) (q := (yX7_interpreterIn, cX7_interpreterIn, 7, (some .int), 7)) rfl (show aTab 143 11 = some (.iconst 0, 1, 0, 0, 0, 0, 0, 0) from rfl) (fr' := (143, 12, (lv_args 0 [.ref 49, .int a, .int b]), [.int 0, .int b])) (M' := M) rfl) ?_
        refine e_then (e_il1 hT (y := 143) (pc := 12) (q := (yX7_interpreterIn, cX7_interpreterIn, 7, (some .int), 7)) rfl (show aTab 143 12 = some (.iload_n 1, 1, 0, 0, 0, 0, 0, 0) from rfl) rfl rfl) ?_
        refine e_then (e_st hT (y := 143) (pc := 13) (q := (yX7_interpreterIn, cX7_interpreterIn, 7, (some .int), 7)) rfl (show aTab 143 13 = some (.iconst 1, 1, 0, 0, 0, 0, 0, 0) from rfl) (fr' := (143, 14, (lv_args 0 [.ref 49, .int a, .int b]), [.int 1, .int a, .int 0, .int b])) (M' := M) rfl) ?_
        refine e_then (e_st hT (y := 143) (pc := 14) (q := (yX7_interpreterIn, cX7_interpreterIn, 7, (some .int), 7)) rfl (show aTab 143 14 = some (.isub, 1, 0, 0, 0, 0, 0, 0) from rfl) (fr' := (143, 15, (lv_args 0 [.ref 49, .int a, .int b]), [.int (a - 1), .int 0, .int b])) (M' := M) rfl) ?_
        refine e_then (e_callsN hT (y := 143) (pc := 15) (q := (yX7_interpreterIn, cX7_interpreterIn, 7, (some .int), 7)) rfl (show aTab 143 15 = some (.invokestatic 30, 3, 3, 234, 0, 3, 3, 11) from rfl) (Nat.le_of_ble_eq_true rfl) (Nat.le_of_ble_eq_true rfl) (Nat.le_of_ble_eq_true rfl) ⟨by decide, by decide⟩ q2) ?_
        refine e_then (e_ifF hT (y := 143) (pc := 18) (q := (yX7_interpreterIn, cX7_interpreterIn, 7, (some .int), 7)) rfl (show aTab 143 18 = some (.ifCond .ne 6, 3, 0, 0, 0, 0, 0, 0) from rfl) rfl (t := 24) rfl (cdF (by show ¬ ¬ (0 : Int32).toInt = 0; decide))) ?_
        refine e_then (e_st hT (y := 143) (pc := 21) (q := (yX7_interpreterIn, cX7_interpreterIn, 7, (some .int), 7)) rfl (show aTab 143 21 = some (.ldc 47, 2, 7, 0, (-1000000001), 0, 0, 0) from rfl) (fr' := (143, 23, (lv_args 0 [.ref 49, .int a, .int b]), [.int (-1000000001)])) (M' := M) rfl) ?_
        exact e_fin (e_iret hT (y := 143) (pc := 23) (q := (yX7_interpreterIn, cX7_interpreterIn, 7, (some .int), 7)) rfl (show aTab 143 23 = some (.ireturn, 1, 0, 0, 0, 0, 0, 0) from rfl) ⟨rfl, rfl⟩) ⟨hM, fun c k _ => by rw [hg], _, rfl, fun z => absurd z.2 c2, fun _ => rfl⟩
    · rw [gB_f c1] at q1
      refine e_then (e_il1 hT (y := 143) (pc := 0) (q := (yX7_interpreterIn, cX7_interpreterIn, 7, (some .int), 7)) rfl (show aTab 143 0 = some (.iload_n 1, 1, 0, 0, 0, 0, 0, 0) from rfl) rfl rfl) ?_
      refine e_then (e_st hT (y := 143) (pc := 1) (q := (yX7_interpreterIn, cX7_interpreterIn, 7, (some .int), 7)) rfl (show aTab 143 1 = some (.iconst 1, 1, 0, 0, 0, 0, 0, 0) from rfl) (fr' := (143, 2, (lv_args 0 [.ref 49, .int a, .int b]), [.int 1, .int a])) (M' := M) rfl) ?_
      refine e_then (e_st hT (y := 143) (pc := 2) (q := (yX7_interpreterIn, cX7_interpreterIn, 7, (some .int), 7)) rfl (show aTab 143 2 = some (.bipush 8, 2, 0, 0, 0, 0, 0, 0) from rfl) (fr' := (143, 4, (lv_args 0 [.ref 49, .int a, .int b]), [.int 8, .int 1, .int a])) (M' := M) rfl) ?_
      refine e_then (e_callsN hT (y := 143) (pc := 4) (q := (yX7_interpreterIn, cX7_interpreterIn, 7, (some .int), 7)) rfl (show aTab 143 4 = some (.invokestatic 30, 3, 3, 234, 0, 3, 3, 11) from rfl) (Nat.le_of_ble_eq_true rfl) (Nat.le_of_ble_eq_true rfl) (Nat.le_of_ble_eq_true rfl) ⟨by decide, by decide⟩ q1) ?_
      refine e_then (e_ifT hT (y := 143) (pc := 7) (q := (yX7_interpreterIn, cX7_interpreterIn, 7, (some .int), 7)) rfl (show aTab 143 7 = some (.ifCond .eq 14, 3, 0, 0, 0, 0, 0, 0) from rfl) rfl (t := 21) rfl (cdT (by show (0 : Int32).toInt = 0; rfl))) ?_
      refine e_then (e_st hT (y := 143) (pc := 21) (q := (yX7_interpreterIn, cX7_interpreterIn, 7, (some .int), 7)) rfl (show aTab 143 21 = some (.ldc 47, 2, 7, 0, (-1000000001), 0, 0, 0) from rfl) (fr' := (143, 23, (lv_args 0 [.ref 49, .int a, .int b]), [.int (-1000000001)])) (M' := M) rfl) ?_
      exact e_fin (e_iret hT (y := 143) (pc := 23) (q := (yX7_interpreterIn, cX7_interpreterIn, 7, (some .int), 7)) rfl (show aTab 143 23 = some (.ireturn, 1, 0, 0, 0, 0, 0, 0) from rfl) ⟨rfl, rfl⟩) ⟨hM, fun c k _ => by rw [hg], _, rfl, fun z => absurd z.1 c1, fun _ => rfl⟩
  obtain ⟨K, r, M', q, q2, q3, x, rfl, q4, q5⟩ := go
  exact ⟨K, M', x, mRun_dm q hd, q2, q3, q4, q5⟩
theorem xshift_run (hT : aTabOk) {M : mHe} (hM : yTy M) {g : Nat → Nat → Int32} (hg : rdI M = g) {N : Nat} (hN : g 40 0 = Int32.ofNat N) (hN6 : N ≤ 6) {a b : Int32} {d : Nat} (hd : 70 ≤ d) : ∃ K M' r, mRun none K d (225, 0, lv_args 0 [.ref 9, .int a, .int b], []) M = some (some (.int r), M') ∧ yTy M' ∧ (∀ c k, c ≠ 43 → rdI M' c k = g c k) ∧ (shOk a b → r = shA (xHr g) N a.toInt.toNat b.toInt.toNat) ∧ (¬ shOk a b → r = -1000000001) := by
  obtain ⟨K1, M1, r1, q1, t1, f1, e1, e2⟩ := xin_run hT hM hg hN hN6 (a := a) (b := b) (d := 69) (by decide)
  have go : mEv none 70 (225, 0, lv_args 0 [.ref 9, .int a, .int b], []) M (fun r M' => r = some (.int r1) ∧ M' = M1) := by
    refine e_then (e_al1 hT (y := 225) (pc := 0) (q := (yX11_shift, cX11_shift, 3, (some .int), 11)) rfl (show aTab 225 0 = some (.aload_n 0, 1, 0, 0, 0, 0, 0, 0) from rfl) rfl rfl) ?_
    refine e_then (e_getR hT (y := 225) (pc := 1) (q := (yX11_shift, cX11_shift, 3, (some .int), 11)) rfl (show aTab 225 1 = some (.getfield 12, 3, 0, 11, 0, 0, 0, 0) from rfl) rfl (by decide) (by decide) hM rfl rfl) ?_
    refine e_then (e_getR hT (y := 225) (pc := 4) (q := (yX11_shift, cX11_shift, 3, (some .int), 11)) rfl (show aTab 225 4 = some (.getfield 220, 3, 0, 1, 8, 0, 0, 0) from rfl) rfl (by decide) (by decide) hM rfl rfl) ?_
    refine e_then (e_il1 hT (y := 225) (pc := 7) (q := (yX11_shift, cX11_shift, 3, (some .int), 11)) rfl (show aTab 225 7 = some (.iload_n 1, 1, 0, 0, 0, 0, 0, 0) from rfl) rfl rfl) ?_
    refine e_then (e_il1 hT (y := 225) (pc := 8) (q := (yX11_shift, cX11_shift, 3, (some .int), 11)) rfl (show aTab 225 8 = some (.iload_n 2, 1, 0, 0, 0, 0, 0, 0) from rfl) rfl rfl) ?_
    refine e_then (e_call hT (y := 225) (pc := 9) (q := (yX11_shift, cX11_shift, 3, (some .int), 11)) rfl (show aTab 225 9 = some (.invokevirtual 237, 3, 1, 143, 0, 2, 7, 7) from rfl) rfl ⟨by decide, Nat.le_of_ble_eq_true rfl⟩ (ob_at hM (rfl : tTy 40 = some (.inr (7, _)))).choose_spec (Nat.le_of_ble_eq_true rfl) (Nat.le_of_ble_eq_true rfl) ⟨by decide, by decide⟩ q1) ?_
    exact e_fin (e_iret hT (y := 225) (pc := 12) (q := (yX11_shift, cX11_shift, 3, (some .int), 11)) rfl (show aTab 225 12 = some (.ireturn, 1, 0, 0, 0, 0, 0, 0) from rfl) ⟨rfl, rfl⟩) ⟨rfl, rfl⟩
  obtain ⟨K, r, M', q, rfl, rfl⟩ := go
  exact ⟨K, M', r1, mRun_dm q hd, t1, f1, e1, e2⟩
