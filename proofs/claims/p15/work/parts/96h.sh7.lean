/-! A PAPER MORE THERE -/
def rkd (g : Nat → Nat → Int32) : Nat → Int32 := fun p => g 120 (160 + 10 * p)
theorem rkd_run (hT : aTabOk) {M : mHe} (hM : yTy M) {g : Nat → Nat → Int32} (hg : rdI M = g) {m : Nat} (hm : m < 40) {d : Nat} (hd : 10 ≤ d) : ∃ K, mRun none K d (253, 0, lv_args 0 [.ref 128, .int (Int32.ofNat m)], []) M = some (some (.int (rkd g m)), M) := by
  obtain ⟨K1, q1⟩ := rpa_run hT (M := M) (m := m) (by omega) (d := 9) (by decide)
  have go : mEv none 10 (253, 0, lv_args 0 [.ref 128, .int (Int32.ofNat m)], []) M (fun r M' => r = some (.int (rkd g m)) ∧ M' = M) := by
    refine e_then (e_al1 hT (y := 253) (pc := 0) (q := (yX12_kindOf, cX12_kindOf, 2, (some .int), 12)) rfl (show aTab 253 0 = some (.aload_n 0, 1, 0, 0, 0, 0, 0, 0) from rfl) rfl rfl) ?_
    refine e_then (e_getR hT (y := 253) (pc := 1) (q := (yX12_kindOf, cX12_kindOf, 2, (some .int), 12)) rfl (show aTab 253 1 = some (.getfield 7, 3, 0, 12, 0, 0, 0, 0) from rfl) rfl (by decide) (by decide) hM rfl rfl) ?_
    refine e_then (e_al1 hT (y := 253) (pc := 4) (q := (yX12_kindOf, cX12_kindOf, 2, (some .int), 12)) rfl (show aTab 253 4 = some (.aload_n 0, 1, 0, 0, 0, 0, 0, 0) from rfl) rfl rfl) ?_
    refine e_then (e_il1 hT (y := 253) (pc := 5) (q := (yX12_kindOf, cX12_kindOf, 2, (some .int), 12)) rfl (show aTab 253 5 = some (.iload_n 1, 1, 0, 0, 0, 0, 0, 0) from rfl) rfl rfl) ?_
    refine e_then (e_call hT (y := 253) (pc := 6) (q := (yX12_kindOf, cX12_kindOf, 2, (some .int), 12)) rfl (show aTab 253 6 = some (.invokevirtual 73, 3, 1, 246, 0, 1, 2, 12) from rfl) rfl ⟨by decide, Nat.le_of_ble_eq_true rfl⟩ (ob_at hM (rfl : tTy 119 = some (.inr (12, _)))).choose_spec (Nat.le_of_ble_eq_true rfl) (Nat.le_of_ble_eq_true rfl) ⟨by decide, by decide⟩ q1) ?_
    refine e_then (s_ald hT (y := 253) (pc := 9) (q := (yX12_kindOf, cX12_kindOf, 2, (some .int), 12)) rfl (show aTab 253 9 = some (.iaload, 1, 0, 0, 0, 0, 0, 0) from rfl) rfl hM hg 120 (160 + 10 * m) rfl (i32n (by omega)) (by omega)) ?_
    exact e_fin (e_iret hT (y := 253) (pc := 10) (q := (yX12_kindOf, cX12_kindOf, 2, (some .int), 12)) rfl (show aTab 253 10 = some (.ireturn, 1, 0, 0, 0, 0, 0, 0) from rfl) ⟨rfl, rfl⟩) ⟨rfl, rfl⟩
  obtain ⟨K, r, M', q, rfl, rfl⟩ := go
  exact ⟨K, mRun_dm q hd⟩
theorem ril_run (hT : aTabOk) {M : mHe} (hM : yTy M) {g : Nat → Nat → Int32} (hg : rdI M = g) {P : Nat} (hP : g 120 5 = Int32.ofNat P) (hP2 : P ≤ 40) {p : Int32} {d : Nat} (hd : 15 ≤ d) [Decidable (lnP (rkd g) P p)] : ∃ K, mRun none K d (255, 0, lv_args 0 [.ref 128, .int p], []) M = some (some (.int (gB (decide (lnP (rkd g) P p)))), M) := by
  have e1 : (1 : Int32).toInt = 1 := rfl
  obtain ⟨K1, q1⟩ := rip_run hT hM hg hP hP2 (p := p) (d := 14) (by decide)
  have go : mEv none 15 (255, 0, lv_args 0 [.ref 128, .int p], []) M (fun r M' => r = some (.int (gB (decide (lnP (rkd g) P p)))) ∧ M' = M) := by
    refine e_then (e_al1 hT (y := 255) (pc := 0) (q := (yX12_isLine, cX12_isLine, 2, (some .boolean), 12)) rfl (show aTab 255 0 = some (.aload_n 0, 1, 0, 0, 0, 0, 0, 0) from rfl) rfl rfl) ?_
    refine e_then (e_il1 hT (y := 255) (pc := 1) (q := (yX12_isLine, cX12_isLine, 2, (some .boolean), 12)) rfl (show aTab 255 1 = some (.iload_n 1, 1, 0, 0, 0, 0, 0, 0) from rfl) rfl rfl) ?_
    by_cases c1 : 0 ≤ p.toInt ∧ p.toInt < (P : Int)
    · rw [gB_t c1] at q1
      refine e_then (e_call hT (y := 255) (pc := 2) (q := (yX12_isLine, cX12_isLine, 2, (some .boolean), 12)) rfl (show aTab 255 2 = some (.invokevirtual 77, 3, 1, 249, 0, 1, 2, 12) from rfl) rfl ⟨by decide, Nat.le_of_ble_eq_true rfl⟩ (ob_at hM (rfl : tTy 119 = some (.inr (12, _)))).choose_spec (Nat.le_of_ble_eq_true rfl) (Nat.le_of_ble_eq_true rfl) ⟨by decide, by decide⟩ q1) ?_
      refine e_then (e_ifF hT (y := 255) (pc := 5) (q := (yX12_isLine, cX12_isLine, 2, (some .boolean), 12)) rfl (show aTab 255 5 = some (.ifCond .eq 16, 3, 0, 0, 0, 0, 0, 0) from rfl) rfl (t := 21) rfl (cdF (by show ¬ (_ = _); decide))) ?_
      obtain ⟨pp, hpp⟩ : ∃ n : Nat, (n : Int) = p.toInt := ⟨p.toInt.toNat, by omega⟩
      have epp : p.toInt.toNat = pp := by omega
      have hp2 : p = Int32.ofNat pp := i32eq (by rw [i32n (by omega)]; omega)
      obtain ⟨K2, q2⟩ := rkd_run hT hM hg (m := pp) (by omega) (d := 14) (by decide)
      rw [← hp2] at q2
      refine e_then (e_al1 hT (y := 255) (pc := 8) (q := (yX12_isLine, cX12_isLine, 2, (some .boolean), 12)) rfl (show aTab 255 8 = some (.aload_n 0, 1, 0, 0, 0, 0, 0, 0) from rfl) rfl rfl) ?_
      refine e_then (e_il1 hT (y := 255) (pc := 9) (q := (yX12_isLine, cX12_isLine, 2, (some .boolean), 12)) rfl (show aTab 255 9 = some (.iload_n 1, 1, 0, 0, 0, 0, 0, 0) from rfl) rfl rfl) ?_
      refine e_then (e_call hT (y := 255) (pc := 10) (q := (yX12_isLine, cX12_isLine, 2, (some .boolean), 12)) rfl (show aTab 255 10 = some (.invokevirtual 81, 3, 1, 253, 0, 1, 2, 12) from rfl) rfl ⟨by decide, Nat.le_of_ble_eq_true rfl⟩ (ob_at hM (rfl : tTy 119 = some (.inr (12, _)))).choose_spec (Nat.le_of_ble_eq_true rfl) (Nat.le_of_ble_eq_true rfl) ⟨by decide, by decide⟩ q2) ?_
      refine e_then (e_st hT (y := 255) (pc := 13) (q := (yX12_isLine, cX12_isLine, 2, (some .boolean), 12)) rfl (show aTab 255 13 = some (.iconst 1, 1, 0, 0, 0, 0, 0, 0) from rfl) (fr' := (255, 14, (lv_args 0 [.ref 128, .int p]), [.int 1, .int (rkd g pp)])) (M' := M) rfl) ?_
      by_cases c2 : (rkd g pp).toInt = 1
      · refine e_then (e_icF hT (y := 255) (pc := 14) (q := (yX12_isLine, cX12_isLine, 2, (some .boolean), 12)) rfl (show aTab 255 14 = some (.if_icmp .ne 7, 3, 0, 0, 0, 0, 0, 0) from rfl) rfl (t := 21) rfl (cdF (by show ¬ (¬ _ = _); omega))) ?_
        refine e_then (e_st hT (y := 255) (pc := 17) (q := (yX12_isLine, cX12_isLine, 2, (some .boolean), 12)) rfl (show aTab 255 17 = some (.iconst 1, 1, 0, 0, 0, 0, 0, 0) from rfl) (fr' := (255, 18, (lv_args 0 [.ref 128, .int p]), [.int 1])) (M' := M) rfl) ?_
        refine e_then (e_st hT (y := 255) (pc := 18) (q := (yX12_isLine, cX12_isLine, 2, (some .boolean), 12)) rfl (show aTab 255 18 = some (.goto 4, 3, 0, 0, 0, 0, 0, 0) from rfl) (fr' := (255, 22, (lv_args 0 [.ref 128, .int p]), [.int 1])) (M' := M) rfl) ?_
        rw [gB_t (show lnP (rkd g) P p from ⟨c1, by rw [epp]; exact c2⟩)]
        exact e_fin (e_zret hT (y := 255) (pc := 22) (q := (yX12_isLine, cX12_isLine, 2, (some .boolean), 12)) rfl (show aTab 255 22 = some (.ireturn, 1, 0, 0, 0, 0, 0, 0) from rfl) ⟨rfl, rfl⟩ (Or.inr rfl)) ⟨rfl, rfl⟩
      · refine e_then (e_icT hT (y := 255) (pc := 14) (q := (yX12_isLine, cX12_isLine, 2, (some .boolean), 12)) rfl (show aTab 255 14 = some (.if_icmp .ne 7, 3, 0, 0, 0, 0, 0, 0) from rfl) rfl (t := 21) rfl (cdT (by show ¬ _ = _; omega))) ?_
        refine e_then (e_st hT (y := 255) (pc := 21) (q := (yX12_isLine, cX12_isLine, 2, (some .boolean), 12)) rfl (show aTab 255 21 = some (.iconst 0, 1, 0, 0, 0, 0, 0, 0) from rfl) (fr' := (255, 22, (lv_args 0 [.ref 128, .int p]), [.int 0])) (M' := M) rfl) ?_
        rw [gB_f (show ¬ (lnP (rkd g) P p) from (fun z => by first | exact c1 z.1 | (have z2 := z.2; rw [epp] at z2; exact c2 z2)))]
        exact e_fin (e_zret hT (y := 255) (pc := 22) (q := (yX12_isLine, cX12_isLine, 2, (some .boolean), 12)) rfl (show aTab 255 22 = some (.ireturn, 1, 0, 0, 0, 0, 0, 0) from rfl) ⟨rfl, rfl⟩ (Or.inl rfl)) ⟨rfl, rfl⟩
    · rw [gB_f c1] at q1
      refine e_then (e_call hT (y := 255) (pc := 2) (q := (yX12_isLine, cX12_isLine, 2, (some .boolean), 12)) rfl (show aTab 255 2 = some (.invokevirtual 77, 3, 1, 249, 0, 1, 2, 12) from rfl) rfl ⟨by decide, Nat.le_of_ble_eq_true rfl⟩ (ob_at hM (rfl : tTy 119 = some (.inr (12, _)))).choose_spec (Nat.le_of_ble_eq_true rfl) (Nat.le_of_ble_eq_true rfl) ⟨by decide, by decide⟩ q1) ?_
      refine e_then (e_ifT hT (y := 255) (pc := 5) (q := (yX12_isLine, cX12_isLine, 2, (some .boolean), 12)) rfl (show aTab 255 5 = some (.ifCond .eq 16, 3, 0, 0, 0, 0, 0, 0) from rfl) rfl (t := 21) rfl (cdT (by show _ = _; decide))) ?_
      refine e_then (e_st hT (y := 255) (pc := 21) (q := (yX12_isLine, cX12_isLine, 2, (some .boolean), 12)) rfl (show aTab 255 21 = some (.iconst 0, 1, 0, 0, 0, 0, 0, 0) from rfl) (fr' := (255, 22, (lv_args 0 [.ref 128, .int p]), [.int 0])) (M' := M) rfl) ?_
      rw [gB_f (show ¬ (lnP (rkd g) P p) from (fun z => by first | exact c1 z.1 | (have z2 := z.2; rw [epp] at z2; exact c2 z2)))]
      exact e_fin (e_zret hT (y := 255) (pc := 22) (q := (yX12_isLine, cX12_isLine, 2, (some .boolean), 12)) rfl (show aTab 255 22 = some (.ireturn, 1, 0, 0, 0, 0, 0, 0) from rfl) ⟨rfl, rfl⟩ (Or.inl rfl)) ⟨rfl, rfl⟩
  obtain ⟨K, r, M', q, rfl, rfl⟩ := go
  exact ⟨K, mRun_dm q hd⟩
theorem ric_run (hT : aTabOk) {M : mHe} (hM : yTy M) {g : Nat → Nat → Int32} (hg : rdI M = g) {m : Nat} (hm : m < 40) {d : Nat} (hd : 15 ≤ d) [Decidable (2 ≤ (rkd g m).toInt ∧ (rkd g m).toInt ≤ 3)] : ∃ K, mRun none K d (256, 0, lv_args 0 [.ref 128, .int (Int32.ofNat m)], []) M = some (some (.int (gB (decide (2 ≤ (rkd g m).toInt ∧ (rkd g m).toInt ≤ 3)))), M) := by
  have e2 : (2 : Int32).toInt = 2 := rfl
  have e3 : (3 : Int32).toInt = 3 := rfl
  obtain ⟨K1, q1⟩ := rkd_run hT hM hg hm (d := 14) (by decide)
  have go : mEv none 15 (256, 0, lv_args 0 [.ref 128, .int (Int32.ofNat m)], []) M (fun r M' => r = some (.int (gB (decide (2 ≤ (rkd g m).toInt ∧ (rkd g m).toInt ≤ 3)))) ∧ M' = M) := by
    refine e_then (e_al1 hT (y := 256) (pc := 0) (q := (yX12_isChange, cX12_isChange, 2, (some .boolean), 12)) rfl (show aTab 256 0 = some (.aload_n 0, 1, 0, 0, 0, 0, 0, 0) from rfl) rfl rfl) ?_
    refine e_then (e_il1 hT (y := 256) (pc := 1) (q := (yX12_isChange, cX12_isChange, 2, (some .boolean), 12)) rfl (show aTab 256 1 = some (.iload_n 1, 1, 0, 0, 0, 0, 0, 0) from rfl) rfl rfl) ?_
    refine e_then (e_call hT (y := 256) (pc := 2) (q := (yX12_isChange, cX12_isChange, 2, (some .boolean), 12)) rfl (show aTab 256 2 = some (.invokevirtual 81, 3, 1, 253, 0, 1, 2, 12) from rfl) rfl ⟨by decide, Nat.le_of_ble_eq_true rfl⟩ (ob_at hM (rfl : tTy 119 = some (.inr (12, _)))).choose_spec (Nat.le_of_ble_eq_true rfl) (Nat.le_of_ble_eq_true rfl) ⟨by decide, by decide⟩ q1) ?_
    refine e_then (e_st hT (y := 256) (pc := 5) (q := (yX12_isChange, cX12_isChange, 2, (some .boolean), 12)) rfl (show aTab 256 5 = some (.iconst 2, 1, 0, 0, 0, 0, 0, 0) from rfl) (fr' := (256, 6, (lv_args 0 [.ref 128, .int (Int32.ofNat m)]), [.int 2, .int (rkd g m)])) (M' := M) rfl) ?_
    by_cases c1 : (rkd g m).toInt = 2
    · refine e_then (e_icT hT (y := 256) (pc := 6) (q := (yX12_isChange, cX12_isChange, 2, (some .boolean), 12)) rfl (show aTab 256 6 = some (.if_icmp .eq 12, 3, 0, 0, 0, 0, 0, 0) from rfl) rfl (t := 18) rfl (cdT (by show _ = _; omega))) ?_
      refine e_then (e_st hT (y := 256) (pc := 18) (q := (yX12_isChange, cX12_isChange, 2, (some .boolean), 12)) rfl (show aTab 256 18 = some (.iconst 1, 1, 0, 0, 0, 0, 0, 0) from rfl) (fr' := (256, 19, (lv_args 0 [.ref 128, .int (Int32.ofNat m)]), [.int 1])) (M' := M) rfl) ?_
      refine e_then (e_st hT (y := 256) (pc := 19) (q := (yX12_isChange, cX12_isChange, 2, (some .boolean), 12)) rfl (show aTab 256 19 = some (.goto 4, 3, 0, 0, 0, 0, 0, 0) from rfl) (fr' := (256, 23, (lv_args 0 [.ref 128, .int (Int32.ofNat m)]), [.int 1])) (M' := M) rfl) ?_
      rw [gB_t (show 2 ≤ (rkd g m).toInt ∧ (rkd g m).toInt ≤ 3 from by omega)]
      exact e_fin (e_zret hT (y := 256) (pc := 23) (q := (yX12_isChange, cX12_isChange, 2, (some .boolean), 12)) rfl (show aTab 256 23 = some (.ireturn, 1, 0, 0, 0, 0, 0, 0) from rfl) ⟨rfl, rfl⟩ (Or.inr rfl)) ⟨rfl, rfl⟩
    · refine e_then (e_icF hT (y := 256) (pc := 6) (q := (yX12_isChange, cX12_isChange, 2, (some .boolean), 12)) rfl (show aTab 256 6 = some (.if_icmp .eq 12, 3, 0, 0, 0, 0, 0, 0) from rfl) rfl (t := 18) rfl (cdF (by show ¬ _ = _; omega))) ?_
      refine e_then (e_al1 hT (y := 256) (pc := 9) (q := (yX12_isChange, cX12_isChange, 2, (some .boolean), 12)) rfl (show aTab 256 9 = some (.aload_n 0, 1, 0, 0, 0, 0, 0, 0) from rfl) rfl rfl) ?_
      refine e_then (e_il1 hT (y := 256) (pc := 10) (q := (yX12_isChange, cX12_isChange, 2, (some .boolean), 12)) rfl (show aTab 256 10 = some (.iload_n 1, 1, 0, 0, 0, 0, 0, 0) from rfl) rfl rfl) ?_
      refine e_then (e_call hT (y := 256) (pc := 11) (q := (yX12_isChange, cX12_isChange, 2, (some .boolean), 12)) rfl (show aTab 256 11 = some (.invokevirtual 81, 3, 1, 253, 0, 1, 2, 12) from rfl) rfl ⟨by decide, Nat.le_of_ble_eq_true rfl⟩ (ob_at hM (rfl : tTy 119 = some (.inr (12, _)))).choose_spec (Nat.le_of_ble_eq_true rfl) (Nat.le_of_ble_eq_true rfl) ⟨by decide, by decide⟩ q1) ?_
      refine e_then (e_st hT (y := 256) (pc := 14) (q := (yX12_isChange, cX12_isChange, 2, (some .boolean), 12)) rfl (show aTab 256 14 = some (.iconst 3, 1, 0, 0, 0, 0, 0, 0) from rfl) (fr' := (256, 15, (lv_args 0 [.ref 128, .int (Int32.ofNat m)]), [.int 3, .int (rkd g m)])) (M' := M) rfl) ?_
      by_cases c2 : (rkd g m).toInt = 3
      · refine e_then (e_icF hT (y := 256) (pc := 15) (q := (yX12_isChange, cX12_isChange, 2, (some .boolean), 12)) rfl (show aTab 256 15 = some (.if_icmp .ne 7, 3, 0, 0, 0, 0, 0, 0) from rfl) rfl (t := 22) rfl (cdF (by show ¬ (¬ _ = _); omega))) ?_
        refine e_then (e_st hT (y := 256) (pc := 18) (q := (yX12_isChange, cX12_isChange, 2, (some .boolean), 12)) rfl (show aTab 256 18 = some (.iconst 1, 1, 0, 0, 0, 0, 0, 0) from rfl) (fr' := (256, 19, (lv_args 0 [.ref 128, .int (Int32.ofNat m)]), [.int 1])) (M' := M) rfl) ?_
        refine e_then (e_st hT (y := 256) (pc := 19) (q := (yX12_isChange, cX12_isChange, 2, (some .boolean), 12)) rfl (show aTab 256 19 = some (.goto 4, 3, 0, 0, 0, 0, 0, 0) from rfl) (fr' := (256, 23, (lv_args 0 [.ref 128, .int (Int32.ofNat m)]), [.int 1])) (M' := M) rfl) ?_
        rw [gB_t (show 2 ≤ (rkd g m).toInt ∧ (rkd g m).toInt ≤ 3 from by omega)]
        exact e_fin (e_zret hT (y := 256) (pc := 23) (q := (yX12_isChange, cX12_isChange, 2, (some .boolean), 12)) rfl (show aTab 256 23 = some (.ireturn, 1, 0, 0, 0, 0, 0, 0) from rfl) ⟨rfl, rfl⟩ (Or.inr rfl)) ⟨rfl, rfl⟩
      · refine e_then (e_icT hT (y := 256) (pc := 15) (q := (yX12_isChange, cX12_isChange, 2, (some .boolean), 12)) rfl (show aTab 256 15 = some (.if_icmp .ne 7, 3, 0, 0, 0, 0, 0, 0) from rfl) rfl (t := 22) rfl (cdT (by show ¬ _ = _; omega))) ?_
        refine e_then (e_st hT (y := 256) (pc := 22) (q := (yX12_isChange, cX12_isChange, 2, (some .boolean), 12)) rfl (show aTab 256 22 = some (.iconst 0, 1, 0, 0, 0, 0, 0, 0) from rfl) (fr' := (256, 23, (lv_args 0 [.ref 128, .int (Int32.ofNat m)]), [.int 0])) (M' := M) rfl) ?_
        rw [gB_f (show ¬ (2 ≤ (rkd g m).toInt ∧ (rkd g m).toInt ≤ 3) from (fun z => by omega))]
        exact e_fin (e_zret hT (y := 256) (pc := 23) (q := (yX12_isChange, cX12_isChange, 2, (some .boolean), 12)) rfl (show aTab 256 23 = some (.ireturn, 1, 0, 0, 0, 0, 0, 0) from rfl) ⟨rfl, rfl⟩ (Or.inl rfl)) ⟨rfl, rfl⟩
  obtain ⟨K, r, M', q, rfl, rfl⟩ := go
  exact ⟨K, mRun_dm q hd⟩
theorem rft_run (hT : aTabOk) {M : mHe} (hM : yTy M) {g : Nat → Nat → Int32} (hg : rdI M = g) {P : Nat} (hP : g 120 5 = Int32.ofNat P) (hP2 : P ≤ 40) {k a b : Int32} {d : Nat} (hd : 20 ≤ d) [Decidable (ftP (rkd g) P k a b)] : ∃ K, mRun none K d (269, 0, lv_args 0 [.ref 128, .int k, .int a, .int b], []) M = some (some (.int (gB (decide (ftP (rkd g) P k a b)))), M) := by
  have dL : Decidable (lnP (rkd g) P a) := Classical.propDecidable _
  have e4 : (4 : Int32).toInt = 4 := rfl
  have e9 : (9 : Int32).toInt = 9 := rfl
  have e7 : (7 : Int32).toInt = 7 := rfl
  have e8 : (8 : Int32).toInt = 8 := rfl
  obtain ⟨K1, q1⟩ := ril_run hT hM hg hP hP2 (p := a) (d := 19) (by decide)
  obtain ⟨K2, q2⟩ := isIn_i hT (M := M) (v := a) (l := Int64.ofNat 0) (h := Int64.ofInt 73) (d := 19) (by decide)
  obtain ⟨K3, q3⟩ := isIn_i hT (M := M) (v := a) (l := Int64.ofNat 0) (h := Int64.ofInt 88) (d := 19) (by decide)
  obtain ⟨K4, q4⟩ := isIn_i hT (M := M) (v := b) (l := Int64.ofNat 0) (h := Int64.ofInt 9999) (d := 19) (by decide)
  obtain ⟨K5, q5⟩ := isIn_i hT (M := M) (v := b) (l := Int64.ofInt (-9999)) (h := Int64.ofInt 9999) (d := 19) (by decide)
  obtain ⟨K6, q6⟩ := isIn_i hT (M := M) (v := b) (l := Int64.ofNat 0) (h := Int64.ofInt 69999) (d := 19) (by decide)
  obtain ⟨K7, q7⟩ := rip_run hT hM hg hP hP2 (p := b) (d := 19) (by decide)
  rw [show (Int64.ofNat 0).toInt = 0 from rfl, show (Int64.ofInt 73).toInt = 73 from rfl] at q2
  rw [show (Int64.ofNat 0).toInt = 0 from rfl, show (Int64.ofInt 88).toInt = 88 from rfl] at q3
  rw [show (Int64.ofNat 0).toInt = 0 from rfl, show (Int64.ofInt 9999).toInt = 9999 from rfl] at q4
  rw [show (Int64.ofInt (-9999)).toInt = -9999 from rfl, show (Int64.ofInt 9999).toInt = 9999 from rfl] at q5
  rw [show (Int64.ofNat 0).toInt = 0 from rfl, show (Int64.ofInt 69999).toInt = 69999 from rfl] at q6
  have go : mEv none 20 (269, 0, lv_args 0 [.ref 128, .int k, .int a, .int b], []) M (fun r M' => r = some (.int (gB (decide (ftP (rkd g) P k a b)))) ∧ M' = M) := by
    refine e_then (e_il1 hT (y := 269) (pc := 0) (q := (yX12_fits, cX12_fits, 4, (some .boolean), 12)) rfl (show aTab 269 0 = some (.iload_n 1, 1, 0, 0, 0, 0, 0, 0) from rfl) rfl rfl) ?_
    by_cases s0 : (k).toInt = 0
    · refine e_then (e_tsC hT (y := 269) (pc := 1) (q := (yX12_fits, cX12_fits, 4, (some .boolean), 12)) rfl (show aTab 269 1 = some (.tableswitch 237 0 6 #[43, 57, 95, 237, 123, 149, 175], 43, 0, 0, 0, 0, 0, 0) from rfl) s0 ⟨by decide, by decide⟩ (off := 43) rfl (t := 44) rfl) ?_
      refine e_then (e_il1 hT (y := 269) (pc := 44) (q := (yX12_fits, cX12_fits, 4, (some .boolean), 12)) rfl (show aTab 269 44 = some (.iload_n 2, 1, 0, 0, 0, 0, 0, 0) from rfl) rfl rfl) ?_
      by_cases c1 : a.toInt = 0
      · refine e_then (e_ifF hT (y := 269) (pc := 45) (q := (yX12_fits, cX12_fits, 4, (some .boolean), 12)) rfl (show aTab 269 45 = some (.ifCond .ne 11, 3, 0, 0, 0, 0, 0, 0) from rfl) rfl (t := 56) rfl (cdF (by have e0 : (0 : Int32).toInt = 0 := rfl; show ¬ (¬ _ = _); omega))) ?_
        refine e_then (e_il1 hT (y := 269) (pc := 48) (q := (yX12_fits, cX12_fits, 4, (some .boolean), 12)) rfl (show aTab 269 48 = some (.iload_n 3, 1, 0, 0, 0, 0, 0, 0) from rfl) rfl rfl) ?_
        by_cases c2 : b.toInt = 0
        · refine e_then (e_ifF hT (y := 269) (pc := 49) (q := (yX12_fits, cX12_fits, 4, (some .boolean), 12)) rfl (show aTab 269 49 = some (.ifCond .ne 7, 3, 0, 0, 0, 0, 0, 0) from rfl) rfl (t := 56) rfl (cdF (by have e0 : (0 : Int32).toInt = 0 := rfl; show ¬ (¬ _ = _); omega))) ?_
          refine e_then (e_st hT (y := 269) (pc := 52) (q := (yX12_fits, cX12_fits, 4, (some .boolean), 12)) rfl (show aTab 269 52 = some (.iconst 1, 1, 0, 0, 0, 0, 0, 0) from rfl) (fr' := (269, 53, (lv_args 0 [.ref 128, .int k, .int a, .int b]), [.int 1])) (M' := M) rfl) ?_
          refine e_then (e_st hT (y := 269) (pc := 53) (q := (yX12_fits, cX12_fits, 4, (some .boolean), 12)) rfl (show aTab 269 53 = some (.goto 4, 3, 0, 0, 0, 0, 0, 0) from rfl) (fr' := (269, 57, (lv_args 0 [.ref 128, .int k, .int a, .int b]), [.int 1])) (M' := M) rfl) ?_
          rw [gB_t ((ft_0 s0).mpr ⟨c1, c2⟩)]
          exact e_fin (e_zret hT (y := 269) (pc := 57) (q := (yX12_fits, cX12_fits, 4, (some .boolean), 12)) rfl (show aTab 269 57 = some (.ireturn, 1, 0, 0, 0, 0, 0, 0) from rfl) ⟨rfl, rfl⟩ (Or.inr rfl)) ⟨rfl, rfl⟩
        · refine e_then (e_ifT hT (y := 269) (pc := 49) (q := (yX12_fits, cX12_fits, 4, (some .boolean), 12)) rfl (show aTab 269 49 = some (.ifCond .ne 7, 3, 0, 0, 0, 0, 0, 0) from rfl) rfl (t := 56) rfl (cdT (by have e0 : (0 : Int32).toInt = 0 := rfl; show ¬ _ = _; omega))) ?_
          refine e_then (e_st hT (y := 269) (pc := 56) (q := (yX12_fits, cX12_fits, 4, (some .boolean), 12)) rfl (show aTab 269 56 = some (.iconst 0, 1, 0, 0, 0, 0, 0, 0) from rfl) (fr' := (269, 57, (lv_args 0 [.ref 128, .int k, .int a, .int b]), [.int 0])) (M' := M) rfl) ?_
          rw [gB_f (fun z => by have z := (ft_0 s0).mp z; first | exact c1 z.1 | exact c2 z.2)]
          exact e_fin (e_zret hT (y := 269) (pc := 57) (q := (yX12_fits, cX12_fits, 4, (some .boolean), 12)) rfl (show aTab 269 57 = some (.ireturn, 1, 0, 0, 0, 0, 0, 0) from rfl) ⟨rfl, rfl⟩ (Or.inl rfl)) ⟨rfl, rfl⟩
      · refine e_then (e_ifT hT (y := 269) (pc := 45) (q := (yX12_fits, cX12_fits, 4, (some .boolean), 12)) rfl (show aTab 269 45 = some (.ifCond .ne 11, 3, 0, 0, 0, 0, 0, 0) from rfl) rfl (t := 56) rfl (cdT (by have e0 : (0 : Int32).toInt = 0 := rfl; show ¬ _ = _; omega))) ?_
        refine e_then (e_st hT (y := 269) (pc := 56) (q := (yX12_fits, cX12_fits, 4, (some .boolean), 12)) rfl (show aTab 269 56 = some (.iconst 0, 1, 0, 0, 0, 0, 0, 0) from rfl) (fr' := (269, 57, (lv_args 0 [.ref 128, .int k, .int a, .int b]), [.int 0])) (M' := M) rfl) ?_
        rw [gB_f (fun z => by have z := (ft_0 s0).mp z; first | exact c1 z.1 | exact c2 z.2)]
        exact e_fin (e_zret hT (y := 269) (pc := 57) (q := (yX12_fits, cX12_fits, 4, (some .boolean), 12)) rfl (show aTab 269 57 = some (.ireturn, 1, 0, 0, 0, 0, 0, 0) from rfl) ⟨rfl, rfl⟩ (Or.inl rfl)) ⟨rfl, rfl⟩
    by_cases s1 : (k).toInt = 1
    · refine e_then (e_tsC hT (y := 269) (pc := 1) (q := (yX12_fits, cX12_fits, 4, (some .boolean), 12)) rfl (show aTab 269 1 = some (.tableswitch 237 0 6 #[43, 57, 95, 237, 123, 149, 175], 43, 0, 0, 0, 0, 0, 0) from rfl) s1 ⟨by decide, by decide⟩ (off := 57) rfl (t := 58) rfl) ?_
      refine e_then (e_il1 hT (y := 269) (pc := 58) (q := (yX12_fits, cX12_fits, 4, (some .boolean), 12)) rfl (show aTab 269 58 = some (.iload_n 2, 1, 0, 0, 0, 0, 0, 0) from rfl) rfl rfl) ?_
      refine e_then (e_st hT (y := 269) (pc := 59) (q := (yX12_fits, cX12_fits, 4, (some .boolean), 12)) rfl (show aTab 269 59 = some (.i2l, 1, 0, 0, 0, 0, 0, 0) from rfl) (fr' := (269, 60, (lv_args 0 [.ref 128, .int k, .int a, .int b]), [.long (a).toInt64])) (M' := M) rfl) ?_
      refine e_then (e_st hT (y := 269) (pc := 60) (q := (yX12_fits, cX12_fits, 4, (some .boolean), 12)) rfl (show aTab 269 60 = some (.lconst 0, 1, 0, 0, 0, 0, 0, 0) from rfl) (fr' := (269, 61, (lv_args 0 [.ref 128, .int k, .int a, .int b]), [.long (Int64.ofNat 0), .long (a).toInt64])) (M' := M) rfl) ?_
      refine e_then (e_st hT (y := 269) (pc := 61) (q := (yX12_fits, cX12_fits, 4, (some .boolean), 12)) rfl (show aTab 269 61 = some (.ldc2_w 126, 3, 8, 0, 73, 0, 0, 0) from rfl) (fr' := (269, 64, (lv_args 0 [.ref 128, .int k, .int a, .int b]), [.long (Int64.ofInt 73), .long (Int64.ofNat 0), .long (a).toInt64])) (M' := M) rfl) ?_
      by_cases c1 : 0 ≤ a.toInt ∧ a.toInt ≤ 73
      · rw [gB_t c1] at q2
        refine e_then (e_calls hT (y := 269) (pc := 64) (q := (yX12_fits, cX12_fits, 4, (some .boolean), 12)) rfl (show aTab 269 64 = some (.invokestatic 65, 3, 2, 239, 0, 3, 6, 12) from rfl) (Nat.le_of_ble_eq_true rfl) (Nat.le_of_ble_eq_true rfl) (Nat.le_of_ble_eq_true rfl) ⟨by decide, by decide⟩ q2) ?_
        refine e_then (e_ifF hT (y := 269) (pc := 67) (q := (yX12_fits, cX12_fits, 4, (some .boolean), 12)) rfl (show aTab 269 67 = some (.ifCond .eq 27, 3, 0, 0, 0, 0, 0, 0) from rfl) rfl (t := 94) rfl (cdF (by show ¬ (_ = _); decide))) ?_
        have e5 := dv10 (a := a) (by omega)
        have e6 := rm10 (a := a) (by omega)
        refine e_then (e_il1 hT (y := 269) (pc := 70) (q := (yX12_fits, cX12_fits, 4, (some .boolean), 12)) rfl (show aTab 269 70 = some (.iload_n 2, 1, 0, 0, 0, 0, 0, 0) from rfl) rfl rfl) ?_
        refine e_then (e_st hT (y := 269) (pc := 71) (q := (yX12_fits, cX12_fits, 4, (some .boolean), 12)) rfl (show aTab 269 71 = some (.bipush 10, 2, 0, 0, 0, 0, 0, 0) from rfl) (fr' := (269, 73, (lv_args 0 [.ref 128, .int k, .int a, .int b]), [.int 10, .int a])) (M' := M) rfl) ?_
        refine e_then (e_st hT (y := 269) (pc := 73) (q := (yX12_fits, cX12_fits, 4, (some .boolean), 12)) rfl (show aTab 269 73 = some (.irem, 1, 0, 0, 0, 0, 0, 0) from rfl) (fr' := (269, 74, (lv_args 0 [.ref 128, .int k, .int a, .int b]), [.int (a - a / 10 * 10)])) (M' := M) rfl) ?_
        refine e_then (e_st hT (y := 269) (pc := 74) (q := (yX12_fits, cX12_fits, 4, (some .boolean), 12)) rfl (show aTab 269 74 = some (.iconst 4, 1, 0, 0, 0, 0, 0, 0) from rfl) (fr' := (269, 75, (lv_args 0 [.ref 128, .int k, .int a, .int b]), [.int 4, .int (a - a / 10 * 10)])) (M' := M) rfl) ?_
        by_cases c2 : 4 ≤ a.toInt % 10
        · refine e_then (e_icT hT (y := 269) (pc := 75) (q := (yX12_fits, cX12_fits, 4, (some .boolean), 12)) rfl (show aTab 269 75 = some (.if_icmp .ge 19, 3, 0, 0, 0, 0, 0, 0) from rfl) rfl (t := 94) rfl (cdT (by show _ ≤ _; omega))) ?_
          refine e_then (e_st hT (y := 269) (pc := 94) (q := (yX12_fits, cX12_fits, 4, (some .boolean), 12)) rfl (show aTab 269 94 = some (.iconst 0, 1, 0, 0, 0, 0, 0, 0) from rfl) (fr' := (269, 95, (lv_args 0 [.ref 128, .int k, .int a, .int b]), [.int 0])) (M' := M) rfl) ?_
          rw [gB_f (fun z => by have z := (ft_1 s1).mp z; have z1 := z.1; unfold twP at z1; first | exact c3 z.2 | omega)]
          exact e_fin (e_zret hT (y := 269) (pc := 95) (q := (yX12_fits, cX12_fits, 4, (some .boolean), 12)) rfl (show aTab 269 95 = some (.ireturn, 1, 0, 0, 0, 0, 0, 0) from rfl) ⟨rfl, rfl⟩ (Or.inl rfl)) ⟨rfl, rfl⟩
        · refine e_then (e_icF hT (y := 269) (pc := 75) (q := (yX12_fits, cX12_fits, 4, (some .boolean), 12)) rfl (show aTab 269 75 = some (.if_icmp .ge 19, 3, 0, 0, 0, 0, 0, 0) from rfl) rfl (t := 94) rfl (cdF (by show ¬ _ ≤ _; omega))) ?_
          refine e_then (e_il1 hT (y := 269) (pc := 78) (q := (yX12_fits, cX12_fits, 4, (some .boolean), 12)) rfl (show aTab 269 78 = some (.iload_n 3, 1, 0, 0, 0, 0, 0, 0) from rfl) rfl rfl) ?_
          refine e_then (e_st hT (y := 269) (pc := 79) (q := (yX12_fits, cX12_fits, 4, (some .boolean), 12)) rfl (show aTab 269 79 = some (.i2l, 1, 0, 0, 0, 0, 0, 0) from rfl) (fr' := (269, 80, (lv_args 0 [.ref 128, .int k, .int a, .int b]), [.long (b).toInt64])) (M' := M) rfl) ?_
          refine e_then (e_st hT (y := 269) (pc := 80) (q := (yX12_fits, cX12_fits, 4, (some .boolean), 12)) rfl (show aTab 269 80 = some (.lconst 0, 1, 0, 0, 0, 0, 0, 0) from rfl) (fr' := (269, 81, (lv_args 0 [.ref 128, .int k, .int a, .int b]), [.long (Int64.ofNat 0), .long (b).toInt64])) (M' := M) rfl) ?_
          refine e_then (e_st hT (y := 269) (pc := 81) (q := (yX12_fits, cX12_fits, 4, (some .boolean), 12)) rfl (show aTab 269 81 = some (.ldc2_w 111, 3, 8, 0, 9999, 0, 0, 0) from rfl) (fr' := (269, 84, (lv_args 0 [.ref 128, .int k, .int a, .int b]), [.long (Int64.ofInt 9999), .long (Int64.ofNat 0), .long (b).toInt64])) (M' := M) rfl) ?_
          by_cases c3 : 0 ≤ b.toInt ∧ b.toInt ≤ 9999
          · rw [gB_t c3] at q4
            refine e_then (e_calls hT (y := 269) (pc := 84) (q := (yX12_fits, cX12_fits, 4, (some .boolean), 12)) rfl (show aTab 269 84 = some (.invokestatic 65, 3, 2, 239, 0, 3, 6, 12) from rfl) (Nat.le_of_ble_eq_true rfl) (Nat.le_of_ble_eq_true rfl) (Nat.le_of_ble_eq_true rfl) ⟨by decide, by decide⟩ q4) ?_
            refine e_then (e_ifF hT (y := 269) (pc := 87) (q := (yX12_fits, cX12_fits, 4, (some .boolean), 12)) rfl (show aTab 269 87 = some (.ifCond .eq 7, 3, 0, 0, 0, 0, 0, 0) from rfl) rfl (t := 94) rfl (cdF (by show ¬ (_ = _); decide))) ?_
            refine e_then (e_st hT (y := 269) (pc := 90) (q := (yX12_fits, cX12_fits, 4, (some .boolean), 12)) rfl (show aTab 269 90 = some (.iconst 1, 1, 0, 0, 0, 0, 0, 0) from rfl) (fr' := (269, 91, (lv_args 0 [.ref 128, .int k, .int a, .int b]), [.int 1])) (M' := M) rfl) ?_
            refine e_then (e_st hT (y := 269) (pc := 91) (q := (yX12_fits, cX12_fits, 4, (some .boolean), 12)) rfl (show aTab 269 91 = some (.goto 4, 3, 0, 0, 0, 0, 0, 0) from rfl) (fr' := (269, 95, (lv_args 0 [.ref 128, .int k, .int a, .int b]), [.int 1])) (M' := M) rfl) ?_
            rw [gB_t ((ft_1 s1).mpr ⟨⟨by omega, by omega, by omega⟩, c3⟩)]
            exact e_fin (e_zret hT (y := 269) (pc := 95) (q := (yX12_fits, cX12_fits, 4, (some .boolean), 12)) rfl (show aTab 269 95 = some (.ireturn, 1, 0, 0, 0, 0, 0, 0) from rfl) ⟨rfl, rfl⟩ (Or.inr rfl)) ⟨rfl, rfl⟩
          · rw [gB_f c3] at q4
            refine e_then (e_calls hT (y := 269) (pc := 84) (q := (yX12_fits, cX12_fits, 4, (some .boolean), 12)) rfl (show aTab 269 84 = some (.invokestatic 65, 3, 2, 239, 0, 3, 6, 12) from rfl) (Nat.le_of_ble_eq_true rfl) (Nat.le_of_ble_eq_true rfl) (Nat.le_of_ble_eq_true rfl) ⟨by decide, by decide⟩ q4) ?_
            refine e_then (e_ifT hT (y := 269) (pc := 87) (q := (yX12_fits, cX12_fits, 4, (some .boolean), 12)) rfl (show aTab 269 87 = some (.ifCond .eq 7, 3, 0, 0, 0, 0, 0, 0) from rfl) rfl (t := 94) rfl (cdT (by show _ = _; decide))) ?_
            refine e_then (e_st hT (y := 269) (pc := 94) (q := (yX12_fits, cX12_fits, 4, (some .boolean), 12)) rfl (show aTab 269 94 = some (.iconst 0, 1, 0, 0, 0, 0, 0, 0) from rfl) (fr' := (269, 95, (lv_args 0 [.ref 128, .int k, .int a, .int b]), [.int 0])) (M' := M) rfl) ?_
            rw [gB_f (fun z => by have z := (ft_1 s1).mp z; have z1 := z.1; unfold twP at z1; first | exact c3 z.2 | omega)]
            exact e_fin (e_zret hT (y := 269) (pc := 95) (q := (yX12_fits, cX12_fits, 4, (some .boolean), 12)) rfl (show aTab 269 95 = some (.ireturn, 1, 0, 0, 0, 0, 0, 0) from rfl) ⟨rfl, rfl⟩ (Or.inl rfl)) ⟨rfl, rfl⟩
      · rw [gB_f c1] at q2
        refine e_then (e_calls hT (y := 269) (pc := 64) (q := (yX12_fits, cX12_fits, 4, (some .boolean), 12)) rfl (show aTab 269 64 = some (.invokestatic 65, 3, 2, 239, 0, 3, 6, 12) from rfl) (Nat.le_of_ble_eq_true rfl) (Nat.le_of_ble_eq_true rfl) (Nat.le_of_ble_eq_true rfl) ⟨by decide, by decide⟩ q2) ?_
        refine e_then (e_ifT hT (y := 269) (pc := 67) (q := (yX12_fits, cX12_fits, 4, (some .boolean), 12)) rfl (show aTab 269 67 = some (.ifCond .eq 27, 3, 0, 0, 0, 0, 0, 0) from rfl) rfl (t := 94) rfl (cdT (by show _ = _; decide))) ?_
        refine e_then (e_st hT (y := 269) (pc := 94) (q := (yX12_fits, cX12_fits, 4, (some .boolean), 12)) rfl (show aTab 269 94 = some (.iconst 0, 1, 0, 0, 0, 0, 0, 0) from rfl) (fr' := (269, 95, (lv_args 0 [.ref 128, .int k, .int a, .int b]), [.int 0])) (M' := M) rfl) ?_
        rw [gB_f (fun z => by have z := (ft_1 s1).mp z; have z1 := z.1; unfold twP at z1; first | exact c3 z.2 | omega)]
        exact e_fin (e_zret hT (y := 269) (pc := 95) (q := (yX12_fits, cX12_fits, 4, (some .boolean), 12)) rfl (show aTab 269 95 = some (.ireturn, 1, 0, 0, 0, 0, 0, 0) from rfl) ⟨rfl, rfl⟩ (Or.inl rfl)) ⟨rfl, rfl⟩
    by_cases s2 : (k).toInt = 2
    · refine e_then (e_tsC hT (y := 269) (pc := 1) (q := (yX12_fits, cX12_fits, 4, (some .boolean), 12)) rfl (show aTab 269 1 = some (.tableswitch 237 0 6 #[43, 57, 95, 237, 123, 149, 175], 43, 0, 0, 0, 0, 0, 0) from rfl) s2 ⟨by decide, by decide⟩ (off := 95) rfl (t := 96) rfl) ?_
      refine e_then (e_al1 hT (y := 269) (pc := 96) (q := (yX12_fits, cX12_fits, 4, (some .boolean), 12)) rfl (show aTab 269 96 = some (.aload_n 0, 1, 0, 0, 0, 0, 0, 0) from rfl) rfl rfl) ?_
      refine e_then (e_il1 hT (y := 269) (pc := 97) (q := (yX12_fits, cX12_fits, 4, (some .boolean), 12)) rfl (show aTab 269 97 = some (.iload_n 2, 1, 0, 0, 0, 0, 0, 0) from rfl) rfl rfl) ?_
      by_cases c1 : lnP (rkd g) P a
      · rw [gB_t c1] at q1
        refine e_then (e_call hT (y := 269) (pc := 98) (q := (yX12_fits, cX12_fits, 4, (some .boolean), 12)) rfl (show aTab 269 98 = some (.invokevirtual 128, 3, 1, 255, 0, 1, 2, 12) from rfl) rfl ⟨by decide, Nat.le_of_ble_eq_true rfl⟩ (ob_at hM (rfl : tTy 119 = some (.inr (12, _)))).choose_spec (Nat.le_of_ble_eq_true rfl) (Nat.le_of_ble_eq_true rfl) ⟨by decide, by decide⟩ q1) ?_
        refine e_then (e_ifF hT (y := 269) (pc := 101) (q := (yX12_fits, cX12_fits, 4, (some .boolean), 12)) rfl (show aTab 269 101 = some (.ifCond .eq 21, 3, 0, 0, 0, 0, 0, 0) from rfl) rfl (t := 122) rfl (cdF (by show ¬ (_ = _); decide))) ?_
        refine e_then (e_il1 hT (y := 269) (pc := 104) (q := (yX12_fits, cX12_fits, 4, (some .boolean), 12)) rfl (show aTab 269 104 = some (.iload_n 3, 1, 0, 0, 0, 0, 0, 0) from rfl) rfl rfl) ?_
        refine e_then (e_st hT (y := 269) (pc := 105) (q := (yX12_fits, cX12_fits, 4, (some .boolean), 12)) rfl (show aTab 269 105 = some (.i2l, 1, 0, 0, 0, 0, 0, 0) from rfl) (fr' := (269, 106, (lv_args 0 [.ref 128, .int k, .int a, .int b]), [.long (b).toInt64])) (M' := M) rfl) ?_
        refine e_then (e_st hT (y := 269) (pc := 106) (q := (yX12_fits, cX12_fits, 4, (some .boolean), 12)) rfl (show aTab 269 106 = some (.ldc2_w 131, 3, 8, 0, (-9999), 0, 0, 0) from rfl) (fr' := (269, 109, (lv_args 0 [.ref 128, .int k, .int a, .int b]), [.long (Int64.ofInt (-9999)), .long (b).toInt64])) (M' := M) rfl) ?_
        refine e_then (e_st hT (y := 269) (pc := 109) (q := (yX12_fits, cX12_fits, 4, (some .boolean), 12)) rfl (show aTab 269 109 = some (.ldc2_w 111, 3, 8, 0, 9999, 0, 0, 0) from rfl) (fr' := (269, 112, (lv_args 0 [.ref 128, .int k, .int a, .int b]), [.long (Int64.ofInt 9999), .long (Int64.ofInt (-9999)), .long (b).toInt64])) (M' := M) rfl) ?_
        by_cases c2 : -9999 ≤ b.toInt ∧ b.toInt ≤ 9999
        · rw [gB_t c2] at q5
          refine e_then (e_calls hT (y := 269) (pc := 112) (q := (yX12_fits, cX12_fits, 4, (some .boolean), 12)) rfl (show aTab 269 112 = some (.invokestatic 65, 3, 2, 239, 0, 3, 6, 12) from rfl) (Nat.le_of_ble_eq_true rfl) (Nat.le_of_ble_eq_true rfl) (Nat.le_of_ble_eq_true rfl) ⟨by decide, by decide⟩ q5) ?_
          refine e_then (e_ifF hT (y := 269) (pc := 115) (q := (yX12_fits, cX12_fits, 4, (some .boolean), 12)) rfl (show aTab 269 115 = some (.ifCond .eq 7, 3, 0, 0, 0, 0, 0, 0) from rfl) rfl (t := 122) rfl (cdF (by show ¬ (_ = _); decide))) ?_
          refine e_then (e_st hT (y := 269) (pc := 118) (q := (yX12_fits, cX12_fits, 4, (some .boolean), 12)) rfl (show aTab 269 118 = some (.iconst 1, 1, 0, 0, 0, 0, 0, 0) from rfl) (fr' := (269, 119, (lv_args 0 [.ref 128, .int k, .int a, .int b]), [.int 1])) (M' := M) rfl) ?_
          refine e_then (e_st hT (y := 269) (pc := 119) (q := (yX12_fits, cX12_fits, 4, (some .boolean), 12)) rfl (show aTab 269 119 = some (.goto 4, 3, 0, 0, 0, 0, 0, 0) from rfl) (fr' := (269, 123, (lv_args 0 [.ref 128, .int k, .int a, .int b]), [.int 1])) (M' := M) rfl) ?_
          rw [gB_t ((ft_2 s2).mpr ⟨c1, c2⟩)]
          exact e_fin (e_zret hT (y := 269) (pc := 123) (q := (yX12_fits, cX12_fits, 4, (some .boolean), 12)) rfl (show aTab 269 123 = some (.ireturn, 1, 0, 0, 0, 0, 0, 0) from rfl) ⟨rfl, rfl⟩ (Or.inr rfl)) ⟨rfl, rfl⟩
        · rw [gB_f c2] at q5
          refine e_then (e_calls hT (y := 269) (pc := 112) (q := (yX12_fits, cX12_fits, 4, (some .boolean), 12)) rfl (show aTab 269 112 = some (.invokestatic 65, 3, 2, 239, 0, 3, 6, 12) from rfl) (Nat.le_of_ble_eq_true rfl) (Nat.le_of_ble_eq_true rfl) (Nat.le_of_ble_eq_true rfl) ⟨by decide, by decide⟩ q5) ?_
          refine e_then (e_ifT hT (y := 269) (pc := 115) (q := (yX12_fits, cX12_fits, 4, (some .boolean), 12)) rfl (show aTab 269 115 = some (.ifCond .eq 7, 3, 0, 0, 0, 0, 0, 0) from rfl) rfl (t := 122) rfl (cdT (by show _ = _; decide))) ?_
          refine e_then (e_st hT (y := 269) (pc := 122) (q := (yX12_fits, cX12_fits, 4, (some .boolean), 12)) rfl (show aTab 269 122 = some (.iconst 0, 1, 0, 0, 0, 0, 0, 0) from rfl) (fr' := (269, 123, (lv_args 0 [.ref 128, .int k, .int a, .int b]), [.int 0])) (M' := M) rfl) ?_
          rw [gB_f (fun z => by have z := (ft_2 s2).mp z; first | exact c1 z.1 | exact c2 z.2)]
          exact e_fin (e_zret hT (y := 269) (pc := 123) (q := (yX12_fits, cX12_fits, 4, (some .boolean), 12)) rfl (show aTab 269 123 = some (.ireturn, 1, 0, 0, 0, 0, 0, 0) from rfl) ⟨rfl, rfl⟩ (Or.inl rfl)) ⟨rfl, rfl⟩
      · rw [gB_f c1] at q1
        refine e_then (e_call hT (y := 269) (pc := 98) (q := (yX12_fits, cX12_fits, 4, (some .boolean), 12)) rfl (show aTab 269 98 = some (.invokevirtual 128, 3, 1, 255, 0, 1, 2, 12) from rfl) rfl ⟨by decide, Nat.le_of_ble_eq_true rfl⟩ (ob_at hM (rfl : tTy 119 = some (.inr (12, _)))).choose_spec (Nat.le_of_ble_eq_true rfl) (Nat.le_of_ble_eq_true rfl) ⟨by decide, by decide⟩ q1) ?_
        refine e_then (e_ifT hT (y := 269) (pc := 101) (q := (yX12_fits, cX12_fits, 4, (some .boolean), 12)) rfl (show aTab 269 101 = some (.ifCond .eq 21, 3, 0, 0, 0, 0, 0, 0) from rfl) rfl (t := 122) rfl (cdT (by show _ = _; decide))) ?_
        refine e_then (e_st hT (y := 269) (pc := 122) (q := (yX12_fits, cX12_fits, 4, (some .boolean), 12)) rfl (show aTab 269 122 = some (.iconst 0, 1, 0, 0, 0, 0, 0, 0) from rfl) (fr' := (269, 123, (lv_args 0 [.ref 128, .int k, .int a, .int b]), [.int 0])) (M' := M) rfl) ?_
        rw [gB_f (fun z => by have z := (ft_2 s2).mp z; first | exact c1 z.1 | exact c2 z.2)]
        exact e_fin (e_zret hT (y := 269) (pc := 123) (q := (yX12_fits, cX12_fits, 4, (some .boolean), 12)) rfl (show aTab 269 123 = some (.ireturn, 1, 0, 0, 0, 0, 0, 0) from rfl) ⟨rfl, rfl⟩ (Or.inl rfl)) ⟨rfl, rfl⟩
    by_cases s3 : (k).toInt = 3
    · refine e_then (e_tsC hT (y := 269) (pc := 1) (q := (yX12_fits, cX12_fits, 4, (some .boolean), 12)) rfl (show aTab 269 1 = some (.tableswitch 237 0 6 #[43, 57, 95, 237, 123, 149, 175], 43, 0, 0, 0, 0, 0, 0) from rfl) s3 ⟨by decide, by decide⟩ (off := 237) rfl (t := 238) rfl) ?_
      refine e_then (e_il1 hT (y := 269) (pc := 238) (q := (yX12_fits, cX12_fits, 4, (some .boolean), 12)) rfl (show aTab 269 238 = some (.iload_n 1, 1, 0, 0, 0, 0, 0, 0) from rfl) rfl rfl) ?_
      refine e_then (e_st hT (y := 269) (pc := 239) (q := (yX12_fits, cX12_fits, 4, (some .boolean), 12)) rfl (show aTab 269 239 = some (.bipush 7, 2, 0, 0, 0, 0, 0, 0) from rfl) (fr' := (269, 241, (lv_args 0 [.ref 128, .int k, .int a, .int b]), [.int 7, .int k])) (M' := M) rfl) ?_
      by_cases s7 : k.toInt = 7
      · refine e_then (e_icF hT (y := 269) (pc := 241) (q := (yX12_fits, cX12_fits, 4, (some .boolean), 12)) rfl (show aTab 269 241 = some (.if_icmp .ne 19, 3, 0, 0, 0, 0, 0, 0) from rfl) rfl (t := 260) rfl (cdF (by show ¬ (¬ _ = _); omega))) ?_
        refine e_then (e_al1 hT (y := 269) (pc := 244) (q := (yX12_fits, cX12_fits, 4, (some .boolean), 12)) rfl (show aTab 269 244 = some (.aload_n 0, 1, 0, 0, 0, 0, 0, 0) from rfl) rfl rfl) ?_
        refine e_then (e_il1 hT (y := 269) (pc := 245) (q := (yX12_fits, cX12_fits, 4, (some .boolean), 12)) rfl (show aTab 269 245 = some (.iload_n 2, 1, 0, 0, 0, 0, 0, 0) from rfl) rfl rfl) ?_
        by_cases c1 : lnP (rkd g) P a
        · rw [gB_t c1] at q1
          refine e_then (e_call hT (y := 269) (pc := 246) (q := (yX12_fits, cX12_fits, 4, (some .boolean), 12)) rfl (show aTab 269 246 = some (.invokevirtual 128, 3, 1, 255, 0, 1, 2, 12) from rfl) rfl ⟨by decide, Nat.le_of_ble_eq_true rfl⟩ (ob_at hM (rfl : tTy 119 = some (.inr (12, _)))).choose_spec (Nat.le_of_ble_eq_true rfl) (Nat.le_of_ble_eq_true rfl) ⟨by decide, by decide⟩ q1) ?_
          refine e_then (e_ifF hT (y := 269) (pc := 249) (q := (yX12_fits, cX12_fits, 4, (some .boolean), 12)) rfl (show aTab 269 249 = some (.ifCond .eq 11, 3, 0, 0, 0, 0, 0, 0) from rfl) rfl (t := 260) rfl (cdF (by show ¬ (_ = _); decide))) ?_
          refine e_then (e_il1 hT (y := 269) (pc := 252) (q := (yX12_fits, cX12_fits, 4, (some .boolean), 12)) rfl (show aTab 269 252 = some (.iload_n 3, 1, 0, 0, 0, 0, 0, 0) from rfl) rfl rfl) ?_
          by_cases c2 : b.toInt = 0
          · refine e_then (e_ifF hT (y := 269) (pc := 253) (q := (yX12_fits, cX12_fits, 4, (some .boolean), 12)) rfl (show aTab 269 253 = some (.ifCond .ne 7, 3, 0, 0, 0, 0, 0, 0) from rfl) rfl (t := 260) rfl (cdF (by have e0 : (0 : Int32).toInt = 0 := rfl; show ¬ (¬ _ = _); omega))) ?_
            refine e_then (e_st hT (y := 269) (pc := 256) (q := (yX12_fits, cX12_fits, 4, (some .boolean), 12)) rfl (show aTab 269 256 = some (.iconst 1, 1, 0, 0, 0, 0, 0, 0) from rfl) (fr' := (269, 257, (lv_args 0 [.ref 128, .int k, .int a, .int b]), [.int 1])) (M' := M) rfl) ?_
            refine e_then (e_st hT (y := 269) (pc := 257) (q := (yX12_fits, cX12_fits, 4, (some .boolean), 12)) rfl (show aTab 269 257 = some (.goto 4, 3, 0, 0, 0, 0, 0, 0) from rfl) (fr' := (269, 261, (lv_args 0 [.ref 128, .int k, .int a, .int b]), [.int 1])) (M' := M) rfl) ?_
            exact absurd s7 (by omega)
          · refine e_then (e_ifT hT (y := 269) (pc := 253) (q := (yX12_fits, cX12_fits, 4, (some .boolean), 12)) rfl (show aTab 269 253 = some (.ifCond .ne 7, 3, 0, 0, 0, 0, 0, 0) from rfl) rfl (t := 260) rfl (cdT (by have e0 : (0 : Int32).toInt = 0 := rfl; show ¬ _ = _; omega))) ?_
            refine e_then (e_st hT (y := 269) (pc := 260) (q := (yX12_fits, cX12_fits, 4, (some .boolean), 12)) rfl (show aTab 269 260 = some (.iconst 0, 1, 0, 0, 0, 0, 0, 0) from rfl) (fr' := (269, 261, (lv_args 0 [.ref 128, .int k, .int a, .int b]), [.int 0])) (M' := M) rfl) ?_
            rw [gB_f (ft_3 (by omega))]
            exact e_fin (e_zret hT (y := 269) (pc := 261) (q := (yX12_fits, cX12_fits, 4, (some .boolean), 12)) rfl (show aTab 269 261 = some (.ireturn, 1, 0, 0, 0, 0, 0, 0) from rfl) ⟨rfl, rfl⟩ (Or.inl rfl)) ⟨rfl, rfl⟩
        · rw [gB_f c1] at q1
          refine e_then (e_call hT (y := 269) (pc := 246) (q := (yX12_fits, cX12_fits, 4, (some .boolean), 12)) rfl (show aTab 269 246 = some (.invokevirtual 128, 3, 1, 255, 0, 1, 2, 12) from rfl) rfl ⟨by decide, Nat.le_of_ble_eq_true rfl⟩ (ob_at hM (rfl : tTy 119 = some (.inr (12, _)))).choose_spec (Nat.le_of_ble_eq_true rfl) (Nat.le_of_ble_eq_true rfl) ⟨by decide, by decide⟩ q1) ?_
          refine e_then (e_ifT hT (y := 269) (pc := 249) (q := (yX12_fits, cX12_fits, 4, (some .boolean), 12)) rfl (show aTab 269 249 = some (.ifCond .eq 11, 3, 0, 0, 0, 0, 0, 0) from rfl) rfl (t := 260) rfl (cdT (by show _ = _; decide))) ?_
          refine e_then (e_st hT (y := 269) (pc := 260) (q := (yX12_fits, cX12_fits, 4, (some .boolean), 12)) rfl (show aTab 269 260 = some (.iconst 0, 1, 0, 0, 0, 0, 0, 0) from rfl) (fr' := (269, 261, (lv_args 0 [.ref 128, .int k, .int a, .int b]), [.int 0])) (M' := M) rfl) ?_
          rw [gB_f (ft_3 (by omega))]
          exact e_fin (e_zret hT (y := 269) (pc := 261) (q := (yX12_fits, cX12_fits, 4, (some .boolean), 12)) rfl (show aTab 269 261 = some (.ireturn, 1, 0, 0, 0, 0, 0, 0) from rfl) ⟨rfl, rfl⟩ (Or.inl rfl)) ⟨rfl, rfl⟩
      · refine e_then (e_icT hT (y := 269) (pc := 241) (q := (yX12_fits, cX12_fits, 4, (some .boolean), 12)) rfl (show aTab 269 241 = some (.if_icmp .ne 19, 3, 0, 0, 0, 0, 0, 0) from rfl) rfl (t := 260) rfl (cdT (by show ¬ _ = _; omega))) ?_
        refine e_then (e_st hT (y := 269) (pc := 260) (q := (yX12_fits, cX12_fits, 4, (some .boolean), 12)) rfl (show aTab 269 260 = some (.iconst 0, 1, 0, 0, 0, 0, 0, 0) from rfl) (fr' := (269, 261, (lv_args 0 [.ref 128, .int k, .int a, .int b]), [.int 0])) (M' := M) rfl) ?_
        rw [gB_f (ft_3 (by omega))]
        exact e_fin (e_zret hT (y := 269) (pc := 261) (q := (yX12_fits, cX12_fits, 4, (some .boolean), 12)) rfl (show aTab 269 261 = some (.ireturn, 1, 0, 0, 0, 0, 0, 0) from rfl) ⟨rfl, rfl⟩ (Or.inl rfl)) ⟨rfl, rfl⟩
    by_cases s4 : (k).toInt = 4
    · refine e_then (e_tsC hT (y := 269) (pc := 1) (q := (yX12_fits, cX12_fits, 4, (some .boolean), 12)) rfl (show aTab 269 1 = some (.tableswitch 237 0 6 #[43, 57, 95, 237, 123, 149, 175], 43, 0, 0, 0, 0, 0, 0) from rfl) s4 ⟨by decide, by decide⟩ (off := 123) rfl (t := 124) rfl) ?_
      refine e_then (e_al1 hT (y := 269) (pc := 124) (q := (yX12_fits, cX12_fits, 4, (some .boolean), 12)) rfl (show aTab 269 124 = some (.aload_n 0, 1, 0, 0, 0, 0, 0, 0) from rfl) rfl rfl) ?_
      refine e_then (e_il1 hT (y := 269) (pc := 125) (q := (yX12_fits, cX12_fits, 4, (some .boolean), 12)) rfl (show aTab 269 125 = some (.iload_n 2, 1, 0, 0, 0, 0, 0, 0) from rfl) rfl rfl) ?_
      by_cases c1 : lnP (rkd g) P a
      · rw [gB_t c1] at q1
        refine e_then (e_call hT (y := 269) (pc := 126) (q := (yX12_fits, cX12_fits, 4, (some .boolean), 12)) rfl (show aTab 269 126 = some (.invokevirtual 128, 3, 1, 255, 0, 1, 2, 12) from rfl) rfl ⟨by decide, Nat.le_of_ble_eq_true rfl⟩ (ob_at hM (rfl : tTy 119 = some (.inr (12, _)))).choose_spec (Nat.le_of_ble_eq_true rfl) (Nat.le_of_ble_eq_true rfl) ⟨by decide, by decide⟩ q1) ?_
        refine e_then (e_ifF hT (y := 269) (pc := 129) (q := (yX12_fits, cX12_fits, 4, (some .boolean), 12)) rfl (show aTab 269 129 = some (.ifCond .eq 19, 3, 0, 0, 0, 0, 0, 0) from rfl) rfl (t := 148) rfl (cdF (by show ¬ (_ = _); decide))) ?_
        refine e_then (e_il1 hT (y := 269) (pc := 132) (q := (yX12_fits, cX12_fits, 4, (some .boolean), 12)) rfl (show aTab 269 132 = some (.iload_n 3, 1, 0, 0, 0, 0, 0, 0) from rfl) rfl rfl) ?_
        refine e_then (e_st hT (y := 269) (pc := 133) (q := (yX12_fits, cX12_fits, 4, (some .boolean), 12)) rfl (show aTab 269 133 = some (.i2l, 1, 0, 0, 0, 0, 0, 0) from rfl) (fr' := (269, 134, (lv_args 0 [.ref 128, .int k, .int a, .int b]), [.long (b).toInt64])) (M' := M) rfl) ?_
        refine e_then (e_st hT (y := 269) (pc := 134) (q := (yX12_fits, cX12_fits, 4, (some .boolean), 12)) rfl (show aTab 269 134 = some (.lconst 0, 1, 0, 0, 0, 0, 0, 0) from rfl) (fr' := (269, 135, (lv_args 0 [.ref 128, .int k, .int a, .int b]), [.long (Int64.ofNat 0), .long (b).toInt64])) (M' := M) rfl) ?_
        refine e_then (e_st hT (y := 269) (pc := 135) (q := (yX12_fits, cX12_fits, 4, (some .boolean), 12)) rfl (show aTab 269 135 = some (.ldc2_w 111, 3, 8, 0, 9999, 0, 0, 0) from rfl) (fr' := (269, 138, (lv_args 0 [.ref 128, .int k, .int a, .int b]), [.long (Int64.ofInt 9999), .long (Int64.ofNat 0), .long (b).toInt64])) (M' := M) rfl) ?_
        by_cases c2 : 0 ≤ b.toInt ∧ b.toInt ≤ 9999
        · rw [gB_t c2] at q4
          refine e_then (e_calls hT (y := 269) (pc := 138) (q := (yX12_fits, cX12_fits, 4, (some .boolean), 12)) rfl (show aTab 269 138 = some (.invokestatic 65, 3, 2, 239, 0, 3, 6, 12) from rfl) (Nat.le_of_ble_eq_true rfl) (Nat.le_of_ble_eq_true rfl) (Nat.le_of_ble_eq_true rfl) ⟨by decide, by decide⟩ q4) ?_
          refine e_then (e_ifF hT (y := 269) (pc := 141) (q := (yX12_fits, cX12_fits, 4, (some .boolean), 12)) rfl (show aTab 269 141 = some (.ifCond .eq 7, 3, 0, 0, 0, 0, 0, 0) from rfl) rfl (t := 148) rfl (cdF (by show ¬ (_ = _); decide))) ?_
          refine e_then (e_st hT (y := 269) (pc := 144) (q := (yX12_fits, cX12_fits, 4, (some .boolean), 12)) rfl (show aTab 269 144 = some (.iconst 1, 1, 0, 0, 0, 0, 0, 0) from rfl) (fr' := (269, 145, (lv_args 0 [.ref 128, .int k, .int a, .int b]), [.int 1])) (M' := M) rfl) ?_
          refine e_then (e_st hT (y := 269) (pc := 145) (q := (yX12_fits, cX12_fits, 4, (some .boolean), 12)) rfl (show aTab 269 145 = some (.goto 4, 3, 0, 0, 0, 0, 0, 0) from rfl) (fr' := (269, 149, (lv_args 0 [.ref 128, .int k, .int a, .int b]), [.int 1])) (M' := M) rfl) ?_
          rw [gB_t ((ft_4 s4).mpr ⟨c1, c2⟩)]
          exact e_fin (e_zret hT (y := 269) (pc := 149) (q := (yX12_fits, cX12_fits, 4, (some .boolean), 12)) rfl (show aTab 269 149 = some (.ireturn, 1, 0, 0, 0, 0, 0, 0) from rfl) ⟨rfl, rfl⟩ (Or.inr rfl)) ⟨rfl, rfl⟩
        · rw [gB_f c2] at q4
          refine e_then (e_calls hT (y := 269) (pc := 138) (q := (yX12_fits, cX12_fits, 4, (some .boolean), 12)) rfl (show aTab 269 138 = some (.invokestatic 65, 3, 2, 239, 0, 3, 6, 12) from rfl) (Nat.le_of_ble_eq_true rfl) (Nat.le_of_ble_eq_true rfl) (Nat.le_of_ble_eq_true rfl) ⟨by decide, by decide⟩ q4) ?_
          refine e_then (e_ifT hT (y := 269) (pc := 141) (q := (yX12_fits, cX12_fits, 4, (some .boolean), 12)) rfl (show aTab 269 141 = some (.ifCond .eq 7, 3, 0, 0, 0, 0, 0, 0) from rfl) rfl (t := 148) rfl (cdT (by show _ = _; decide))) ?_
          refine e_then (e_st hT (y := 269) (pc := 148) (q := (yX12_fits, cX12_fits, 4, (some .boolean), 12)) rfl (show aTab 269 148 = some (.iconst 0, 1, 0, 0, 0, 0, 0, 0) from rfl) (fr' := (269, 149, (lv_args 0 [.ref 128, .int k, .int a, .int b]), [.int 0])) (M' := M) rfl) ?_
          rw [gB_f (fun z => by have z := (ft_4 s4).mp z; first | exact c1 z.1 | exact c2 z.2)]
          exact e_fin (e_zret hT (y := 269) (pc := 149) (q := (yX12_fits, cX12_fits, 4, (some .boolean), 12)) rfl (show aTab 269 149 = some (.ireturn, 1, 0, 0, 0, 0, 0, 0) from rfl) ⟨rfl, rfl⟩ (Or.inl rfl)) ⟨rfl, rfl⟩
      · rw [gB_f c1] at q1
        refine e_then (e_call hT (y := 269) (pc := 126) (q := (yX12_fits, cX12_fits, 4, (some .boolean), 12)) rfl (show aTab 269 126 = some (.invokevirtual 128, 3, 1, 255, 0, 1, 2, 12) from rfl) rfl ⟨by decide, Nat.le_of_ble_eq_true rfl⟩ (ob_at hM (rfl : tTy 119 = some (.inr (12, _)))).choose_spec (Nat.le_of_ble_eq_true rfl) (Nat.le_of_ble_eq_true rfl) ⟨by decide, by decide⟩ q1) ?_
        refine e_then (e_ifT hT (y := 269) (pc := 129) (q := (yX12_fits, cX12_fits, 4, (some .boolean), 12)) rfl (show aTab 269 129 = some (.ifCond .eq 19, 3, 0, 0, 0, 0, 0, 0) from rfl) rfl (t := 148) rfl (cdT (by show _ = _; decide))) ?_
        refine e_then (e_st hT (y := 269) (pc := 148) (q := (yX12_fits, cX12_fits, 4, (some .boolean), 12)) rfl (show aTab 269 148 = some (.iconst 0, 1, 0, 0, 0, 0, 0, 0) from rfl) (fr' := (269, 149, (lv_args 0 [.ref 128, .int k, .int a, .int b]), [.int 0])) (M' := M) rfl) ?_
        rw [gB_f (fun z => by have z := (ft_4 s4).mp z; first | exact c1 z.1 | exact c2 z.2)]
        exact e_fin (e_zret hT (y := 269) (pc := 149) (q := (yX12_fits, cX12_fits, 4, (some .boolean), 12)) rfl (show aTab 269 149 = some (.ireturn, 1, 0, 0, 0, 0, 0, 0) from rfl) ⟨rfl, rfl⟩ (Or.inl rfl)) ⟨rfl, rfl⟩
    by_cases s5 : (k).toInt = 5
    · refine e_then (e_tsC hT (y := 269) (pc := 1) (q := (yX12_fits, cX12_fits, 4, (some .boolean), 12)) rfl (show aTab 269 1 = some (.tableswitch 237 0 6 #[43, 57, 95, 237, 123, 149, 175], 43, 0, 0, 0, 0, 0, 0) from rfl) s5 ⟨by decide, by decide⟩ (off := 149) rfl (t := 150) rfl) ?_
      refine e_then (e_al1 hT (y := 269) (pc := 150) (q := (yX12_fits, cX12_fits, 4, (some .boolean), 12)) rfl (show aTab 269 150 = some (.aload_n 0, 1, 0, 0, 0, 0, 0, 0) from rfl) rfl rfl) ?_
      refine e_then (e_il1 hT (y := 269) (pc := 151) (q := (yX12_fits, cX12_fits, 4, (some .boolean), 12)) rfl (show aTab 269 151 = some (.iload_n 2, 1, 0, 0, 0, 0, 0, 0) from rfl) rfl rfl) ?_
      by_cases c1 : lnP (rkd g) P a
      · rw [gB_t c1] at q1
        refine e_then (e_call hT (y := 269) (pc := 152) (q := (yX12_fits, cX12_fits, 4, (some .boolean), 12)) rfl (show aTab 269 152 = some (.invokevirtual 128, 3, 1, 255, 0, 1, 2, 12) from rfl) rfl ⟨by decide, Nat.le_of_ble_eq_true rfl⟩ (ob_at hM (rfl : tTy 119 = some (.inr (12, _)))).choose_spec (Nat.le_of_ble_eq_true rfl) (Nat.le_of_ble_eq_true rfl) ⟨by decide, by decide⟩ q1) ?_
        refine e_then (e_ifF hT (y := 269) (pc := 155) (q := (yX12_fits, cX12_fits, 4, (some .boolean), 12)) rfl (show aTab 269 155 = some (.ifCond .eq 19, 3, 0, 0, 0, 0, 0, 0) from rfl) rfl (t := 174) rfl (cdF (by show ¬ (_ = _); decide))) ?_
        refine e_then (e_il1 hT (y := 269) (pc := 158) (q := (yX12_fits, cX12_fits, 4, (some .boolean), 12)) rfl (show aTab 269 158 = some (.iload_n 3, 1, 0, 0, 0, 0, 0, 0) from rfl) rfl rfl) ?_
        refine e_then (e_st hT (y := 269) (pc := 159) (q := (yX12_fits, cX12_fits, 4, (some .boolean), 12)) rfl (show aTab 269 159 = some (.i2l, 1, 0, 0, 0, 0, 0, 0) from rfl) (fr' := (269, 160, (lv_args 0 [.ref 128, .int k, .int a, .int b]), [.long (b).toInt64])) (M' := M) rfl) ?_
        refine e_then (e_st hT (y := 269) (pc := 160) (q := (yX12_fits, cX12_fits, 4, (some .boolean), 12)) rfl (show aTab 269 160 = some (.lconst 0, 1, 0, 0, 0, 0, 0, 0) from rfl) (fr' := (269, 161, (lv_args 0 [.ref 128, .int k, .int a, .int b]), [.long (Int64.ofNat 0), .long (b).toInt64])) (M' := M) rfl) ?_
        refine e_then (e_st hT (y := 269) (pc := 161) (q := (yX12_fits, cX12_fits, 4, (some .boolean), 12)) rfl (show aTab 269 161 = some (.ldc2_w 133, 3, 8, 0, 69999, 0, 0, 0) from rfl) (fr' := (269, 164, (lv_args 0 [.ref 128, .int k, .int a, .int b]), [.long (Int64.ofInt 69999), .long (Int64.ofNat 0), .long (b).toInt64])) (M' := M) rfl) ?_
        by_cases c2 : 0 ≤ b.toInt ∧ b.toInt ≤ 69999
        · rw [gB_t c2] at q6
          refine e_then (e_calls hT (y := 269) (pc := 164) (q := (yX12_fits, cX12_fits, 4, (some .boolean), 12)) rfl (show aTab 269 164 = some (.invokestatic 65, 3, 2, 239, 0, 3, 6, 12) from rfl) (Nat.le_of_ble_eq_true rfl) (Nat.le_of_ble_eq_true rfl) (Nat.le_of_ble_eq_true rfl) ⟨by decide, by decide⟩ q6) ?_
          refine e_then (e_ifF hT (y := 269) (pc := 167) (q := (yX12_fits, cX12_fits, 4, (some .boolean), 12)) rfl (show aTab 269 167 = some (.ifCond .eq 7, 3, 0, 0, 0, 0, 0, 0) from rfl) rfl (t := 174) rfl (cdF (by show ¬ (_ = _); decide))) ?_
          refine e_then (e_st hT (y := 269) (pc := 170) (q := (yX12_fits, cX12_fits, 4, (some .boolean), 12)) rfl (show aTab 269 170 = some (.iconst 1, 1, 0, 0, 0, 0, 0, 0) from rfl) (fr' := (269, 171, (lv_args 0 [.ref 128, .int k, .int a, .int b]), [.int 1])) (M' := M) rfl) ?_
          refine e_then (e_st hT (y := 269) (pc := 171) (q := (yX12_fits, cX12_fits, 4, (some .boolean), 12)) rfl (show aTab 269 171 = some (.goto 4, 3, 0, 0, 0, 0, 0, 0) from rfl) (fr' := (269, 175, (lv_args 0 [.ref 128, .int k, .int a, .int b]), [.int 1])) (M' := M) rfl) ?_
          rw [gB_t ((ft_5 s5).mpr ⟨c1, c2⟩)]
          exact e_fin (e_zret hT (y := 269) (pc := 175) (q := (yX12_fits, cX12_fits, 4, (some .boolean), 12)) rfl (show aTab 269 175 = some (.ireturn, 1, 0, 0, 0, 0, 0, 0) from rfl) ⟨rfl, rfl⟩ (Or.inr rfl)) ⟨rfl, rfl⟩
        · rw [gB_f c2] at q6
          refine e_then (e_calls hT (y := 269) (pc := 164) (q := (yX12_fits, cX12_fits, 4, (some .boolean), 12)) rfl (show aTab 269 164 = some (.invokestatic 65, 3, 2, 239, 0, 3, 6, 12) from rfl) (Nat.le_of_ble_eq_true rfl) (Nat.le_of_ble_eq_true rfl) (Nat.le_of_ble_eq_true rfl) ⟨by decide, by decide⟩ q6) ?_
          refine e_then (e_ifT hT (y := 269) (pc := 167) (q := (yX12_fits, cX12_fits, 4, (some .boolean), 12)) rfl (show aTab 269 167 = some (.ifCond .eq 7, 3, 0, 0, 0, 0, 0, 0) from rfl) rfl (t := 174) rfl (cdT (by show _ = _; decide))) ?_
          refine e_then (e_st hT (y := 269) (pc := 174) (q := (yX12_fits, cX12_fits, 4, (some .boolean), 12)) rfl (show aTab 269 174 = some (.iconst 0, 1, 0, 0, 0, 0, 0, 0) from rfl) (fr' := (269, 175, (lv_args 0 [.ref 128, .int k, .int a, .int b]), [.int 0])) (M' := M) rfl) ?_
          rw [gB_f (fun z => by have z := (ft_5 s5).mp z; first | exact c1 z.1 | exact c2 z.2)]
          exact e_fin (e_zret hT (y := 269) (pc := 175) (q := (yX12_fits, cX12_fits, 4, (some .boolean), 12)) rfl (show aTab 269 175 = some (.ireturn, 1, 0, 0, 0, 0, 0, 0) from rfl) ⟨rfl, rfl⟩ (Or.inl rfl)) ⟨rfl, rfl⟩
      · rw [gB_f c1] at q1
        refine e_then (e_call hT (y := 269) (pc := 152) (q := (yX12_fits, cX12_fits, 4, (some .boolean), 12)) rfl (show aTab 269 152 = some (.invokevirtual 128, 3, 1, 255, 0, 1, 2, 12) from rfl) rfl ⟨by decide, Nat.le_of_ble_eq_true rfl⟩ (ob_at hM (rfl : tTy 119 = some (.inr (12, _)))).choose_spec (Nat.le_of_ble_eq_true rfl) (Nat.le_of_ble_eq_true rfl) ⟨by decide, by decide⟩ q1) ?_
        refine e_then (e_ifT hT (y := 269) (pc := 155) (q := (yX12_fits, cX12_fits, 4, (some .boolean), 12)) rfl (show aTab 269 155 = some (.ifCond .eq 19, 3, 0, 0, 0, 0, 0, 0) from rfl) rfl (t := 174) rfl (cdT (by show _ = _; decide))) ?_
        refine e_then (e_st hT (y := 269) (pc := 174) (q := (yX12_fits, cX12_fits, 4, (some .boolean), 12)) rfl (show aTab 269 174 = some (.iconst 0, 1, 0, 0, 0, 0, 0, 0) from rfl) (fr' := (269, 175, (lv_args 0 [.ref 128, .int k, .int a, .int b]), [.int 0])) (M' := M) rfl) ?_
        rw [gB_f (fun z => by have z := (ft_5 s5).mp z; first | exact c1 z.1 | exact c2 z.2)]
        exact e_fin (e_zret hT (y := 269) (pc := 175) (q := (yX12_fits, cX12_fits, 4, (some .boolean), 12)) rfl (show aTab 269 175 = some (.ireturn, 1, 0, 0, 0, 0, 0, 0) from rfl) ⟨rfl, rfl⟩ (Or.inl rfl)) ⟨rfl, rfl⟩
    by_cases s6 : (k).toInt = 6
    · refine e_then (e_tsC hT (y := 269) (pc := 1) (q := (yX12_fits, cX12_fits, 4, (some .boolean), 12)) rfl (show aTab 269 1 = some (.tableswitch 237 0 6 #[43, 57, 95, 237, 123, 149, 175], 43, 0, 0, 0, 0, 0, 0) from rfl) s6 ⟨by decide, by decide⟩ (off := 175) rfl (t := 176) rfl) ?_
      refine e_then (e_il1 hT (y := 269) (pc := 176) (q := (yX12_fits, cX12_fits, 4, (some .boolean), 12)) rfl (show aTab 269 176 = some (.iload_n 2, 1, 0, 0, 0, 0, 0, 0) from rfl) rfl rfl) ?_
      refine e_then (e_st hT (y := 269) (pc := 177) (q := (yX12_fits, cX12_fits, 4, (some .boolean), 12)) rfl (show aTab 269 177 = some (.i2l, 1, 0, 0, 0, 0, 0, 0) from rfl) (fr' := (269, 178, (lv_args 0 [.ref 128, .int k, .int a, .int b]), [.long (a).toInt64])) (M' := M) rfl) ?_
      refine e_then (e_st hT (y := 269) (pc := 178) (q := (yX12_fits, cX12_fits, 4, (some .boolean), 12)) rfl (show aTab 269 178 = some (.lconst 0, 1, 0, 0, 0, 0, 0, 0) from rfl) (fr' := (269, 179, (lv_args 0 [.ref 128, .int k, .int a, .int b]), [.long (Int64.ofNat 0), .long (a).toInt64])) (M' := M) rfl) ?_
      refine e_then (e_st hT (y := 269) (pc := 179) (q := (yX12_fits, cX12_fits, 4, (some .boolean), 12)) rfl (show aTab 269 179 = some (.ldc2_w 135, 3, 8, 0, 88, 0, 0, 0) from rfl) (fr' := (269, 182, (lv_args 0 [.ref 128, .int k, .int a, .int b]), [.long (Int64.ofInt 88), .long (Int64.ofNat 0), .long (a).toInt64])) (M' := M) rfl) ?_
      by_cases c1 : 0 ≤ a.toInt ∧ a.toInt ≤ 88
      · rw [gB_t c1] at q3
        refine e_then (e_calls hT (y := 269) (pc := 182) (q := (yX12_fits, cX12_fits, 4, (some .boolean), 12)) rfl (show aTab 269 182 = some (.invokestatic 65, 3, 2, 239, 0, 3, 6, 12) from rfl) (Nat.le_of_ble_eq_true rfl) (Nat.le_of_ble_eq_true rfl) (Nat.le_of_ble_eq_true rfl) ⟨by decide, by decide⟩ q3) ?_
        refine e_then (e_ifF hT (y := 269) (pc := 185) (q := (yX12_fits, cX12_fits, 4, (some .boolean), 12)) rfl (show aTab 269 185 = some (.ifCond .eq 51, 3, 0, 0, 0, 0, 0, 0) from rfl) rfl (t := 236) rfl (cdF (by show ¬ (_ = _); decide))) ?_
        have e5 := dv10 (a := a) (by omega)
        have e6 := rm10 (a := a) (by omega)
        refine e_then (e_il1 hT (y := 269) (pc := 188) (q := (yX12_fits, cX12_fits, 4, (some .boolean), 12)) rfl (show aTab 269 188 = some (.iload_n 2, 1, 0, 0, 0, 0, 0, 0) from rfl) rfl rfl) ?_
        refine e_then (e_st hT (y := 269) (pc := 189) (q := (yX12_fits, cX12_fits, 4, (some .boolean), 12)) rfl (show aTab 269 189 = some (.bipush 10, 2, 0, 0, 0, 0, 0, 0) from rfl) (fr' := (269, 191, (lv_args 0 [.ref 128, .int k, .int a, .int b]), [.int 10, .int a])) (M' := M) rfl) ?_
        refine e_then (e_st hT (y := 269) (pc := 191) (q := (yX12_fits, cX12_fits, 4, (some .boolean), 12)) rfl (show aTab 269 191 = some (.irem, 1, 0, 0, 0, 0, 0, 0) from rfl) (fr' := (269, 192, (lv_args 0 [.ref 128, .int k, .int a, .int b]), [.int (a - a / 10 * 10)])) (M' := M) rfl) ?_
        refine e_then (e_st hT (y := 269) (pc := 192) (q := (yX12_fits, cX12_fits, 4, (some .boolean), 12)) rfl (show aTab 269 192 = some (.bipush 9, 2, 0, 0, 0, 0, 0, 0) from rfl) (fr' := (269, 194, (lv_args 0 [.ref 128, .int k, .int a, .int b]), [.int 9, .int (a - a / 10 * 10)])) (M' := M) rfl) ?_
        by_cases c2 : 9 ≤ a.toInt % 10
        · refine e_then (e_icT hT (y := 269) (pc := 194) (q := (yX12_fits, cX12_fits, 4, (some .boolean), 12)) rfl (show aTab 269 194 = some (.if_icmp .ge 42, 3, 0, 0, 0, 0, 0, 0) from rfl) rfl (t := 236) rfl (cdT (by show _ ≤ _; omega))) ?_
          refine e_then (e_st hT (y := 269) (pc := 236) (q := (yX12_fits, cX12_fits, 4, (some .boolean), 12)) rfl (show aTab 269 236 = some (.iconst 0, 1, 0, 0, 0, 0, 0, 0) from rfl) (fr' := (269, 237, (lv_args 0 [.ref 128, .int k, .int a, .int b]), [.int 0])) (M' := M) rfl) ?_
          rw [gB_f (fun z => by have z := (ft_6 s6).mp z; have z1 := z.1; unfold twP at z1; first | exact z.2.1 c3 | (have z3 := z.2.2; rw [ek] at z3; exact c5 z3) | (have z3 := z.2.2; unfold kdO at z3; rw [if_neg c4] at z3; exact absurd z3.1 (by decide)) | omega)]
          exact e_fin (e_zret hT (y := 269) (pc := 237) (q := (yX12_fits, cX12_fits, 4, (some .boolean), 12)) rfl (show aTab 269 237 = some (.ireturn, 1, 0, 0, 0, 0, 0, 0) from rfl) ⟨rfl, rfl⟩ (Or.inl rfl)) ⟨rfl, rfl⟩
        · refine e_then (e_icF hT (y := 269) (pc := 194) (q := (yX12_fits, cX12_fits, 4, (some .boolean), 12)) rfl (show aTab 269 194 = some (.if_icmp .ge 42, 3, 0, 0, 0, 0, 0, 0) from rfl) rfl (t := 236) rfl (cdF (by show ¬ _ ≤ _; omega))) ?_
          refine e_then (e_il1 hT (y := 269) (pc := 197) (q := (yX12_fits, cX12_fits, 4, (some .boolean), 12)) rfl (show aTab 269 197 = some (.iload_n 2, 1, 0, 0, 0, 0, 0, 0) from rfl) rfl rfl) ?_
          refine e_then (e_st hT (y := 269) (pc := 198) (q := (yX12_fits, cX12_fits, 4, (some .boolean), 12)) rfl (show aTab 269 198 = some (.bipush 10, 2, 0, 0, 0, 0, 0, 0) from rfl) (fr' := (269, 200, (lv_args 0 [.ref 128, .int k, .int a, .int b]), [.int 10, .int a])) (M' := M) rfl) ?_
          refine e_then (e_st hT (y := 269) (pc := 200) (q := (yX12_fits, cX12_fits, 4, (some .boolean), 12)) rfl (show aTab 269 200 = some (.idiv, 1, 0, 0, 0, 0, 0, 0) from rfl) (fr' := (269, 201, (lv_args 0 [.ref 128, .int k, .int a, .int b]), [.int (a / 10)])) (M' := M) rfl) ?_
          refine e_then (e_il1 hT (y := 269) (pc := 201) (q := (yX12_fits, cX12_fits, 4, (some .boolean), 12)) rfl (show aTab 269 201 = some (.iload_n 2, 1, 0, 0, 0, 0, 0, 0) from rfl) rfl rfl) ?_
          refine e_then (e_st hT (y := 269) (pc := 202) (q := (yX12_fits, cX12_fits, 4, (some .boolean), 12)) rfl (show aTab 269 202 = some (.bipush 10, 2, 0, 0, 0, 0, 0, 0) from rfl) (fr' := (269, 204, (lv_args 0 [.ref 128, .int k, .int a, .int b]), [.int 10, .int a, .int (a / 10)])) (M' := M) rfl) ?_
          refine e_then (e_st hT (y := 269) (pc := 204) (q := (yX12_fits, cX12_fits, 4, (some .boolean), 12)) rfl (show aTab 269 204 = some (.irem, 1, 0, 0, 0, 0, 0, 0) from rfl) (fr' := (269, 205, (lv_args 0 [.ref 128, .int k, .int a, .int b]), [.int (a - a / 10 * 10), .int (a / 10)])) (M' := M) rfl) ?_
          by_cases c3 : a.toInt / 10 = a.toInt % 10
          · refine e_then (e_icT hT (y := 269) (pc := 205) (q := (yX12_fits, cX12_fits, 4, (some .boolean), 12)) rfl (show aTab 269 205 = some (.if_icmp .eq 31, 3, 0, 0, 0, 0, 0, 0) from rfl) rfl (t := 236) rfl (cdT (by show _ = _; omega))) ?_
            refine e_then (e_st hT (y := 269) (pc := 236) (q := (yX12_fits, cX12_fits, 4, (some .boolean), 12)) rfl (show aTab 269 236 = some (.iconst 0, 1, 0, 0, 0, 0, 0, 0) from rfl) (fr' := (269, 237, (lv_args 0 [.ref 128, .int k, .int a, .int b]), [.int 0])) (M' := M) rfl) ?_
            rw [gB_f (fun z => by have z := (ft_6 s6).mp z; have z1 := z.1; unfold twP at z1; first | exact z.2.1 c3 | (have z3 := z.2.2; rw [ek] at z3; exact c5 z3) | (have z3 := z.2.2; unfold kdO at z3; rw [if_neg c4] at z3; exact absurd z3.1 (by decide)) | omega)]
            exact e_fin (e_zret hT (y := 269) (pc := 237) (q := (yX12_fits, cX12_fits, 4, (some .boolean), 12)) rfl (show aTab 269 237 = some (.ireturn, 1, 0, 0, 0, 0, 0, 0) from rfl) ⟨rfl, rfl⟩ (Or.inl rfl)) ⟨rfl, rfl⟩
          · refine e_then (e_icF hT (y := 269) (pc := 205) (q := (yX12_fits, cX12_fits, 4, (some .boolean), 12)) rfl (show aTab 269 205 = some (.if_icmp .eq 31, 3, 0, 0, 0, 0, 0, 0) from rfl) rfl (t := 236) rfl (cdF (by show ¬ _ = _; omega))) ?_
            refine e_then (e_al1 hT (y := 269) (pc := 208) (q := (yX12_fits, cX12_fits, 4, (some .boolean), 12)) rfl (show aTab 269 208 = some (.aload_n 0, 1, 0, 0, 0, 0, 0, 0) from rfl) rfl rfl) ?_
            refine e_then (e_il1 hT (y := 269) (pc := 209) (q := (yX12_fits, cX12_fits, 4, (some .boolean), 12)) rfl (show aTab 269 209 = some (.iload_n 3, 1, 0, 0, 0, 0, 0, 0) from rfl) rfl rfl) ?_
            by_cases c4 : 0 ≤ b.toInt ∧ b.toInt < (P : Int)
            · rw [gB_t c4] at q7
              refine e_then (e_call hT (y := 269) (pc := 210) (q := (yX12_fits, cX12_fits, 4, (some .boolean), 12)) rfl (show aTab 269 210 = some (.invokevirtual 77, 3, 1, 249, 0, 1, 2, 12) from rfl) rfl ⟨by decide, Nat.le_of_ble_eq_true rfl⟩ (ob_at hM (rfl : tTy 119 = some (.inr (12, _)))).choose_spec (Nat.le_of_ble_eq_true rfl) (Nat.le_of_ble_eq_true rfl) ⟨by decide, by decide⟩ q7) ?_
              refine e_then (e_ifF hT (y := 269) (pc := 213) (q := (yX12_fits, cX12_fits, 4, (some .boolean), 12)) rfl (show aTab 269 213 = some (.ifCond .eq 23, 3, 0, 0, 0, 0, 0, 0) from rfl) rfl (t := 236) rfl (cdF (by show ¬ (_ = _); decide))) ?_
              obtain ⟨pp, hpp⟩ : ∃ n : Nat, (n : Int) = b.toInt := ⟨b.toInt.toNat, by omega⟩
              have epp : b.toInt.toNat = pp := by omega
              have hb2 : b = Int32.ofNat pp := i32eq (by rw [i32n (by omega)]; omega)
              obtain ⟨K8, q8⟩ := rkd_run hT hM hg (m := pp) (by omega) (d := 19) (by decide)
              rw [← hb2] at q8
              obtain ⟨K9, q9⟩ := isIn_i hT (M := M) (v := rkd g pp) (l := Int64.ofNat 1) (h := Int64.ofInt 4) (d := 19) (by decide)
              rw [show (Int64.ofNat 1).toInt = 1 from rfl, show (Int64.ofInt 4).toInt = 4 from rfl] at q9
              have ek : kdO (rkd g) P b = rkd g pp := by unfold kdO; rw [if_pos c4, epp]
              refine e_then (e_al1 hT (y := 269) (pc := 216) (q := (yX12_fits, cX12_fits, 4, (some .boolean), 12)) rfl (show aTab 269 216 = some (.aload_n 0, 1, 0, 0, 0, 0, 0, 0) from rfl) rfl rfl) ?_
              refine e_then (e_il1 hT (y := 269) (pc := 217) (q := (yX12_fits, cX12_fits, 4, (some .boolean), 12)) rfl (show aTab 269 217 = some (.iload_n 3, 1, 0, 0, 0, 0, 0, 0) from rfl) rfl rfl) ?_
              refine e_then (e_call hT (y := 269) (pc := 218) (q := (yX12_fits, cX12_fits, 4, (some .boolean), 12)) rfl (show aTab 269 218 = some (.invokevirtual 81, 3, 1, 253, 0, 1, 2, 12) from rfl) rfl ⟨by decide, Nat.le_of_ble_eq_true rfl⟩ (ob_at hM (rfl : tTy 119 = some (.inr (12, _)))).choose_spec (Nat.le_of_ble_eq_true rfl) (Nat.le_of_ble_eq_true rfl) ⟨by decide, by decide⟩ q8) ?_
              refine e_then (e_st hT (y := 269) (pc := 221) (q := (yX12_fits, cX12_fits, 4, (some .boolean), 12)) rfl (show aTab 269 221 = some (.i2l, 1, 0, 0, 0, 0, 0, 0) from rfl) (fr' := (269, 222, (lv_args 0 [.ref 128, .int k, .int a, .int b]), [.long ((rkd g pp)).toInt64])) (M' := M) rfl) ?_
              refine e_then (e_st hT (y := 269) (pc := 222) (q := (yX12_fits, cX12_fits, 4, (some .boolean), 12)) rfl (show aTab 269 222 = some (.lconst 1, 1, 0, 0, 0, 0, 0, 0) from rfl) (fr' := (269, 223, (lv_args 0 [.ref 128, .int k, .int a, .int b]), [.long (Int64.ofNat 1), .long ((rkd g pp)).toInt64])) (M' := M) rfl) ?_
              refine e_then (e_st hT (y := 269) (pc := 223) (q := (yX12_fits, cX12_fits, 4, (some .boolean), 12)) rfl (show aTab 269 223 = some (.ldc2_w 137, 3, 8, 0, 4, 0, 0, 0) from rfl) (fr' := (269, 226, (lv_args 0 [.ref 128, .int k, .int a, .int b]), [.long (Int64.ofInt 4), .long (Int64.ofNat 1), .long ((rkd g pp)).toInt64])) (M' := M) rfl) ?_
              by_cases c5 : 1 ≤ (rkd g pp).toInt ∧ (rkd g pp).toInt ≤ 4
              · rw [gB_t c5] at q9
                refine e_then (e_calls hT (y := 269) (pc := 226) (q := (yX12_fits, cX12_fits, 4, (some .boolean), 12)) rfl (show aTab 269 226 = some (.invokestatic 65, 3, 2, 239, 0, 3, 6, 12) from rfl) (Nat.le_of_ble_eq_true rfl) (Nat.le_of_ble_eq_true rfl) (Nat.le_of_ble_eq_true rfl) ⟨by decide, by decide⟩ q9) ?_
                refine e_then (e_ifF hT (y := 269) (pc := 229) (q := (yX12_fits, cX12_fits, 4, (some .boolean), 12)) rfl (show aTab 269 229 = some (.ifCond .eq 7, 3, 0, 0, 0, 0, 0, 0) from rfl) rfl (t := 236) rfl (cdF (by show ¬ (_ = _); decide))) ?_
                refine e_then (e_st hT (y := 269) (pc := 232) (q := (yX12_fits, cX12_fits, 4, (some .boolean), 12)) rfl (show aTab 269 232 = some (.iconst 1, 1, 0, 0, 0, 0, 0, 0) from rfl) (fr' := (269, 233, (lv_args 0 [.ref 128, .int k, .int a, .int b]), [.int 1])) (M' := M) rfl) ?_
                refine e_then (e_st hT (y := 269) (pc := 233) (q := (yX12_fits, cX12_fits, 4, (some .boolean), 12)) rfl (show aTab 269 233 = some (.goto 4, 3, 0, 0, 0, 0, 0, 0) from rfl) (fr' := (269, 237, (lv_args 0 [.ref 128, .int k, .int a, .int b]), [.int 1])) (M' := M) rfl) ?_
                rw [gB_t ((ft_6 s6).mpr ⟨⟨by omega, by omega, by omega⟩, c3, by rw [ek]; exact c5⟩)]
                exact e_fin (e_zret hT (y := 269) (pc := 237) (q := (yX12_fits, cX12_fits, 4, (some .boolean), 12)) rfl (show aTab 269 237 = some (.ireturn, 1, 0, 0, 0, 0, 0, 0) from rfl) ⟨rfl, rfl⟩ (Or.inr rfl)) ⟨rfl, rfl⟩
              · rw [gB_f c5] at q9
                refine e_then (e_calls hT (y := 269) (pc := 226) (q := (yX12_fits, cX12_fits, 4, (some .boolean), 12)) rfl (show aTab 269 226 = some (.invokestatic 65, 3, 2, 239, 0, 3, 6, 12) from rfl) (Nat.le_of_ble_eq_true rfl) (Nat.le_of_ble_eq_true rfl) (Nat.le_of_ble_eq_true rfl) ⟨by decide, by decide⟩ q9) ?_
                refine e_then (e_ifT hT (y := 269) (pc := 229) (q := (yX12_fits, cX12_fits, 4, (some .boolean), 12)) rfl (show aTab 269 229 = some (.ifCond .eq 7, 3, 0, 0, 0, 0, 0, 0) from rfl) rfl (t := 236) rfl (cdT (by show _ = _; decide))) ?_
                refine e_then (e_st hT (y := 269) (pc := 236) (q := (yX12_fits, cX12_fits, 4, (some .boolean), 12)) rfl (show aTab 269 236 = some (.iconst 0, 1, 0, 0, 0, 0, 0, 0) from rfl) (fr' := (269, 237, (lv_args 0 [.ref 128, .int k, .int a, .int b]), [.int 0])) (M' := M) rfl) ?_
                rw [gB_f (fun z => by have z := (ft_6 s6).mp z; have z1 := z.1; unfold twP at z1; first | exact z.2.1 c3 | (have z3 := z.2.2; rw [ek] at z3; exact c5 z3) | (have z3 := z.2.2; unfold kdO at z3; rw [if_neg c4] at z3; exact absurd z3.1 (by decide)) | omega)]
                exact e_fin (e_zret hT (y := 269) (pc := 237) (q := (yX12_fits, cX12_fits, 4, (some .boolean), 12)) rfl (show aTab 269 237 = some (.ireturn, 1, 0, 0, 0, 0, 0, 0) from rfl) ⟨rfl, rfl⟩ (Or.inl rfl)) ⟨rfl, rfl⟩
            · rw [gB_f c4] at q7
              refine e_then (e_call hT (y := 269) (pc := 210) (q := (yX12_fits, cX12_fits, 4, (some .boolean), 12)) rfl (show aTab 269 210 = some (.invokevirtual 77, 3, 1, 249, 0, 1, 2, 12) from rfl) rfl ⟨by decide, Nat.le_of_ble_eq_true rfl⟩ (ob_at hM (rfl : tTy 119 = some (.inr (12, _)))).choose_spec (Nat.le_of_ble_eq_true rfl) (Nat.le_of_ble_eq_true rfl) ⟨by decide, by decide⟩ q7) ?_
              refine e_then (e_ifT hT (y := 269) (pc := 213) (q := (yX12_fits, cX12_fits, 4, (some .boolean), 12)) rfl (show aTab 269 213 = some (.ifCond .eq 23, 3, 0, 0, 0, 0, 0, 0) from rfl) rfl (t := 236) rfl (cdT (by show _ = _; decide))) ?_
              refine e_then (e_st hT (y := 269) (pc := 236) (q := (yX12_fits, cX12_fits, 4, (some .boolean), 12)) rfl (show aTab 269 236 = some (.iconst 0, 1, 0, 0, 0, 0, 0, 0) from rfl) (fr' := (269, 237, (lv_args 0 [.ref 128, .int k, .int a, .int b]), [.int 0])) (M' := M) rfl) ?_
              rw [gB_f (fun z => by have z := (ft_6 s6).mp z; have z1 := z.1; unfold twP at z1; first | exact z.2.1 c3 | (have z3 := z.2.2; rw [ek] at z3; exact c5 z3) | (have z3 := z.2.2; unfold kdO at z3; rw [if_neg c4] at z3; exact absurd z3.1 (by decide)) | omega)]
              exact e_fin (e_zret hT (y := 269) (pc := 237) (q := (yX12_fits, cX12_fits, 4, (some .boolean), 12)) rfl (show aTab 269 237 = some (.ireturn, 1, 0, 0, 0, 0, 0, 0) from rfl) ⟨rfl, rfl⟩ (Or.inl rfl)) ⟨rfl, rfl⟩
      · rw [gB_f c1] at q3
        refine e_then (e_calls hT (y := 269) (pc := 182) (q := (yX12_fits, cX12_fits, 4, (some .boolean), 12)) rfl (show aTab 269 182 = some (.invokestatic 65, 3, 2, 239, 0, 3, 6, 12) from rfl) (Nat.le_of_ble_eq_true rfl) (Nat.le_of_ble_eq_true rfl) (Nat.le_of_ble_eq_true rfl) ⟨by decide, by decide⟩ q3) ?_
        refine e_then (e_ifT hT (y := 269) (pc := 185) (q := (yX12_fits, cX12_fits, 4, (some .boolean), 12)) rfl (show aTab 269 185 = some (.ifCond .eq 51, 3, 0, 0, 0, 0, 0, 0) from rfl) rfl (t := 236) rfl (cdT (by show _ = _; decide))) ?_
        refine e_then (e_st hT (y := 269) (pc := 236) (q := (yX12_fits, cX12_fits, 4, (some .boolean), 12)) rfl (show aTab 269 236 = some (.iconst 0, 1, 0, 0, 0, 0, 0, 0) from rfl) (fr' := (269, 237, (lv_args 0 [.ref 128, .int k, .int a, .int b]), [.int 0])) (M' := M) rfl) ?_
        rw [gB_f (fun z => by have z := (ft_6 s6).mp z; have z1 := z.1; unfold twP at z1; first | exact z.2.1 c3 | (have z3 := z.2.2; rw [ek] at z3; exact c5 z3) | (have z3 := z.2.2; unfold kdO at z3; rw [if_neg c4] at z3; exact absurd z3.1 (by decide)) | omega)]
        exact e_fin (e_zret hT (y := 269) (pc := 237) (q := (yX12_fits, cX12_fits, 4, (some .boolean), 12)) rfl (show aTab 269 237 = some (.ireturn, 1, 0, 0, 0, 0, 0, 0) from rfl) ⟨rfl, rfl⟩ (Or.inl rfl)) ⟨rfl, rfl⟩
    refine e_then (e_tsD hT (y := 269) (pc := 1) (q := (yX12_fits, cX12_fits, 4, (some .boolean), 12)) rfl (show aTab 269 1 = some (.tableswitch 237 0 6 #[43, 57, 95, 237, 123, 149, 175], 43, 0, 0, 0, 0, 0, 0) from rfl) (by omega) (t := 238) rfl) ?_
    refine e_then (e_il1 hT (y := 269) (pc := 238) (q := (yX12_fits, cX12_fits, 4, (some .boolean), 12)) rfl (show aTab 269 238 = some (.iload_n 1, 1, 0, 0, 0, 0, 0, 0) from rfl) rfl rfl) ?_
    refine e_then (e_st hT (y := 269) (pc := 239) (q := (yX12_fits, cX12_fits, 4, (some .boolean), 12)) rfl (show aTab 269 239 = some (.bipush 7, 2, 0, 0, 0, 0, 0, 0) from rfl) (fr' := (269, 241, (lv_args 0 [.ref 128, .int k, .int a, .int b]), [.int 7, .int k])) (M' := M) rfl) ?_
    by_cases s7 : k.toInt = 7
    · refine e_then (e_icF hT (y := 269) (pc := 241) (q := (yX12_fits, cX12_fits, 4, (some .boolean), 12)) rfl (show aTab 269 241 = some (.if_icmp .ne 19, 3, 0, 0, 0, 0, 0, 0) from rfl) rfl (t := 260) rfl (cdF (by show ¬ (¬ _ = _); omega))) ?_
      refine e_then (e_al1 hT (y := 269) (pc := 244) (q := (yX12_fits, cX12_fits, 4, (some .boolean), 12)) rfl (show aTab 269 244 = some (.aload_n 0, 1, 0, 0, 0, 0, 0, 0) from rfl) rfl rfl) ?_
      refine e_then (e_il1 hT (y := 269) (pc := 245) (q := (yX12_fits, cX12_fits, 4, (some .boolean), 12)) rfl (show aTab 269 245 = some (.iload_n 2, 1, 0, 0, 0, 0, 0, 0) from rfl) rfl rfl) ?_
      by_cases c1 : lnP (rkd g) P a
      · rw [gB_t c1] at q1
        refine e_then (e_call hT (y := 269) (pc := 246) (q := (yX12_fits, cX12_fits, 4, (some .boolean), 12)) rfl (show aTab 269 246 = some (.invokevirtual 128, 3, 1, 255, 0, 1, 2, 12) from rfl) rfl ⟨by decide, Nat.le_of_ble_eq_true rfl⟩ (ob_at hM (rfl : tTy 119 = some (.inr (12, _)))).choose_spec (Nat.le_of_ble_eq_true rfl) (Nat.le_of_ble_eq_true rfl) ⟨by decide, by decide⟩ q1) ?_
        refine e_then (e_ifF hT (y := 269) (pc := 249) (q := (yX12_fits, cX12_fits, 4, (some .boolean), 12)) rfl (show aTab 269 249 = some (.ifCond .eq 11, 3, 0, 0, 0, 0, 0, 0) from rfl) rfl (t := 260) rfl (cdF (by show ¬ (_ = _); decide))) ?_
        refine e_then (e_il1 hT (y := 269) (pc := 252) (q := (yX12_fits, cX12_fits, 4, (some .boolean), 12)) rfl (show aTab 269 252 = some (.iload_n 3, 1, 0, 0, 0, 0, 0, 0) from rfl) rfl rfl) ?_
        by_cases c2 : b.toInt = 0
        · refine e_then (e_ifF hT (y := 269) (pc := 253) (q := (yX12_fits, cX12_fits, 4, (some .boolean), 12)) rfl (show aTab 269 253 = some (.ifCond .ne 7, 3, 0, 0, 0, 0, 0, 0) from rfl) rfl (t := 260) rfl (cdF (by have e0 : (0 : Int32).toInt = 0 := rfl; show ¬ (¬ _ = _); omega))) ?_
          refine e_then (e_st hT (y := 269) (pc := 256) (q := (yX12_fits, cX12_fits, 4, (some .boolean), 12)) rfl (show aTab 269 256 = some (.iconst 1, 1, 0, 0, 0, 0, 0, 0) from rfl) (fr' := (269, 257, (lv_args 0 [.ref 128, .int k, .int a, .int b]), [.int 1])) (M' := M) rfl) ?_
          refine e_then (e_st hT (y := 269) (pc := 257) (q := (yX12_fits, cX12_fits, 4, (some .boolean), 12)) rfl (show aTab 269 257 = some (.goto 4, 3, 0, 0, 0, 0, 0, 0) from rfl) (fr' := (269, 261, (lv_args 0 [.ref 128, .int k, .int a, .int b]), [.int 1])) (M' := M) rfl) ?_
          rw [gB_t ((ft_7 s7).mpr ⟨c1, c2⟩)]
          exact e_fin (e_zret hT (y := 269) (pc := 261) (q := (yX12_fits, cX12_fits, 4, (some .boolean), 12)) rfl (show aTab 269 261 = some (.ireturn, 1, 0, 0, 0, 0, 0, 0) from rfl) ⟨rfl, rfl⟩ (Or.inr rfl)) ⟨rfl, rfl⟩
        · refine e_then (e_ifT hT (y := 269) (pc := 253) (q := (yX12_fits, cX12_fits, 4, (some .boolean), 12)) rfl (show aTab 269 253 = some (.ifCond .ne 7, 3, 0, 0, 0, 0, 0, 0) from rfl) rfl (t := 260) rfl (cdT (by have e0 : (0 : Int32).toInt = 0 := rfl; show ¬ _ = _; omega))) ?_
          refine e_then (e_st hT (y := 269) (pc := 260) (q := (yX12_fits, cX12_fits, 4, (some .boolean), 12)) rfl (show aTab 269 260 = some (.iconst 0, 1, 0, 0, 0, 0, 0, 0) from rfl) (fr' := (269, 261, (lv_args 0 [.ref 128, .int k, .int a, .int b]), [.int 0])) (M' := M) rfl) ?_
          rw [gB_f (fun z => by first | exact ft_3 (by omega) z | (have z := (ft_7 s7).mp z; first | exact c1 z.1 | exact c2 z.2))]
          exact e_fin (e_zret hT (y := 269) (pc := 261) (q := (yX12_fits, cX12_fits, 4, (some .boolean), 12)) rfl (show aTab 269 261 = some (.ireturn, 1, 0, 0, 0, 0, 0, 0) from rfl) ⟨rfl, rfl⟩ (Or.inl rfl)) ⟨rfl, rfl⟩
      · rw [gB_f c1] at q1
        refine e_then (e_call hT (y := 269) (pc := 246) (q := (yX12_fits, cX12_fits, 4, (some .boolean), 12)) rfl (show aTab 269 246 = some (.invokevirtual 128, 3, 1, 255, 0, 1, 2, 12) from rfl) rfl ⟨by decide, Nat.le_of_ble_eq_true rfl⟩ (ob_at hM (rfl : tTy 119 = some (.inr (12, _)))).choose_spec (Nat.le_of_ble_eq_true rfl) (Nat.le_of_ble_eq_true rfl) ⟨by decide, by decide⟩ q1) ?_
        refine e_then (e_ifT hT (y := 269) (pc := 249) (q := (yX12_fits, cX12_fits, 4, (some .boolean), 12)) rfl (show aTab 269 249 = some (.ifCond .eq 11, 3, 0, 0, 0, 0, 0, 0) from rfl) rfl (t := 260) rfl (cdT (by show _ = _; decide))) ?_
        refine e_then (e_st hT (y := 269) (pc := 260) (q := (yX12_fits, cX12_fits, 4, (some .boolean), 12)) rfl (show aTab 269 260 = some (.iconst 0, 1, 0, 0, 0, 0, 0, 0) from rfl) (fr' := (269, 261, (lv_args 0 [.ref 128, .int k, .int a, .int b]), [.int 0])) (M' := M) rfl) ?_
        rw [gB_f (fun z => by first | exact ft_3 (by omega) z | (have z := (ft_7 s7).mp z; first | exact c1 z.1 | exact c2 z.2))]
        exact e_fin (e_zret hT (y := 269) (pc := 261) (q := (yX12_fits, cX12_fits, 4, (some .boolean), 12)) rfl (show aTab 269 261 = some (.ireturn, 1, 0, 0, 0, 0, 0, 0) from rfl) ⟨rfl, rfl⟩ (Or.inl rfl)) ⟨rfl, rfl⟩
    · refine e_then (e_icT hT (y := 269) (pc := 241) (q := (yX12_fits, cX12_fits, 4, (some .boolean), 12)) rfl (show aTab 269 241 = some (.if_icmp .ne 19, 3, 0, 0, 0, 0, 0, 0) from rfl) rfl (t := 260) rfl (cdT (by show ¬ _ = _; omega))) ?_
      refine e_then (e_st hT (y := 269) (pc := 260) (q := (yX12_fits, cX12_fits, 4, (some .boolean), 12)) rfl (show aTab 269 260 = some (.iconst 0, 1, 0, 0, 0, 0, 0, 0) from rfl) (fr' := (269, 261, (lv_args 0 [.ref 128, .int k, .int a, .int b]), [.int 0])) (M' := M) rfl) ?_
      rw [gB_f (fun z => by first | exact ft_3 (by omega) z | (have z := (ft_7 s7).mp z; first | exact c1 z.1 | exact c2 z.2))]
      exact e_fin (e_zret hT (y := 269) (pc := 261) (q := (yX12_fits, cX12_fits, 4, (some .boolean), 12)) rfl (show aTab 269 261 = some (.ireturn, 1, 0, 0, 0, 0, 0, 0) from rfl) ⟨rfl, rfl⟩ (Or.inl rfl)) ⟨rfl, rfl⟩
  obtain ⟨K, r, M', q, rfl, rfl⟩ := go
  exact ⟨K, mRun_dm q hd⟩
def rnpS (g : Nat → Nat → Int32) (P j : Nat) : Nat → Nat → Int32 := fun c k => if c = 120 ∧ 560 ≤ k ∧ k < 560 + 40 * j ∧ k % 40 = P then 0 else g c k
theorem rnpS_k {g : Nat → Nat → Int32} {P j k : Nat} (h : k < 560 ∨ 560 + 40 * j ≤ k) : rnpS g P j 120 k = g 120 k := if_neg (fun z => by have := z.2.1; have := z.2.2.1; omega)
theorem rnpS_c {g : Nat → Nat → Int32} {P j c : Nat} (h : c ≠ 120) (k : Nat) : rnpS g P j c k = g c k := if_neg (fun z => h z.1)
theorem rnpS_0 (g : Nat → Nat → Int32) (P : Nat) : rnpS g P 0 = g := by
  funext c k
  exact if_neg (fun z => by have := z.2.1; have := z.2.2.1; omega)
theorem rnpS_s {g : Nat → Nat → Int32} {P j : Nat} (hP : P < 40) : up2 (rnpS g P j) 120 (560 + 40 * j + P) 0 = rnpS g P (j + 1) := by
  funext c k
  by_cases e : c = 120 ∧ k = 560 + 40 * j + P
  · obtain ⟨rfl, rfl⟩ := e
    rw [up2_eq]
    exact (if_pos ⟨rfl, by omega, by omega, by omega⟩).symm
  · rw [show up2 (rnpS g P j) 120 (560 + 40 * j + P) 0 c k = rnpS g P j c k from if_neg e]
    unfold rnpS
    by_cases e2 : c = 120 ∧ 560 ≤ k ∧ k < 560 + 40 * j ∧ k % 40 = P
    · rw [if_pos e2, if_pos ⟨e2.1, e2.2.1, by have := e2.2.2.1; omega, e2.2.2.2⟩]
    · rw [if_neg e2, if_neg (fun z => e2 ⟨z.1, z.2.1, by have h0 := z.1; have h1 := z.2.1; have h2 := z.2.2.1; have h3 := z.2.2.2; have h4 : ¬ (c = 120 ∧ k = 560 + 40 * j + P) := e; omega, z.2.2.2⟩)]
def rnpA (g : Nat → Nat → Int32) (P : Nat) (k a b on md : Int32) : Nat → Nat → Int32 := up2 (up2 (up2 (up2 (up2 (up2 (up2 (up2 (up2 (up2 g 120 (160 + 10 * P) k) 120 (161 + 10 * P) a) 120 (162 + 10 * P) b) 120 (163 + 10 * P) 0) 120 (164 + 10 * P) on) 120 (165 + 10 * P) md) 120 (166 + 10 * P) 0) 120 (167 + 10 * P) (-1)) 120 (168 + 10 * P) (-1)) 120 (169 + 10 * P) (-1)
def rnpG (g : Nat → Nat → Int32) (P : Nat) (k a b on md : Int32) : Nat → Nat → Int32 := up2 (rnpS (rnpA g P k a b on md) P 9) 120 5 (Int32.ofNat (P + 1))
theorem oa_s {j P : Nat} (hj : j < 1000) (hP : P < 1000) : ((560 : Int32) + 40 * Int32.ofNat j) + Int32.ofNat P = Int32.ofNat (560 + 40 * j + P) := by
  rw [show (40 : Int32) = Int32.ofNat 40 from rfl, show (560 : Int32) = Int32.ofNat 560 from rfl, ixm (by decide) (by omega), oa (by omega), oa (by omega)]
theorem os_1 {N : Nat} (h : N < 1000) : Int32.ofNat (N + 1) - 1 = Int32.ofNat N := by
  have e := i32n (k := N + 1) (by omega)
  have e1 : (1 : Int32).toInt = 1 := rfl
  refine i32eq ?_
  rw [i32_sub (by omega) (by omega), e, e1, i32n (by omega)]
  omega
theorem rnp_loop (hT : aTabOk) {g : Nat → Nat → Int32} {P : Nat} (hP : g 120 5 = Int32.ofNat P) (hP2 : P < 40) (hpap : ∀ f : Nat → Int32, (∀ j, j < 560 → f j = g 120 j) → yPap f P) : ∀ (d j : Nat) (lv : List (Nat × Value)) (M1 : mHe), j + d = 9 → yTy M1 → rdI M1 = rnpS g P j → mlg 0 lv = some (.ref 128) → mlg 7 lv = some (.int (Int32.ofNat j)) → mEv none 15 (270, 119, lv, []) M1 (fun r M' => r = some (.int (Int32.ofNat P)) ∧ yTy M' ∧ rdI M' = up2 (rnpS g P 9) 120 5 (Int32.ofNat (P + 1))) := by
  have eP := i32n (k := P) (by omega)
  have e9 : (9 : Int32).toInt = 9 := rfl
  intro d
  induction d with
  | zero =>
    intro j lv M1 hd hM hI h0 h7
    have hd : j = 9 := by omega
    subst hd
    obtain ⟨g1, hg⟩ : ∃ x, x = rdI M1 := ⟨_, rfl⟩
    rw [← hg] at hI
    have hg := hg.symm
    have hP1 : g1 120 5 = Int32.ofNat P := by rw [hI, rnpS_k (by omega)]; exact hP
    refine e_then (e_il2 hT (y := 270) (pc := 119) (q := (yX12_newPaper, cX12_newPaper, 8, (some .int), 12)) rfl (show aTab 270 119 = some (.iload 7, 2, 0, 0, 0, 0, 0, 0) from rfl) rfl h7) ?_
    refine e_then (e_st hT (y := 270) (pc := 121) (q := (yX12_newPaper, cX12_newPaper, 8, (some .int), 12)) rfl (show aTab 270 121 = some (.bipush 9, 2, 0, 0, 0, 0, 0, 0) from rfl) (fr' := (270, 123, lv, [.int 9, .int (Int32.ofNat 9)])) (M' := M1) rfl) ?_
    refine e_then (e_icT hT (y := 270) (pc := 123) (q := (yX12_newPaper, cX12_newPaper, 8, (some .int), 12)) rfl (show aTab 270 123 = some (.if_icmp .ge 31, 3, 0, 0, 0, 0, 0, 0) from rfl) rfl (t := 154) rfl (cdT (by show _ ≤ _; decide))) ?_
    refine e_then (e_al1 hT (y := 270) (pc := 154) (q := (yX12_newPaper, cX12_newPaper, 8, (some .int), 12)) rfl (show aTab 270 154 = some (.aload_n 0, 1, 0, 0, 0, 0, 0, 0) from rfl) rfl h0) ?_
    refine e_then (e_getR hT (y := 270) (pc := 155) (q := (yX12_newPaper, cX12_newPaper, 8, (some .int), 12)) rfl (show aTab 270 155 = some (.getfield 7, 3, 0, 12, 0, 0, 0, 0) from rfl) rfl (by decide) (by decide) hM rfl rfl) ?_
    refine e_then (e_st hT (y := 270) (pc := 158) (q := (yX12_newPaper, cX12_newPaper, 8, (some .int), 12)) rfl (show aTab 270 158 = some (.iconst 5, 1, 0, 0, 0, 0, 0, 0) from rfl) (fr' := (270, 159, lv, [.int 5, .ref 129])) (M' := M1) rfl) ?_
    refine e_then (e_st hT (y := 270) (pc := 159) (q := (yX12_newPaper, cX12_newPaper, 8, (some .int), 12)) rfl (show aTab 270 159 = some (.dup2, 1, 0, 0, 0, 0, 0, 0) from rfl) (fr' := (270, 160, lv, [.int 5, .ref 129, .int 5, .ref 129])) (M' := M1) rfl) ?_
    refine e_then (s_aldV hT (y := 270) (pc := 160) (q := (yX12_newPaper, cX12_newPaper, 8, (some .int), 12)) rfl (show aTab 270 160 = some (.iaload, 1, 0, 0, 0, 0, 0, 0) from rfl) rfl hM hg 120 5 rfl rfl (by decide) (v := (Int32.ofNat P)) (show (g1 120 5) = (Int32.ofNat P) from hP1)) ?_
    refine e_then (e_st hT (y := 270) (pc := 161) (q := (yX12_newPaper, cX12_newPaper, 8, (some .int), 12)) rfl (show aTab 270 161 = some (.iconst 1, 1, 0, 0, 0, 0, 0, 0) from rfl) (fr' := (270, 162, lv, [.int 1, .int (Int32.ofNat P), .int 5, .ref 129])) (M' := M1) rfl) ?_
    refine e_then (e_st hT (y := 270) (pc := 162) (q := (yX12_newPaper, cX12_newPaper, 8, (some .int), 12)) rfl (show aTab 270 162 = some (.iadd, 1, 0, 0, 0, 0, 0, 0) from rfl) (fr' := (270, 163, lv, [.int ((Int32.ofNat P) + 1), .int 5, .ref 129])) (M' := M1) rfl) ?_
    rw [oa1 (by omega)]
    obtain ⟨m1, sm1, tm1, em1⟩ := s_asq (sc := none) (d := _) (lv := lv) (st := []) (z := (Int32.ofNat (P + 1))) (i := 5) (l := 0) (h := 0) (vl := 0) (vh := 40) (C := 5) (m := 1) (N := 0) hT (y := 270) (pc := 163) (q := (yX12_newPaper, cX12_newPaper, 8, (some .int), 12)) rfl (show aTab 270 163 = some (.iastore, 1, 0, 0, 0, 0, 0, 0) from rfl) rfl hM hg (by decide +kernel) (by decide) ⟨by decide, by decide⟩ (by decide) rfl ⟨by rw [i32n (by omega)]; omega, by rw [i32n (by omega)]; omega⟩ (fun f hf hp => yP_app hp (by rw [hf 5 (by decide), hP1]; exact eP) hP2 (hpap f (fun j hj => by rw [hf j (by omega), hI, rnpS_k (by omega)])))
    refine e_then sm1 ?_
    have fm1 : rdI m1 = up2 g1 120 5 (Int32.ofNat (P + 1)) := em1
    refine e_then (e_al1 hT (y := 270) (pc := 164) (q := (yX12_newPaper, cX12_newPaper, 8, (some .int), 12)) rfl (show aTab 270 164 = some (.aload_n 0, 1, 0, 0, 0, 0, 0, 0) from rfl) rfl h0) ?_
    refine e_then (e_getR hT (y := 270) (pc := 165) (q := (yX12_newPaper, cX12_newPaper, 8, (some .int), 12)) rfl (show aTab 270 165 = some (.getfield 7, 3, 0, 12, 0, 0, 0, 0) from rfl) rfl (by decide) (by decide) tm1 rfl rfl) ?_
    refine e_then (e_st hT (y := 270) (pc := 168) (q := (yX12_newPaper, cX12_newPaper, 8, (some .int), 12)) rfl (show aTab 270 168 = some (.iconst 5, 1, 0, 0, 0, 0, 0, 0) from rfl) (fr' := (270, 169, lv, [.int 5, .ref 129])) (M' := m1) rfl) ?_
    refine e_then (s_aldV hT (y := 270) (pc := 169) (q := (yX12_newPaper, cX12_newPaper, 8, (some .int), 12)) rfl (show aTab 270 169 = some (.iaload, 1, 0, 0, 0, 0, 0, 0) from rfl) rfl tm1 fm1 120 5 rfl rfl (by decide) (v := (Int32.ofNat (P + 1))) rfl) ?_
    refine e_then (e_st hT (y := 270) (pc := 170) (q := (yX12_newPaper, cX12_newPaper, 8, (some .int), 12)) rfl (show aTab 270 170 = some (.iconst 1, 1, 0, 0, 0, 0, 0, 0) from rfl) (fr' := (270, 171, lv, [.int 1, .int (Int32.ofNat (P + 1))])) (M' := m1) rfl) ?_
    have e6 := os_1 (N := P) (by omega)
    refine e_then (e_st hT (y := 270) (pc := 171) (q := (yX12_newPaper, cX12_newPaper, 8, (some .int), 12)) rfl (show aTab 270 171 = some (.isub, 1, 0, 0, 0, 0, 0, 0) from rfl) (fr' := (270, 172, lv, [.int ((Int32.ofNat (P + 1)) - 1)])) (M' := m1) rfl) ?_
    rw [e6]
    exact e_fin (e_iret hT (y := 270) (pc := 172) (q := (yX12_newPaper, cX12_newPaper, 8, (some .int), 12)) rfl (show aTab 270 172 = some (.ireturn, 1, 0, 0, 0, 0, 0, 0) from rfl) ⟨rfl, rfl⟩) ⟨rfl, tm1, by rw [fm1, hI]⟩
  | succ d ih =>
    intro j lv M1 hd hM hI h0 h7
    have ej := i32n (k := j) (by omega)
    obtain ⟨g1, hg⟩ : ∃ x, x = rdI M1 := ⟨_, rfl⟩
    rw [← hg] at hI
    have hg := hg.symm
    have hP1 : g1 120 5 = Int32.ofNat P := by rw [hI, rnpS_k (by omega)]; exact hP
    have ix : (((560 : Int32) + 40 * Int32.ofNat j) + Int32.ofNat P).toInt = ((560 + 40 * j + P : Nat) : Int) := by rw [oa_s (by omega) (by omega), i32n (by omega)]
    refine e_then (e_il2 hT (y := 270) (pc := 119) (q := (yX12_newPaper, cX12_newPaper, 8, (some .int), 12)) rfl (show aTab 270 119 = some (.iload 7, 2, 0, 0, 0, 0, 0, 0) from rfl) rfl h7) ?_
    refine e_then (e_st hT (y := 270) (pc := 121) (q := (yX12_newPaper, cX12_newPaper, 8, (some .int), 12)) rfl (show aTab 270 121 = some (.bipush 9, 2, 0, 0, 0, 0, 0, 0) from rfl) (fr' := (270, 123, lv, [.int 9, .int (Int32.ofNat j)])) (M' := M1) rfl) ?_
    refine e_then (e_icF hT (y := 270) (pc := 123) (q := (yX12_newPaper, cX12_newPaper, 8, (some .int), 12)) rfl (show aTab 270 123 = some (.if_icmp .ge 31, 3, 0, 0, 0, 0, 0, 0) from rfl) rfl (t := 154) rfl (cdF (by show ¬ _ ≤ _; omega))) ?_
    refine e_then (e_al1 hT (y := 270) (pc := 126) (q := (yX12_newPaper, cX12_newPaper, 8, (some .int), 12)) rfl (show aTab 270 126 = some (.aload_n 0, 1, 0, 0, 0, 0, 0, 0) from rfl) rfl h0) ?_
    refine e_then (e_getR hT (y := 270) (pc := 127) (q := (yX12_newPaper, cX12_newPaper, 8, (some .int), 12)) rfl (show aTab 270 127 = some (.getfield 7, 3, 0, 12, 0, 0, 0, 0) from rfl) rfl (by decide) (by decide) hM rfl rfl) ?_
    refine e_then (e_st hT (y := 270) (pc := 130) (q := (yX12_newPaper, cX12_newPaper, 8, (some .int), 12)) rfl (show aTab 270 130 = some (.sipush 560, 3, 0, 0, 0, 0, 0, 0) from rfl) (fr' := (270, 133, lv, [.int 560, .ref 129])) (M' := M1) rfl) ?_
    refine e_then (e_st hT (y := 270) (pc := 133) (q := (yX12_newPaper, cX12_newPaper, 8, (some .int), 12)) rfl (show aTab 270 133 = some (.bipush 40, 2, 0, 0, 0, 0, 0, 0) from rfl) (fr' := (270, 135, lv, [.int 40, .int 560, .ref 129])) (M' := M1) rfl) ?_
    refine e_then (e_il2 hT (y := 270) (pc := 135) (q := (yX12_newPaper, cX12_newPaper, 8, (some .int), 12)) rfl (show aTab 270 135 = some (.iload 7, 2, 0, 0, 0, 0, 0, 0) from rfl) rfl h7) ?_
    refine e_then (e_st hT (y := 270) (pc := 137) (q := (yX12_newPaper, cX12_newPaper, 8, (some .int), 12)) rfl (show aTab 270 137 = some (.imul, 1, 0, 0, 0, 0, 0, 0) from rfl) (fr' := (270, 138, lv, [.int (40 * (Int32.ofNat j)), .int 560, .ref 129])) (M' := M1) rfl) ?_
    refine e_then (e_st hT (y := 270) (pc := 138) (q := (yX12_newPaper, cX12_newPaper, 8, (some .int), 12)) rfl (show aTab 270 138 = some (.iadd, 1, 0, 0, 0, 0, 0, 0) from rfl) (fr' := (270, 139, lv, [.int (560 + (40 * (Int32.ofNat j))), .ref 129])) (M' := M1) rfl) ?_
    refine e_then (e_al1 hT (y := 270) (pc := 139) (q := (yX12_newPaper, cX12_newPaper, 8, (some .int), 12)) rfl (show aTab 270 139 = some (.aload_n 0, 1, 0, 0, 0, 0, 0, 0) from rfl) rfl h0) ?_
    refine e_then (e_getR hT (y := 270) (pc := 140) (q := (yX12_newPaper, cX12_newPaper, 8, (some .int), 12)) rfl (show aTab 270 140 = some (.getfield 7, 3, 0, 12, 0, 0, 0, 0) from rfl) rfl (by decide) (by decide) hM rfl rfl) ?_
    refine e_then (e_st hT (y := 270) (pc := 143) (q := (yX12_newPaper, cX12_newPaper, 8, (some .int), 12)) rfl (show aTab 270 143 = some (.iconst 5, 1, 0, 0, 0, 0, 0, 0) from rfl) (fr' := (270, 144, lv, [.int 5, .ref 129, .int (560 + (40 * (Int32.ofNat j))), .ref 129])) (M' := M1) rfl) ?_
    refine e_then (s_aldV hT (y := 270) (pc := 144) (q := (yX12_newPaper, cX12_newPaper, 8, (some .int), 12)) rfl (show aTab 270 144 = some (.iaload, 1, 0, 0, 0, 0, 0, 0) from rfl) rfl hM hg 120 5 rfl rfl (by decide) (v := (Int32.ofNat P)) (show (g1 120 5) = (Int32.ofNat P) from hP1)) ?_
    refine e_then (e_st hT (y := 270) (pc := 145) (q := (yX12_newPaper, cX12_newPaper, 8, (some .int), 12)) rfl (show aTab 270 145 = some (.iadd, 1, 0, 0, 0, 0, 0, 0) from rfl) (fr' := (270, 146, lv, [.int ((560 + (40 * (Int32.ofNat j))) + (Int32.ofNat P)), .ref 129])) (M' := M1) rfl) ?_
    refine e_then (e_st hT (y := 270) (pc := 146) (q := (yX12_newPaper, cX12_newPaper, 8, (some .int), 12)) rfl (show aTab 270 146 = some (.iconst 0, 1, 0, 0, 0, 0, 0, 0) from rfl) (fr' := (270, 147, lv, [.int 0, .int ((560 + (40 * (Int32.ofNat j))) + (Int32.ofNat P)), .ref 129])) (M' := M1) rfl) ?_
    obtain ⟨m1, sm1, tm1, em1⟩ := s_asb (sc := none) (d := _) (lv := lv) (st := []) (z := 0) (i := ((560 + (40 * (Int32.ofNat j))) + (Int32.ofNat P))) (l := 560) (h := 919) (vl := (-2147483648)) (vh := 2147483647) hT (y := 270) (pc := 147) (q := (yX12_newPaper, cX12_newPaper, 8, (some .int), 12)) rfl (show aTab 270 147 = some (.iastore, 1, 0, 0, 0, 0, 0, 0) from rfl) rfl hM hg 120 (560 + 40 * j + P) rfl (by decide +kernel) ix ⟨by omega, by omega⟩ ⟨by decide, by decide⟩
    refine e_then sm1 ?_
    refine e_then (e_ii hT (y := 270) (pc := 148) (q := (yX12_newPaper, cX12_newPaper, 8, (some .int), 12)) rfl (show aTab 270 148 = some (.iinc 7 1, 3, 0, 0, 0, 0, 0, 0) from rfl) ⟨rfl, by decide⟩ h7) ?_
    refine e_then (e_st hT (y := 270) (pc := 151) (q := (yX12_newPaper, cX12_newPaper, 8, (some .int), 12)) rfl (show aTab 270 151 = some (.goto (-32), 3, 0, 0, 0, 0, 0, 0) from rfl) (fr' := (270, 119, (mlp 7 (.int ((Int32.ofNat j) + Int32.ofInt 1)) lv), [])) (M' := m1) rfl) ?_
    rw [os1 (by omega)]
    exact ih _ _ _ (by omega) tm1 (by rw [em1, hI]; exact rnpS_s hP2) (mlg_r h0 (by decide)) (mlg_eq 7 _ _)
theorem ixg {P c : Nat} (hP : P < 40) (hc : c < 10) {z : Int32} (hz : z.toInt = (c : Int)) : (Int32.ofNat (160 + 10 * P) + z).toInt = ((160 + c + 10 * P : Nat) : Int) := by
  have e2 : z = Int32.ofNat c := i32eq (by rw [hz, i32n (by omega)])
  rw [e2, ixp (by omega)]
  omega
/-- what newPaper may be given -/
def papK (kd : Nat → Int32) (P : Nat) (k a b on : Int32) : Prop := (((2 ≤ k.toInt ∧ k.toInt ≤ 5) ∨ k.toInt = 7) → lnP kd P a) ∧ (k.toInt = 6 → 0 ≤ b.toInt ∧ b.toInt < (P : Int)) ∧ (k.toInt = 3 → chP kd P on)
def rnpK (k a b on md : Int32) : Prop := (0 ≤ k.toInt ∧ k.toInt ≤ 7) ∧ (0 ≤ a.toInt ∧ a.toInt ≤ 88) ∧ (-1 ≤ on.toInt ∧ on.toInt ≤ 39) ∧ (0 ≤ md.toInt ∧ md.toInt ≤ 1)
theorem rnp_run (hT : aTabOk) {M : mHe} (hM : yTy M) {g : Nat → Nat → Int32} (hg : rdI M = g) {P : Nat} (hP : g 120 5 = Int32.ofNat P) (hP2 : P ≤ 40) (hP4 : P < 40) {k a b on md : Int32} (hk : rnpK k a b on md) (hpp : papK (rkd g) P k a b on) {d : Nat} (hd : 15 ≤ d) : ∃ K M', mRun none K d (270, 0, lv_args 0 [.ref 128, .int k, .int a, .int b, .int on, .int md], []) M = some (some (.int (Int32.ofNat P)), M') ∧ yTy M' ∧ rdI M' = rnpG g P k a b on md := by
  obtain ⟨hk1, hk2, hk3, hk4⟩ := hk
  have eP := i32n (k := P) (by omega)
  obtain ⟨K1, q1⟩ := rpa_run hT (M := M) (m := P) (by omega) (d := 14) (by decide)
  have go : mEv none 15 (270, 0, lv_args 0 [.ref 128, .int k, .int a, .int b, .int on, .int md], []) M (fun r M' => r = some (.int (Int32.ofNat P)) ∧ yTy M' ∧ rdI M' = rnpG g P k a b on md) := by
    refine e_then (e_al1 hT (y := 270) (pc := 0) (q := (yX12_newPaper, cX12_newPaper, 8, (some .int), 12)) rfl (show aTab 270 0 = some (.aload_n 0, 1, 0, 0, 0, 0, 0, 0) from rfl) rfl rfl) ?_
    refine e_then (e_al1 hT (y := 270) (pc := 1) (q := (yX12_newPaper, cX12_newPaper, 8, (some .int), 12)) rfl (show aTab 270 1 = some (.aload_n 0, 1, 0, 0, 0, 0, 0, 0) from rfl) rfl rfl) ?_
    refine e_then (e_getR hT (y := 270) (pc := 2) (q := (yX12_newPaper, cX12_newPaper, 8, (some .int), 12)) rfl (show aTab 270 2 = some (.getfield 7, 3, 0, 12, 0, 0, 0, 0) from rfl) rfl (by decide) (by decide) hM rfl rfl) ?_
    refine e_then (e_st hT (y := 270) (pc := 5) (q := (yX12_newPaper, cX12_newPaper, 8, (some .int), 12)) rfl (show aTab 270 5 = some (.iconst 5, 1, 0, 0, 0, 0, 0, 0) from rfl) (fr' := (270, 6, (lv_args 0 [.ref 128, .int k, .int a, .int b, .int on, .int md]), [.int 5, .ref 129, .ref 128])) (M' := M) rfl) ?_
    refine e_then (s_aldV hT (y := 270) (pc := 6) (q := (yX12_newPaper, cX12_newPaper, 8, (some .int), 12)) rfl (show aTab 270 6 = some (.iaload, 1, 0, 0, 0, 0, 0, 0) from rfl) rfl hM hg 120 5 rfl rfl (by decide) (v := (Int32.ofNat P)) (show (g 120 5) = (Int32.ofNat P) from hP)) ?_
    refine e_then (e_call hT (y := 270) (pc := 7) (q := (yX12_newPaper, cX12_newPaper, 8, (some .int), 12)) rfl (show aTab 270 7 = some (.invokevirtual 73, 3, 1, 246, 0, 1, 2, 12) from rfl) rfl ⟨by decide, Nat.le_of_ble_eq_true rfl⟩ (ob_at hM (rfl : tTy 119 = some (.inr (12, _)))).choose_spec (Nat.le_of_ble_eq_true rfl) (Nat.le_of_ble_eq_true rfl) ⟨by decide, by decide⟩ q1) ?_
    refine e_then (e_is2 hT (y := 270) (pc := 10) (q := (yX12_newPaper, cX12_newPaper, 8, (some .int), 12)) rfl (show aTab 270 10 = some (.istore 6, 2, 0, 0, 0, 0, 0, 0) from rfl) ⟨rfl, by decide⟩) ?_
    refine e_then (e_al1 hT (y := 270) (pc := 12) (q := (yX12_newPaper, cX12_newPaper, 8, (some .int), 12)) rfl (show aTab 270 12 = some (.aload_n 0, 1, 0, 0, 0, 0, 0, 0) from rfl) rfl (mlg_r rfl (by decide))) ?_
    refine e_then (e_getR hT (y := 270) (pc := 13) (q := (yX12_newPaper, cX12_newPaper, 8, (some .int), 12)) rfl (show aTab 270 13 = some (.getfield 7, 3, 0, 12, 0, 0, 0, 0) from rfl) rfl (by decide) (by decide) hM rfl rfl) ?_
    refine e_then (e_il2 hT (y := 270) (pc := 16) (q := (yX12_newPaper, cX12_newPaper, 8, (some .int), 12)) rfl (show aTab 270 16 = some (.iload 6, 2, 0, 0, 0, 0, 0, 0) from rfl) rfl (mlg_eq 6 _ _)) ?_
    refine e_then (e_il1 hT (y := 270) (pc := 18) (q := (yX12_newPaper, cX12_newPaper, 8, (some .int), 12)) rfl (show aTab 270 18 = some (.iload_n 1, 1, 0, 0, 0, 0, 0, 0) from rfl) rfl (mlg_i rfl (by decide))) ?_
    obtain ⟨m1, sm1, tm1, em1⟩ := s_asq (sc := none) (d := _) (lv := (mlp 6 (.int (Int32.ofNat (160 + 10 * P))) (lv_args 0 [.ref 128, .int k, .int a, .int b, .int on, .int md]))) (st := []) (z := k) (i := (Int32.ofNat (160 + 10 * P))) (l := 0) (h := 39) (vl := 0) (vh := 7) (C := 160) (m := 10) (N := P) hT (y := 270) (pc := 19) (q := (yX12_newPaper, cX12_newPaper, 8, (some .int), 12)) rfl (show aTab 270 19 = some (.iastore, 1, 0, 0, 0, 0, 0, 0) from rfl) rfl hM hg (by decide +kernel) (by decide) ⟨by omega, by omega⟩ (by omega) (i32n (by omega)) hk1 (fun f hf hp => yP_hi hp (P := P) (by rw [hf 5 (by decide), hP]; exact eP) ⟨by omega, by omega⟩)
    refine e_then sm1 ?_
    refine e_then (e_al1 hT (y := 270) (pc := 20) (q := (yX12_newPaper, cX12_newPaper, 8, (some .int), 12)) rfl (show aTab 270 20 = some (.aload_n 0, 1, 0, 0, 0, 0, 0, 0) from rfl) rfl (mlg_r rfl (by decide))) ?_
    refine e_then (e_getR hT (y := 270) (pc := 21) (q := (yX12_newPaper, cX12_newPaper, 8, (some .int), 12)) rfl (show aTab 270 21 = some (.getfield 7, 3, 0, 12, 0, 0, 0, 0) from rfl) rfl (by decide) (by decide) tm1 rfl rfl) ?_
    refine e_then (e_il2 hT (y := 270) (pc := 24) (q := (yX12_newPaper, cX12_newPaper, 8, (some .int), 12)) rfl (show aTab 270 24 = some (.iload 6, 2, 0, 0, 0, 0, 0, 0) from rfl) rfl (mlg_eq 6 _ _)) ?_
    refine e_then (e_st hT (y := 270) (pc := 26) (q := (yX12_newPaper, cX12_newPaper, 8, (some .int), 12)) rfl (show aTab 270 26 = some (.iconst 1, 1, 0, 0, 0, 0, 0, 0) from rfl) (fr' := (270, 27, (mlp 6 (.int (Int32.ofNat (160 + 10 * P))) (lv_args 0 [.ref 128, .int k, .int a, .int b, .int on, .int md])), [.int 1, .int (Int32.ofNat (160 + 10 * P)), .ref 129])) (M' := m1) rfl) ?_
    refine e_then (e_st hT (y := 270) (pc := 27) (q := (yX12_newPaper, cX12_newPaper, 8, (some .int), 12)) rfl (show aTab 270 27 = some (.iadd, 1, 0, 0, 0, 0, 0, 0) from rfl) (fr' := (270, 28, (mlp 6 (.int (Int32.ofNat (160 + 10 * P))) (lv_args 0 [.ref 128, .int k, .int a, .int b, .int on, .int md])), [.int ((Int32.ofNat (160 + 10 * P)) + 1), .ref 129])) (M' := m1) rfl) ?_
    refine e_then (e_il1 hT (y := 270) (pc := 28) (q := (yX12_newPaper, cX12_newPaper, 8, (some .int), 12)) rfl (show aTab 270 28 = some (.iload_n 2, 1, 0, 0, 0, 0, 0, 0) from rfl) rfl (mlg_i rfl (by decide))) ?_
    obtain ⟨m2, sm2, tm2, em2⟩ := s_asq (sc := none) (d := _) (lv := (mlp 6 (.int (Int32.ofNat (160 + 10 * P))) (lv_args 0 [.ref 128, .int k, .int a, .int b, .int on, .int md]))) (st := []) (z := a) (i := ((Int32.ofNat (160 + 10 * P)) + 1)) (l := 0) (h := 39) (vl := 0) (vh := 88) (C := 161) (m := 10) (N := P) hT (y := 270) (pc := 29) (q := (yX12_newPaper, cX12_newPaper, 8, (some .int), 12)) rfl (show aTab 270 29 = some (.iastore, 1, 0, 0, 0, 0, 0, 0) from rfl) rfl tm1 em1 (by decide +kernel) (by decide) ⟨by omega, by omega⟩ (by omega) (ixg (c := 1) hP4 (by decide) rfl) hk2 (fun f hf hp => yP_hi hp (P := P) (by rw [hf 5 (by decide), up2_k _ _ (by omega), hP]; exact eP) ⟨by omega, by omega⟩)
    refine e_then sm2 ?_
    refine e_then (e_al1 hT (y := 270) (pc := 30) (q := (yX12_newPaper, cX12_newPaper, 8, (some .int), 12)) rfl (show aTab 270 30 = some (.aload_n 0, 1, 0, 0, 0, 0, 0, 0) from rfl) rfl (mlg_r rfl (by decide))) ?_
    refine e_then (e_getR hT (y := 270) (pc := 31) (q := (yX12_newPaper, cX12_newPaper, 8, (some .int), 12)) rfl (show aTab 270 31 = some (.getfield 7, 3, 0, 12, 0, 0, 0, 0) from rfl) rfl (by decide) (by decide) tm2 rfl rfl) ?_
    refine e_then (e_il2 hT (y := 270) (pc := 34) (q := (yX12_newPaper, cX12_newPaper, 8, (some .int), 12)) rfl (show aTab 270 34 = some (.iload 6, 2, 0, 0, 0, 0, 0, 0) from rfl) rfl (mlg_eq 6 _ _)) ?_
    refine e_then (e_st hT (y := 270) (pc := 36) (q := (yX12_newPaper, cX12_newPaper, 8, (some .int), 12)) rfl (show aTab 270 36 = some (.iconst 2, 1, 0, 0, 0, 0, 0, 0) from rfl) (fr' := (270, 37, (mlp 6 (.int (Int32.ofNat (160 + 10 * P))) (lv_args 0 [.ref 128, .int k, .int a, .int b, .int on, .int md])), [.int 2, .int (Int32.ofNat (160 + 10 * P)), .ref 129])) (M' := m2) rfl) ?_
    refine e_then (e_st hT (y := 270) (pc := 37) (q := (yX12_newPaper, cX12_newPaper, 8, (some .int), 12)) rfl (show aTab 270 37 = some (.iadd, 1, 0, 0, 0, 0, 0, 0) from rfl) (fr' := (270, 38, (mlp 6 (.int (Int32.ofNat (160 + 10 * P))) (lv_args 0 [.ref 128, .int k, .int a, .int b, .int on, .int md])), [.int ((Int32.ofNat (160 + 10 * P)) + 2), .ref 129])) (M' := m2) rfl) ?_
    refine e_then (e_il1 hT (y := 270) (pc := 38) (q := (yX12_newPaper, cX12_newPaper, 8, (some .int), 12)) rfl (show aTab 270 38 = some (.iload_n 3, 1, 0, 0, 0, 0, 0, 0) from rfl) rfl (mlg_i rfl (by decide))) ?_
    obtain ⟨m3, sm3, tm3, em3⟩ := s_asq (sc := none) (d := _) (lv := (mlp 6 (.int (Int32.ofNat (160 + 10 * P))) (lv_args 0 [.ref 128, .int k, .int a, .int b, .int on, .int md]))) (st := []) (z := b) (i := ((Int32.ofNat (160 + 10 * P)) + 2)) (l := 0) (h := 39) (vl := (-2147483648)) (vh := 2147483647) (C := 162) (m := 10) (N := P) hT (y := 270) (pc := 39) (q := (yX12_newPaper, cX12_newPaper, 8, (some .int), 12)) rfl (show aTab 270 39 = some (.iastore, 1, 0, 0, 0, 0, 0, 0) from rfl) rfl tm2 em2 (by decide +kernel) (by decide) ⟨by omega, by omega⟩ (by omega) (ixg (c := 2) hP4 (by decide) rfl) ⟨i32_lo _, i32_hi _⟩ (fun f hf hp => yP_hi hp (P := P) (by rw [hf 5 (by decide), up2_k _ _ (by omega), up2_k _ _ (by omega), hP]; exact eP) ⟨by omega, by omega⟩)
    refine e_then sm3 ?_
    refine e_then (e_al1 hT (y := 270) (pc := 40) (q := (yX12_newPaper, cX12_newPaper, 8, (some .int), 12)) rfl (show aTab 270 40 = some (.aload_n 0, 1, 0, 0, 0, 0, 0, 0) from rfl) rfl (mlg_r rfl (by decide))) ?_
    refine e_then (e_getR hT (y := 270) (pc := 41) (q := (yX12_newPaper, cX12_newPaper, 8, (some .int), 12)) rfl (show aTab 270 41 = some (.getfield 7, 3, 0, 12, 0, 0, 0, 0) from rfl) rfl (by decide) (by decide) tm3 rfl rfl) ?_
    refine e_then (e_il2 hT (y := 270) (pc := 44) (q := (yX12_newPaper, cX12_newPaper, 8, (some .int), 12)) rfl (show aTab 270 44 = some (.iload 6, 2, 0, 0, 0, 0, 0, 0) from rfl) rfl (mlg_eq 6 _ _)) ?_
    refine e_then (e_st hT (y := 270) (pc := 46) (q := (yX12_newPaper, cX12_newPaper, 8, (some .int), 12)) rfl (show aTab 270 46 = some (.iconst 3, 1, 0, 0, 0, 0, 0, 0) from rfl) (fr' := (270, 47, (mlp 6 (.int (Int32.ofNat (160 + 10 * P))) (lv_args 0 [.ref 128, .int k, .int a, .int b, .int on, .int md])), [.int 3, .int (Int32.ofNat (160 + 10 * P)), .ref 129])) (M' := m3) rfl) ?_
    refine e_then (e_st hT (y := 270) (pc := 47) (q := (yX12_newPaper, cX12_newPaper, 8, (some .int), 12)) rfl (show aTab 270 47 = some (.iadd, 1, 0, 0, 0, 0, 0, 0) from rfl) (fr' := (270, 48, (mlp 6 (.int (Int32.ofNat (160 + 10 * P))) (lv_args 0 [.ref 128, .int k, .int a, .int b, .int on, .int md])), [.int ((Int32.ofNat (160 + 10 * P)) + 3), .ref 129])) (M' := m3) rfl) ?_
    refine e_then (e_st hT (y := 270) (pc := 48) (q := (yX12_newPaper, cX12_newPaper, 8, (some .int), 12)) rfl (show aTab 270 48 = some (.iconst 0, 1, 0, 0, 0, 0, 0, 0) from rfl) (fr' := (270, 49, (mlp 6 (.int (Int32.ofNat (160 + 10 * P))) (lv_args 0 [.ref 128, .int k, .int a, .int b, .int on, .int md])), [.int 0, .int ((Int32.ofNat (160 + 10 * P)) + 3), .ref 129])) (M' := m3) rfl) ?_
    obtain ⟨m4, sm4, tm4, em4⟩ := s_asm (sc := none) (d := _) (lv := (mlp 6 (.int (Int32.ofNat (160 + 10 * P))) (lv_args 0 [.ref 128, .int k, .int a, .int b, .int on, .int md]))) (st := []) (z := 0) (i := ((Int32.ofNat (160 + 10 * P)) + 3)) (l := 0) (h := 39) (vl := 0) (vh := 4) (C := 163) (m := 10) (N := P) hT (y := 270) (pc := 49) (q := (yX12_newPaper, cX12_newPaper, 8, (some .int), 12)) rfl (show aTab 270 49 = some (.iastore, 1, 0, 0, 0, 0, 0, 0) from rfl) rfl tm3 em3 120 rfl (by decide +kernel) (by decide) ⟨⟨by omega, by omega⟩, by omega⟩ (ixg (c := 3) hP4 (by decide) rfl) ⟨by decide, by decide⟩
    refine e_then sm4 ?_
    refine e_then (e_al1 hT (y := 270) (pc := 50) (q := (yX12_newPaper, cX12_newPaper, 8, (some .int), 12)) rfl (show aTab 270 50 = some (.aload_n 0, 1, 0, 0, 0, 0, 0, 0) from rfl) rfl (mlg_r rfl (by decide))) ?_
    refine e_then (e_getR hT (y := 270) (pc := 51) (q := (yX12_newPaper, cX12_newPaper, 8, (some .int), 12)) rfl (show aTab 270 51 = some (.getfield 7, 3, 0, 12, 0, 0, 0, 0) from rfl) rfl (by decide) (by decide) tm4 rfl rfl) ?_
    refine e_then (e_il2 hT (y := 270) (pc := 54) (q := (yX12_newPaper, cX12_newPaper, 8, (some .int), 12)) rfl (show aTab 270 54 = some (.iload 6, 2, 0, 0, 0, 0, 0, 0) from rfl) rfl (mlg_eq 6 _ _)) ?_
    refine e_then (e_st hT (y := 270) (pc := 56) (q := (yX12_newPaper, cX12_newPaper, 8, (some .int), 12)) rfl (show aTab 270 56 = some (.iconst 4, 1, 0, 0, 0, 0, 0, 0) from rfl) (fr' := (270, 57, (mlp 6 (.int (Int32.ofNat (160 + 10 * P))) (lv_args 0 [.ref 128, .int k, .int a, .int b, .int on, .int md])), [.int 4, .int (Int32.ofNat (160 + 10 * P)), .ref 129])) (M' := m4) rfl) ?_
    refine e_then (e_st hT (y := 270) (pc := 57) (q := (yX12_newPaper, cX12_newPaper, 8, (some .int), 12)) rfl (show aTab 270 57 = some (.iadd, 1, 0, 0, 0, 0, 0, 0) from rfl) (fr' := (270, 58, (mlp 6 (.int (Int32.ofNat (160 + 10 * P))) (lv_args 0 [.ref 128, .int k, .int a, .int b, .int on, .int md])), [.int ((Int32.ofNat (160 + 10 * P)) + 4), .ref 129])) (M' := m4) rfl) ?_
    refine e_then (e_il2 hT (y := 270) (pc := 58) (q := (yX12_newPaper, cX12_newPaper, 8, (some .int), 12)) rfl (show aTab 270 58 = some (.iload 4, 2, 0, 0, 0, 0, 0, 0) from rfl) rfl (mlg_i rfl (by decide))) ?_
    obtain ⟨m5, sm5, tm5, em5⟩ := s_asq (sc := none) (d := _) (lv := (mlp 6 (.int (Int32.ofNat (160 + 10 * P))) (lv_args 0 [.ref 128, .int k, .int a, .int b, .int on, .int md]))) (st := []) (z := on) (i := ((Int32.ofNat (160 + 10 * P)) + 4)) (l := 0) (h := 39) (vl := (-1)) (vh := 39) (C := 164) (m := 10) (N := P) hT (y := 270) (pc := 60) (q := (yX12_newPaper, cX12_newPaper, 8, (some .int), 12)) rfl (show aTab 270 60 = some (.iastore, 1, 0, 0, 0, 0, 0, 0) from rfl) rfl tm4 em4 (by decide +kernel) (by decide) ⟨by omega, by omega⟩ (by omega) (ixg (c := 4) hP4 (by decide) rfl) hk3 (fun f hf hp => yP_hi hp (P := P) (by rw [hf 5 (by decide), up2_k _ _ (by omega), up2_k _ _ (by omega), up2_k _ _ (by omega), up2_k _ _ (by omega), hP]; exact eP) ⟨by omega, by omega⟩)
    refine e_then sm5 ?_
    refine e_then (e_al1 hT (y := 270) (pc := 61) (q := (yX12_newPaper, cX12_newPaper, 8, (some .int), 12)) rfl (show aTab 270 61 = some (.aload_n 0, 1, 0, 0, 0, 0, 0, 0) from rfl) rfl (mlg_r rfl (by decide))) ?_
    refine e_then (e_getR hT (y := 270) (pc := 62) (q := (yX12_newPaper, cX12_newPaper, 8, (some .int), 12)) rfl (show aTab 270 62 = some (.getfield 7, 3, 0, 12, 0, 0, 0, 0) from rfl) rfl (by decide) (by decide) tm5 rfl rfl) ?_
    refine e_then (e_il2 hT (y := 270) (pc := 65) (q := (yX12_newPaper, cX12_newPaper, 8, (some .int), 12)) rfl (show aTab 270 65 = some (.iload 6, 2, 0, 0, 0, 0, 0, 0) from rfl) rfl (mlg_eq 6 _ _)) ?_
    refine e_then (e_st hT (y := 270) (pc := 67) (q := (yX12_newPaper, cX12_newPaper, 8, (some .int), 12)) rfl (show aTab 270 67 = some (.iconst 5, 1, 0, 0, 0, 0, 0, 0) from rfl) (fr' := (270, 68, (mlp 6 (.int (Int32.ofNat (160 + 10 * P))) (lv_args 0 [.ref 128, .int k, .int a, .int b, .int on, .int md])), [.int 5, .int (Int32.ofNat (160 + 10 * P)), .ref 129])) (M' := m5) rfl) ?_
    refine e_then (e_st hT (y := 270) (pc := 68) (q := (yX12_newPaper, cX12_newPaper, 8, (some .int), 12)) rfl (show aTab 270 68 = some (.iadd, 1, 0, 0, 0, 0, 0, 0) from rfl) (fr' := (270, 69, (mlp 6 (.int (Int32.ofNat (160 + 10 * P))) (lv_args 0 [.ref 128, .int k, .int a, .int b, .int on, .int md])), [.int ((Int32.ofNat (160 + 10 * P)) + 5), .ref 129])) (M' := m5) rfl) ?_
    refine e_then (e_il2 hT (y := 270) (pc := 69) (q := (yX12_newPaper, cX12_newPaper, 8, (some .int), 12)) rfl (show aTab 270 69 = some (.iload 5, 2, 0, 0, 0, 0, 0, 0) from rfl) rfl (mlg_i rfl (by decide))) ?_
    obtain ⟨m6, sm6, tm6, em6⟩ := s_asq (sc := none) (d := _) (lv := (mlp 6 (.int (Int32.ofNat (160 + 10 * P))) (lv_args 0 [.ref 128, .int k, .int a, .int b, .int on, .int md]))) (st := []) (z := md) (i := ((Int32.ofNat (160 + 10 * P)) + 5)) (l := 0) (h := 39) (vl := 0) (vh := 1) (C := 165) (m := 10) (N := P) hT (y := 270) (pc := 71) (q := (yX12_newPaper, cX12_newPaper, 8, (some .int), 12)) rfl (show aTab 270 71 = some (.iastore, 1, 0, 0, 0, 0, 0, 0) from rfl) rfl tm5 em5 (by decide +kernel) (by decide) ⟨by omega, by omega⟩ (by omega) (ixg (c := 5) hP4 (by decide) rfl) hk4 (fun f hf hp => yP_hi hp (P := P) (by rw [hf 5 (by decide), up2_k _ _ (by omega), up2_k _ _ (by omega), up2_k _ _ (by omega), up2_k _ _ (by omega), up2_k _ _ (by omega), hP]; exact eP) ⟨by omega, by omega⟩)
    refine e_then sm6 ?_
    refine e_then (e_al1 hT (y := 270) (pc := 72) (q := (yX12_newPaper, cX12_newPaper, 8, (some .int), 12)) rfl (show aTab 270 72 = some (.aload_n 0, 1, 0, 0, 0, 0, 0, 0) from rfl) rfl (mlg_r rfl (by decide))) ?_
    refine e_then (e_getR hT (y := 270) (pc := 73) (q := (yX12_newPaper, cX12_newPaper, 8, (some .int), 12)) rfl (show aTab 270 73 = some (.getfield 7, 3, 0, 12, 0, 0, 0, 0) from rfl) rfl (by decide) (by decide) tm6 rfl rfl) ?_
    refine e_then (e_il2 hT (y := 270) (pc := 76) (q := (yX12_newPaper, cX12_newPaper, 8, (some .int), 12)) rfl (show aTab 270 76 = some (.iload 6, 2, 0, 0, 0, 0, 0, 0) from rfl) rfl (mlg_eq 6 _ _)) ?_
    refine e_then (e_st hT (y := 270) (pc := 78) (q := (yX12_newPaper, cX12_newPaper, 8, (some .int), 12)) rfl (show aTab 270 78 = some (.bipush 6, 2, 0, 0, 0, 0, 0, 0) from rfl) (fr' := (270, 80, (mlp 6 (.int (Int32.ofNat (160 + 10 * P))) (lv_args 0 [.ref 128, .int k, .int a, .int b, .int on, .int md])), [.int 6, .int (Int32.ofNat (160 + 10 * P)), .ref 129])) (M' := m6) rfl) ?_
    refine e_then (e_st hT (y := 270) (pc := 80) (q := (yX12_newPaper, cX12_newPaper, 8, (some .int), 12)) rfl (show aTab 270 80 = some (.iadd, 1, 0, 0, 0, 0, 0, 0) from rfl) (fr' := (270, 81, (mlp 6 (.int (Int32.ofNat (160 + 10 * P))) (lv_args 0 [.ref 128, .int k, .int a, .int b, .int on, .int md])), [.int ((Int32.ofNat (160 + 10 * P)) + 6), .ref 129])) (M' := m6) rfl) ?_
    refine e_then (e_st hT (y := 270) (pc := 81) (q := (yX12_newPaper, cX12_newPaper, 8, (some .int), 12)) rfl (show aTab 270 81 = some (.iconst 0, 1, 0, 0, 0, 0, 0, 0) from rfl) (fr' := (270, 82, (mlp 6 (.int (Int32.ofNat (160 + 10 * P))) (lv_args 0 [.ref 128, .int k, .int a, .int b, .int on, .int md])), [.int 0, .int ((Int32.ofNat (160 + 10 * P)) + 6), .ref 129])) (M' := m6) rfl) ?_
    obtain ⟨m7, sm7, tm7, em7⟩ := s_asm (sc := none) (d := _) (lv := (mlp 6 (.int (Int32.ofNat (160 + 10 * P))) (lv_args 0 [.ref 128, .int k, .int a, .int b, .int on, .int md]))) (st := []) (z := 0) (i := ((Int32.ofNat (160 + 10 * P)) + 6)) (l := 0) (h := 39) (vl := (-2147483648)) (vh := 2147483647) (C := 166) (m := 10) (N := P) hT (y := 270) (pc := 82) (q := (yX12_newPaper, cX12_newPaper, 8, (some .int), 12)) rfl (show aTab 270 82 = some (.iastore, 1, 0, 0, 0, 0, 0, 0) from rfl) rfl tm6 em6 120 rfl (by decide +kernel) (by decide) ⟨⟨by omega, by omega⟩, by omega⟩ (ixg (c := 6) hP4 (by decide) rfl) ⟨i32_lo _, i32_hi _⟩
    refine e_then sm7 ?_
    refine e_then (e_al1 hT (y := 270) (pc := 83) (q := (yX12_newPaper, cX12_newPaper, 8, (some .int), 12)) rfl (show aTab 270 83 = some (.aload_n 0, 1, 0, 0, 0, 0, 0, 0) from rfl) rfl (mlg_r rfl (by decide))) ?_
    refine e_then (e_getR hT (y := 270) (pc := 84) (q := (yX12_newPaper, cX12_newPaper, 8, (some .int), 12)) rfl (show aTab 270 84 = some (.getfield 7, 3, 0, 12, 0, 0, 0, 0) from rfl) rfl (by decide) (by decide) tm7 rfl rfl) ?_
    refine e_then (e_il2 hT (y := 270) (pc := 87) (q := (yX12_newPaper, cX12_newPaper, 8, (some .int), 12)) rfl (show aTab 270 87 = some (.iload 6, 2, 0, 0, 0, 0, 0, 0) from rfl) rfl (mlg_eq 6 _ _)) ?_
    refine e_then (e_st hT (y := 270) (pc := 89) (q := (yX12_newPaper, cX12_newPaper, 8, (some .int), 12)) rfl (show aTab 270 89 = some (.bipush 7, 2, 0, 0, 0, 0, 0, 0) from rfl) (fr' := (270, 91, (mlp 6 (.int (Int32.ofNat (160 + 10 * P))) (lv_args 0 [.ref 128, .int k, .int a, .int b, .int on, .int md])), [.int 7, .int (Int32.ofNat (160 + 10 * P)), .ref 129])) (M' := m7) rfl) ?_
    refine e_then (e_st hT (y := 270) (pc := 91) (q := (yX12_newPaper, cX12_newPaper, 8, (some .int), 12)) rfl (show aTab 270 91 = some (.iadd, 1, 0, 0, 0, 0, 0, 0) from rfl) (fr' := (270, 92, (mlp 6 (.int (Int32.ofNat (160 + 10 * P))) (lv_args 0 [.ref 128, .int k, .int a, .int b, .int on, .int md])), [.int ((Int32.ofNat (160 + 10 * P)) + 7), .ref 129])) (M' := m7) rfl) ?_
    refine e_then (e_st hT (y := 270) (pc := 92) (q := (yX12_newPaper, cX12_newPaper, 8, (some .int), 12)) rfl (show aTab 270 92 = some (.iconst (-1), 1, 0, 0, 0, 0, 0, 0) from rfl) (fr' := (270, 93, (mlp 6 (.int (Int32.ofNat (160 + 10 * P))) (lv_args 0 [.ref 128, .int k, .int a, .int b, .int on, .int md])), [.int (-1), .int ((Int32.ofNat (160 + 10 * P)) + 7), .ref 129])) (M' := m7) rfl) ?_
    obtain ⟨m8, sm8, tm8, em8⟩ := s_asm (sc := none) (d := _) (lv := (mlp 6 (.int (Int32.ofNat (160 + 10 * P))) (lv_args 0 [.ref 128, .int k, .int a, .int b, .int on, .int md]))) (st := []) (z := (-1)) (i := ((Int32.ofNat (160 + 10 * P)) + 7)) (l := 0) (h := 39) (vl := (-2147483648)) (vh := 2147483647) (C := 167) (m := 10) (N := P) hT (y := 270) (pc := 93) (q := (yX12_newPaper, cX12_newPaper, 8, (some .int), 12)) rfl (show aTab 270 93 = some (.iastore, 1, 0, 0, 0, 0, 0, 0) from rfl) rfl tm7 em7 120 rfl (by decide +kernel) (by decide) ⟨⟨by omega, by omega⟩, by omega⟩ (ixg (c := 7) hP4 (by decide) rfl) ⟨i32_lo _, i32_hi _⟩
    refine e_then sm8 ?_
    refine e_then (e_al1 hT (y := 270) (pc := 94) (q := (yX12_newPaper, cX12_newPaper, 8, (some .int), 12)) rfl (show aTab 270 94 = some (.aload_n 0, 1, 0, 0, 0, 0, 0, 0) from rfl) rfl (mlg_r rfl (by decide))) ?_
    refine e_then (e_getR hT (y := 270) (pc := 95) (q := (yX12_newPaper, cX12_newPaper, 8, (some .int), 12)) rfl (show aTab 270 95 = some (.getfield 7, 3, 0, 12, 0, 0, 0, 0) from rfl) rfl (by decide) (by decide) tm8 rfl rfl) ?_
    refine e_then (e_il2 hT (y := 270) (pc := 98) (q := (yX12_newPaper, cX12_newPaper, 8, (some .int), 12)) rfl (show aTab 270 98 = some (.iload 6, 2, 0, 0, 0, 0, 0, 0) from rfl) rfl (mlg_eq 6 _ _)) ?_
    refine e_then (e_st hT (y := 270) (pc := 100) (q := (yX12_newPaper, cX12_newPaper, 8, (some .int), 12)) rfl (show aTab 270 100 = some (.bipush 8, 2, 0, 0, 0, 0, 0, 0) from rfl) (fr' := (270, 102, (mlp 6 (.int (Int32.ofNat (160 + 10 * P))) (lv_args 0 [.ref 128, .int k, .int a, .int b, .int on, .int md])), [.int 8, .int (Int32.ofNat (160 + 10 * P)), .ref 129])) (M' := m8) rfl) ?_
    refine e_then (e_st hT (y := 270) (pc := 102) (q := (yX12_newPaper, cX12_newPaper, 8, (some .int), 12)) rfl (show aTab 270 102 = some (.iadd, 1, 0, 0, 0, 0, 0, 0) from rfl) (fr' := (270, 103, (mlp 6 (.int (Int32.ofNat (160 + 10 * P))) (lv_args 0 [.ref 128, .int k, .int a, .int b, .int on, .int md])), [.int ((Int32.ofNat (160 + 10 * P)) + 8), .ref 129])) (M' := m8) rfl) ?_
    refine e_then (e_st hT (y := 270) (pc := 103) (q := (yX12_newPaper, cX12_newPaper, 8, (some .int), 12)) rfl (show aTab 270 103 = some (.iconst (-1), 1, 0, 0, 0, 0, 0, 0) from rfl) (fr' := (270, 104, (mlp 6 (.int (Int32.ofNat (160 + 10 * P))) (lv_args 0 [.ref 128, .int k, .int a, .int b, .int on, .int md])), [.int (-1), .int ((Int32.ofNat (160 + 10 * P)) + 8), .ref 129])) (M' := m8) rfl) ?_
    obtain ⟨m9, sm9, tm9, em9⟩ := s_asm (sc := none) (d := _) (lv := (mlp 6 (.int (Int32.ofNat (160 + 10 * P))) (lv_args 0 [.ref 128, .int k, .int a, .int b, .int on, .int md]))) (st := []) (z := (-1)) (i := ((Int32.ofNat (160 + 10 * P)) + 8)) (l := 0) (h := 39) (vl := (-2147483648)) (vh := 2147483647) (C := 168) (m := 10) (N := P) hT (y := 270) (pc := 104) (q := (yX12_newPaper, cX12_newPaper, 8, (some .int), 12)) rfl (show aTab 270 104 = some (.iastore, 1, 0, 0, 0, 0, 0, 0) from rfl) rfl tm8 em8 120 rfl (by decide +kernel) (by decide) ⟨⟨by omega, by omega⟩, by omega⟩ (ixg (c := 8) hP4 (by decide) rfl) ⟨i32_lo _, i32_hi _⟩
    refine e_then sm9 ?_
    refine e_then (e_al1 hT (y := 270) (pc := 105) (q := (yX12_newPaper, cX12_newPaper, 8, (some .int), 12)) rfl (show aTab 270 105 = some (.aload_n 0, 1, 0, 0, 0, 0, 0, 0) from rfl) rfl (mlg_r rfl (by decide))) ?_
    refine e_then (e_getR hT (y := 270) (pc := 106) (q := (yX12_newPaper, cX12_newPaper, 8, (some .int), 12)) rfl (show aTab 270 106 = some (.getfield 7, 3, 0, 12, 0, 0, 0, 0) from rfl) rfl (by decide) (by decide) tm9 rfl rfl) ?_
    refine e_then (e_il2 hT (y := 270) (pc := 109) (q := (yX12_newPaper, cX12_newPaper, 8, (some .int), 12)) rfl (show aTab 270 109 = some (.iload 6, 2, 0, 0, 0, 0, 0, 0) from rfl) rfl (mlg_eq 6 _ _)) ?_
    refine e_then (e_st hT (y := 270) (pc := 111) (q := (yX12_newPaper, cX12_newPaper, 8, (some .int), 12)) rfl (show aTab 270 111 = some (.bipush 9, 2, 0, 0, 0, 0, 0, 0) from rfl) (fr' := (270, 113, (mlp 6 (.int (Int32.ofNat (160 + 10 * P))) (lv_args 0 [.ref 128, .int k, .int a, .int b, .int on, .int md])), [.int 9, .int (Int32.ofNat (160 + 10 * P)), .ref 129])) (M' := m9) rfl) ?_
    refine e_then (e_st hT (y := 270) (pc := 113) (q := (yX12_newPaper, cX12_newPaper, 8, (some .int), 12)) rfl (show aTab 270 113 = some (.iadd, 1, 0, 0, 0, 0, 0, 0) from rfl) (fr' := (270, 114, (mlp 6 (.int (Int32.ofNat (160 + 10 * P))) (lv_args 0 [.ref 128, .int k, .int a, .int b, .int on, .int md])), [.int ((Int32.ofNat (160 + 10 * P)) + 9), .ref 129])) (M' := m9) rfl) ?_
    refine e_then (e_st hT (y := 270) (pc := 114) (q := (yX12_newPaper, cX12_newPaper, 8, (some .int), 12)) rfl (show aTab 270 114 = some (.iconst (-1), 1, 0, 0, 0, 0, 0, 0) from rfl) (fr' := (270, 115, (mlp 6 (.int (Int32.ofNat (160 + 10 * P))) (lv_args 0 [.ref 128, .int k, .int a, .int b, .int on, .int md])), [.int (-1), .int ((Int32.ofNat (160 + 10 * P)) + 9), .ref 129])) (M' := m9) rfl) ?_
    obtain ⟨m10, sm10, tm10, em10⟩ := s_asm (sc := none) (d := _) (lv := (mlp 6 (.int (Int32.ofNat (160 + 10 * P))) (lv_args 0 [.ref 128, .int k, .int a, .int b, .int on, .int md]))) (st := []) (z := (-1)) (i := ((Int32.ofNat (160 + 10 * P)) + 9)) (l := 0) (h := 39) (vl := (-2147483648)) (vh := 2147483647) (C := 169) (m := 10) (N := P) hT (y := 270) (pc := 115) (q := (yX12_newPaper, cX12_newPaper, 8, (some .int), 12)) rfl (show aTab 270 115 = some (.iastore, 1, 0, 0, 0, 0, 0, 0) from rfl) rfl tm9 em9 120 rfl (by decide +kernel) (by decide) ⟨⟨by omega, by omega⟩, by omega⟩ (ixg (c := 9) hP4 (by decide) rfl) ⟨i32_lo _, i32_hi _⟩
    refine e_then sm10 ?_
    refine e_then (e_st hT (y := 270) (pc := 116) (q := (yX12_newPaper, cX12_newPaper, 8, (some .int), 12)) rfl (show aTab 270 116 = some (.iconst 0, 1, 0, 0, 0, 0, 0, 0) from rfl) (fr' := (270, 117, (mlp 6 (.int (Int32.ofNat (160 + 10 * P))) (lv_args 0 [.ref 128, .int k, .int a, .int b, .int on, .int md])), [.int 0])) (M' := m10) rfl) ?_
    refine e_then (e_is2 hT (y := 270) (pc := 117) (q := (yX12_newPaper, cX12_newPaper, 8, (some .int), 12)) rfl (show aTab 270 117 = some (.istore 7, 2, 0, 0, 0, 0, 0, 0) from rfl) ⟨rfl, by decide⟩) ?_
    have hPA : rnpA g P k a b on md 120 5 = Int32.ofNat P := by
      unfold rnpA
      rw [up2_k _ _ (by omega), up2_k _ _ (by omega), up2_k _ _ (by omega), up2_k _ _ (by omega), up2_k _ _ (by omega), up2_k _ _ (by omega), up2_k _ _ (by omega), up2_k _ _ (by omega), up2_k _ _ (by omega), up2_k _ _ (by omega)]
      exact hP
    have hpap : ∀ f : Nat → Int32, (∀ j, j < 560 → f j = rnpA g P k a b on md 120 j) → yPap f P := fun f hf => by
      have e0 : yPk f P 0 = k.toInt := by
        show (f (160 + 10 * P + 0)).toInt = _
        rw [hf _ (by omega), show 160 + 10 * P + 0 = 160 + 10 * P by omega]
        unfold rnpA
        rw [up2_k _ _ (by omega), up2_k _ _ (by omega), up2_k _ _ (by omega), up2_k _ _ (by omega), up2_k _ _ (by omega), up2_k _ _ (by omega), up2_k _ _ (by omega), up2_k _ _ (by omega), up2_k _ _ (by omega), up2_eq]
      have e1 : yPk f P 1 = a.toInt := by
        show (f (160 + 10 * P + 1)).toInt = _
        rw [hf _ (by omega), show 160 + 10 * P + 1 = 161 + 10 * P by omega]
        unfold rnpA
        rw [up2_k _ _ (by omega), up2_k _ _ (by omega), up2_k _ _ (by omega), up2_k _ _ (by omega), up2_k _ _ (by omega), up2_k _ _ (by omega), up2_k _ _ (by omega), up2_k _ _ (by omega), up2_eq]
      have e2 : yPk f P 2 = b.toInt := by
        show (f (160 + 10 * P + 2)).toInt = _
        rw [hf _ (by omega), show 160 + 10 * P + 2 = 162 + 10 * P by omega]
        unfold rnpA
        rw [up2_k _ _ (by omega), up2_k _ _ (by omega), up2_k _ _ (by omega), up2_k _ _ (by omega), up2_k _ _ (by omega), up2_k _ _ (by omega), up2_k _ _ (by omega), up2_eq]
      have e4 : yPk f P 4 = on.toInt := by
        show (f (160 + 10 * P + 4)).toInt = _
        rw [hf _ (by omega), show 160 + 10 * P + 4 = 164 + 10 * P by omega]
        unfold rnpA
        rw [up2_k _ _ (by omega), up2_k _ _ (by omega), up2_k _ _ (by omega), up2_k _ _ (by omega), up2_k _ _ (by omega), up2_eq]
      have ek : ∀ j, j < P → yPk f j 0 = (rkd g j).toInt := fun j hj => by
        show (f (160 + 10 * j + 0)).toInt = (g 120 (160 + 10 * j)).toInt
        rw [hf _ (by omega), show 160 + 10 * j + 0 = 160 + 10 * j by omega]
        unfold rnpA
        rw [up2_k _ _ (by omega), up2_k _ _ (by omega), up2_k _ _ (by omega), up2_k _ _ (by omega), up2_k _ _ (by omega), up2_k _ _ (by omega), up2_k _ _ (by omega), up2_k _ _ (by omega), up2_k _ _ (by omega), up2_k _ _ (by omega)]
      unfold yPap
      rw [e0, e1, e2, e4]
      refine ⟨fun z => ?_, fun z => ?_, fun z => ?_⟩
      · obtain ⟨l1, l2⟩ := hpp.1 z
        exact ⟨l1.1, l1.2, by rw [ek _ (by omega)]; exact l2⟩
      · exact hpp.2.1 z
      · obtain ⟨l1, l2⟩ := hpp.2.2 z
        rw [ek _ (by omega)]
        exact ⟨l1.1, l1.2, l2.1, l2.2⟩
    obtain ⟨K7, r7, M7, q7, rfl, t7, e7⟩ := rnp_loop hT hPA hP4 hpap 9 0 (mlp 7 (.int 0) (mlp 6 (.int (Int32.ofNat (160 + 10 * P))) (lv_args 0 [.ref 128, .int k, .int a, .int b, .int on, .int md]))) m10 (by omega) tm10 (by rw [rnpS_0]; exact em10) (mlg_r (mlg_r rfl (by decide)) (by decide)) (mlg_eq 7 _ _)
    exact ⟨K7, _, M7, q7, rfl, t7, e7⟩
  obtain ⟨K, r, M', q, rfl, q2, q3⟩ := go
  exact ⟨K, M', mRun_dm q hd, q2, q3⟩
theorem rpw_run (hT : aTabOk) {M : mHe} (hM : yTy M) {g : Nat → Nat → Int32} (hg : rdI M = g) {P : Nat} (hP : g 120 5 = Int32.ofNat P) (hP2 : P ≤ 40) {k a b : Int32} : mEv none 40 (271, 0, lv_args 0 [.ref 128, .int k, .int a, .int b], []) M (fun r M' => ∃ x, r = some (.int x) ∧ yTy M' ∧ pwQ (ftP (rkd g) P k a b) P x g (rnpG g P k a b (-1) 0) (rdI M')) := by
  have dF : Decidable (ftP (rkd g) P k a b) := Classical.propDecidable _
  have eP := i32n (k := P) (by omega)
  have e40 : (40 : Int32).toInt = 40 := rfl
  obtain ⟨K1, q1⟩ := rft_run hT hM hg hP hP2 (k := k) (a := a) (b := b) (d := 39) (by decide)
  have ftP2 : ftP (rkd g) P k a b → papK (rkd g) P k a b (-1) := fun z => by
    unfold ftP at z
    refine ⟨fun y => ?_, fun y => ?_, fun y => ?_⟩
    · rcases z with z | z | z | z | z | z | z <;> first | exact z.2.1 | (have z1 := z.1; omega)
    · rcases z with z | z | z | z | z | z | z <;> first | (have z1 := z.1; omega) | skip
      have z3 := z.2.2.2
      unfold kdO at z3
      by_cases c : 0 ≤ b.toInt ∧ b.toInt < (P : Int)
      · exact c
      · rw [if_neg c] at z3
        exact absurd z3.1 (by decide)
    · rcases z with z | z | z | z | z | z | z <;> (have z1 := z.1; omega)
  have ftK : ftP (rkd g) P k a b → rnpK k a b (-1) 0 := fun z => by
    unfold ftP at z
    refine ⟨by rcases z with z | z | z | z | z | z | z <;> have z1 := z.1 <;> omega, ?_, by decide, by decide⟩
    rcases z with z | z | z | z | z | z | z
    · omega
    · have z1 := z.2.1; unfold twP at z1; rw [show (8 : Int32).toInt = 8 from rfl, show (4 : Int32).toInt = 4 from rfl] at z1; omega
    · have z1 := z.2.1.1; omega
    · have z1 := z.2.1.1; omega
    · have z1 := z.2.1.1; omega
    · have z1 := z.2.1; unfold twP at z1; rw [show (9 : Int32).toInt = 9 from rfl] at z1; omega
    · have z1 := z.2.1.1; omega
  refine e_then (e_al1 hT (y := 271) (pc := 0) (q := (yX12_paper, cX12_paper, 4, (some .int), 12)) rfl (show aTab 271 0 = some (.aload_n 0, 1, 0, 0, 0, 0, 0, 0) from rfl) rfl rfl) ?_
  refine e_then (e_il1 hT (y := 271) (pc := 1) (q := (yX12_paper, cX12_paper, 4, (some .int), 12)) rfl (show aTab 271 1 = some (.iload_n 1, 1, 0, 0, 0, 0, 0, 0) from rfl) rfl rfl) ?_
  refine e_then (e_il1 hT (y := 271) (pc := 2) (q := (yX12_paper, cX12_paper, 4, (some .int), 12)) rfl (show aTab 271 2 = some (.iload_n 2, 1, 0, 0, 0, 0, 0, 0) from rfl) rfl rfl) ?_
  refine e_then (e_il1 hT (y := 271) (pc := 3) (q := (yX12_paper, cX12_paper, 4, (some .int), 12)) rfl (show aTab 271 3 = some (.iload_n 3, 1, 0, 0, 0, 0, 0, 0) from rfl) rfl rfl) ?_
  by_cases c1 : ftP (rkd g) P k a b
  · rw [gB_t c1] at q1
    refine e_then (e_call hT (y := 271) (pc := 4) (q := (yX12_paper, cX12_paper, 4, (some .int), 12)) rfl (show aTab 271 4 = some (.invokevirtual 139, 3, 1, 269, 0, 3, 4, 12) from rfl) rfl ⟨by decide, Nat.le_of_ble_eq_true rfl⟩ (ob_at hM (rfl : tTy 119 = some (.inr (12, _)))).choose_spec (Nat.le_of_ble_eq_true rfl) (Nat.le_of_ble_eq_true rfl) ⟨by decide, by decide⟩ q1) ?_
    refine e_then (e_ifT hT (y := 271) (pc := 7) (q := (yX12_paper, cX12_paper, 4, (some .int), 12)) rfl (show aTab 271 7 = some (.ifCond .ne 6, 3, 0, 0, 0, 0, 0, 0) from rfl) rfl (t := 13) rfl (cdT (by show ¬ _ = _; decide))) ?_
    refine e_then (e_al1 hT (y := 271) (pc := 13) (q := (yX12_paper, cX12_paper, 4, (some .int), 12)) rfl (show aTab 271 13 = some (.aload_n 0, 1, 0, 0, 0, 0, 0, 0) from rfl) rfl rfl) ?_
    refine e_then (e_getR hT (y := 271) (pc := 14) (q := (yX12_paper, cX12_paper, 4, (some .int), 12)) rfl (show aTab 271 14 = some (.getfield 7, 3, 0, 12, 0, 0, 0, 0) from rfl) rfl (by decide) (by decide) hM rfl rfl) ?_
    refine e_then (e_st hT (y := 271) (pc := 17) (q := (yX12_paper, cX12_paper, 4, (some .int), 12)) rfl (show aTab 271 17 = some (.iconst 5, 1, 0, 0, 0, 0, 0, 0) from rfl) (fr' := (271, 18, (lv_args 0 [.ref 128, .int k, .int a, .int b]), [.int 5, .ref 129])) (M' := M) rfl) ?_
    refine e_then (s_aldV hT (y := 271) (pc := 18) (q := (yX12_paper, cX12_paper, 4, (some .int), 12)) rfl (show aTab 271 18 = some (.iaload, 1, 0, 0, 0, 0, 0, 0) from rfl) rfl hM hg 120 5 rfl rfl (by decide) (v := (Int32.ofNat P)) (show (g 120 5) = (Int32.ofNat P) from hP)) ?_
    refine e_then (e_st hT (y := 271) (pc := 19) (q := (yX12_paper, cX12_paper, 4, (some .int), 12)) rfl (show aTab 271 19 = some (.bipush 40, 2, 0, 0, 0, 0, 0, 0) from rfl) (fr' := (271, 21, (lv_args 0 [.ref 128, .int k, .int a, .int b]), [.int 40, .int (Int32.ofNat P)])) (M' := M) rfl) ?_
    by_cases c2 : P = 40
    · refine e_then (e_icF hT (y := 271) (pc := 21) (q := (yX12_paper, cX12_paper, 4, (some .int), 12)) rfl (show aTab 271 21 = some (.if_icmp .ne 8, 3, 0, 0, 0, 0, 0, 0) from rfl) rfl (t := 29) rfl (cdF (by show ¬ (¬ _ = _); omega))) ?_
      refine e_then (e_st hT (y := 271) (pc := 24) (q := (yX12_paper, cX12_paper, 4, (some .int), 12)) rfl (show aTab 271 24 = some (.ldc 90, 2, 7, 0, (-1000000003), 0, 0, 0) from rfl) (fr' := (271, 26, (lv_args 0 [.ref 128, .int k, .int a, .int b]), [.int (-1000000003)])) (M' := M) rfl) ?_
      refine e_then (e_st hT (y := 271) (pc := 26) (q := (yX12_paper, cX12_paper, 4, (some .int), 12)) rfl (show aTab 271 26 = some (.goto 12, 3, 0, 0, 0, 0, 0, 0) from rfl) (fr' := (271, 38, (lv_args 0 [.ref 128, .int k, .int a, .int b]), [.int (-1000000003)])) (M' := M) rfl) ?_
      exact e_fin (e_iret hT (y := 271) (pc := 38) (q := (yX12_paper, cX12_paper, 4, (some .int), 12)) rfl (show aTab 271 38 = some (.ireturn, 1, 0, 0, 0, 0, 0, 0) from rfl) ⟨rfl, rfl⟩) ⟨_, rfl, hM, Or.inr (Or.inr ⟨c1, by omega, rfl, hg⟩)⟩
    · refine e_then (e_icT hT (y := 271) (pc := 21) (q := (yX12_paper, cX12_paper, 4, (some .int), 12)) rfl (show aTab 271 21 = some (.if_icmp .ne 8, 3, 0, 0, 0, 0, 0, 0) from rfl) rfl (t := 29) rfl (cdT (by show ¬ _ = _; omega))) ?_
      obtain ⟨K2, M2, q2, t2, e2⟩ := rnp_run hT hM hg hP hP2 (by omega) (k := k) (a := a) (b := b) (on := -1) (md := 0) (ftK c1) (ftP2 c1) (d := 39) (by decide)
      refine e_then (e_al1 hT (y := 271) (pc := 29) (q := (yX12_paper, cX12_paper, 4, (some .int), 12)) rfl (show aTab 271 29 = some (.aload_n 0, 1, 0, 0, 0, 0, 0, 0) from rfl) rfl rfl) ?_
      refine e_then (e_il1 hT (y := 271) (pc := 30) (q := (yX12_paper, cX12_paper, 4, (some .int), 12)) rfl (show aTab 271 30 = some (.iload_n 1, 1, 0, 0, 0, 0, 0, 0) from rfl) rfl rfl) ?_
      refine e_then (e_il1 hT (y := 271) (pc := 31) (q := (yX12_paper, cX12_paper, 4, (some .int), 12)) rfl (show aTab 271 31 = some (.iload_n 2, 1, 0, 0, 0, 0, 0, 0) from rfl) rfl rfl) ?_
      refine e_then (e_il1 hT (y := 271) (pc := 32) (q := (yX12_paper, cX12_paper, 4, (some .int), 12)) rfl (show aTab 271 32 = some (.iload_n 3, 1, 0, 0, 0, 0, 0, 0) from rfl) rfl rfl) ?_
      refine e_then (e_st hT (y := 271) (pc := 33) (q := (yX12_paper, cX12_paper, 4, (some .int), 12)) rfl (show aTab 271 33 = some (.iconst (-1), 1, 0, 0, 0, 0, 0, 0) from rfl) (fr' := (271, 34, (lv_args 0 [.ref 128, .int k, .int a, .int b]), [.int (-1), .int b, .int a, .int k, .ref 128])) (M' := M) rfl) ?_
      refine e_then (e_st hT (y := 271) (pc := 34) (q := (yX12_paper, cX12_paper, 4, (some .int), 12)) rfl (show aTab 271 34 = some (.iconst 0, 1, 0, 0, 0, 0, 0, 0) from rfl) (fr' := (271, 35, (lv_args 0 [.ref 128, .int k, .int a, .int b]), [.int 0, .int (-1), .int b, .int a, .int k, .ref 128])) (M' := M) rfl) ?_
      refine e_then (e_call hT (y := 271) (pc := 35) (q := (yX12_paper, cX12_paper, 4, (some .int), 12)) rfl (show aTab 271 35 = some (.invokevirtual 143, 3, 1, 270, 0, 5, 8, 12) from rfl) rfl ⟨by decide, Nat.le_of_ble_eq_true rfl⟩ (ob_at hM (rfl : tTy 119 = some (.inr (12, _)))).choose_spec (Nat.le_of_ble_eq_true rfl) (Nat.le_of_ble_eq_true rfl) ⟨by decide, by decide⟩ q2) ?_
      exact e_fin (e_iret hT (y := 271) (pc := 38) (q := (yX12_paper, cX12_paper, 4, (some .int), 12)) rfl (show aTab 271 38 = some (.ireturn, 1, 0, 0, 0, 0, 0, 0) from rfl) ⟨rfl, rfl⟩) ⟨_, rfl, t2, Or.inr (Or.inl ⟨c1, by omega, rfl, e2⟩)⟩
  · rw [gB_f c1] at q1
    refine e_then (e_call hT (y := 271) (pc := 4) (q := (yX12_paper, cX12_paper, 4, (some .int), 12)) rfl (show aTab 271 4 = some (.invokevirtual 139, 3, 1, 269, 0, 3, 4, 12) from rfl) rfl ⟨by decide, Nat.le_of_ble_eq_true rfl⟩ (ob_at hM (rfl : tTy 119 = some (.inr (12, _)))).choose_spec (Nat.le_of_ble_eq_true rfl) (Nat.le_of_ble_eq_true rfl) ⟨by decide, by decide⟩ q1) ?_
    refine e_then (e_ifF hT (y := 271) (pc := 7) (q := (yX12_paper, cX12_paper, 4, (some .int), 12)) rfl (show aTab 271 7 = some (.ifCond .ne 6, 3, 0, 0, 0, 0, 0, 0) from rfl) rfl (t := 13) rfl (cdF (by show ¬ (¬ _ = _); decide))) ?_
    refine e_then (e_st hT (y := 271) (pc := 10) (q := (yX12_paper, cX12_paper, 4, (some .int), 12)) rfl (show aTab 271 10 = some (.ldc 89, 2, 7, 0, (-1000000001), 0, 0, 0) from rfl) (fr' := (271, 12, (lv_args 0 [.ref 128, .int k, .int a, .int b]), [.int (-1000000001)])) (M' := M) rfl) ?_
    exact e_fin (e_iret hT (y := 271) (pc := 12) (q := (yX12_paper, cX12_paper, 4, (some .int), 12)) rfl (show aTab 271 12 = some (.ireturn, 1, 0, 0, 0, 0, 0, 0) from rfl) ⟨rfl, rfl⟩) ⟨_, rfl, hM, Or.inl ⟨c1, rfl, hg⟩⟩
theorem rhu_run (hT : aTabOk) {M : mHe} (hM : yTy M) {g : Nat → Nat → Int32} (hg : rdI M = g) {P : Nat} (hP : g 120 5 = Int32.ofNat P) (hP2 : P ≤ 40) {l b on md : Int32} : mEv none 40 (272, 0, lv_args 0 [.ref 128, .int l, .int b, .int on, .int md], []) M (fun r M' => ∃ x, r = some (.int x) ∧ yTy M' ∧ pwQ (hgP (rkd g) P l b on md) P x g (rnpG g P 3 l b on md) (rdI M')) := by
  have dL : Decidable (lnP (rkd g) P l) := Classical.propDecidable _
  have eP := i32n (k := P) (by omega)
  have e40 : (40 : Int32).toInt = 40 := rfl
  obtain ⟨K1, q1⟩ := ril_run hT hM hg hP hP2 (p := l) (d := 39) (by decide)
  obtain ⟨K2, q2⟩ := isIn_i hT (M := M) (v := b) (l := Int64.ofInt (-9999)) (h := Int64.ofInt 9999) (d := 39) (by decide)
  obtain ⟨K3, q3⟩ := rip_run hT hM hg hP hP2 (p := on) (d := 39) (by decide)
  obtain ⟨K4, q4⟩ := isIn_i hT (M := M) (v := md) (l := Int64.ofNat 0) (h := Int64.ofNat 1) (d := 39) (by decide)
  rw [show (Int64.ofInt (-9999)).toInt = -9999 from rfl, show (Int64.ofInt 9999).toInt = 9999 from rfl] at q2
  rw [show (Int64.ofNat 0).toInt = 0 from rfl, show (Int64.ofNat 1).toInt = 1 from rfl] at q4
  refine e_then (e_al1 hT (y := 272) (pc := 0) (q := (yX12_hung, cX12_hung, 5, (some .int), 12)) rfl (show aTab 272 0 = some (.aload_n 0, 1, 0, 0, 0, 0, 0, 0) from rfl) rfl rfl) ?_
  refine e_then (e_il1 hT (y := 272) (pc := 1) (q := (yX12_hung, cX12_hung, 5, (some .int), 12)) rfl (show aTab 272 1 = some (.iload_n 1, 1, 0, 0, 0, 0, 0, 0) from rfl) rfl rfl) ?_
  by_cases c1 : lnP (rkd g) P l
  · rw [gB_t c1] at q1
    refine e_then (e_call hT (y := 272) (pc := 2) (q := (yX12_hung, cX12_hung, 5, (some .int), 12)) rfl (show aTab 272 2 = some (.invokevirtual 128, 3, 1, 255, 0, 1, 2, 12) from rfl) rfl ⟨by decide, Nat.le_of_ble_eq_true rfl⟩ (ob_at hM (rfl : tTy 119 = some (.inr (12, _)))).choose_spec (Nat.le_of_ble_eq_true rfl) (Nat.le_of_ble_eq_true rfl) ⟨by decide, by decide⟩ q1) ?_
    refine e_then (e_ifF hT (y := 272) (pc := 5) (q := (yX12_hung, cX12_hung, 5, (some .int), 12)) rfl (show aTab 272 5 = some (.ifCond .eq 44, 3, 0, 0, 0, 0, 0, 0) from rfl) rfl (t := 49) rfl (cdF (by show ¬ (_ = _); decide))) ?_
    refine e_then (e_il1 hT (y := 272) (pc := 8) (q := (yX12_hung, cX12_hung, 5, (some .int), 12)) rfl (show aTab 272 8 = some (.iload_n 2, 1, 0, 0, 0, 0, 0, 0) from rfl) rfl rfl) ?_
    refine e_then (e_st hT (y := 272) (pc := 9) (q := (yX12_hung, cX12_hung, 5, (some .int), 12)) rfl (show aTab 272 9 = some (.i2l, 1, 0, 0, 0, 0, 0, 0) from rfl) (fr' := (272, 10, (lv_args 0 [.ref 128, .int l, .int b, .int on, .int md]), [.long (b).toInt64])) (M' := M) rfl) ?_
    refine e_then (e_st hT (y := 272) (pc := 10) (q := (yX12_hung, cX12_hung, 5, (some .int), 12)) rfl (show aTab 272 10 = some (.ldc2_w 131, 3, 8, 0, (-9999), 0, 0, 0) from rfl) (fr' := (272, 13, (lv_args 0 [.ref 128, .int l, .int b, .int on, .int md]), [.long (Int64.ofInt (-9999)), .long (b).toInt64])) (M' := M) rfl) ?_
    refine e_then (e_st hT (y := 272) (pc := 13) (q := (yX12_hung, cX12_hung, 5, (some .int), 12)) rfl (show aTab 272 13 = some (.ldc2_w 111, 3, 8, 0, 9999, 0, 0, 0) from rfl) (fr' := (272, 16, (lv_args 0 [.ref 128, .int l, .int b, .int on, .int md]), [.long (Int64.ofInt 9999), .long (Int64.ofInt (-9999)), .long (b).toInt64])) (M' := M) rfl) ?_
    by_cases c2 : -9999 ≤ b.toInt ∧ b.toInt ≤ 9999
    · rw [gB_t c2] at q2
      refine e_then (e_calls hT (y := 272) (pc := 16) (q := (yX12_hung, cX12_hung, 5, (some .int), 12)) rfl (show aTab 272 16 = some (.invokestatic 65, 3, 2, 239, 0, 3, 6, 12) from rfl) (Nat.le_of_ble_eq_true rfl) (Nat.le_of_ble_eq_true rfl) (Nat.le_of_ble_eq_true rfl) ⟨by decide, by decide⟩ q2) ?_
      refine e_then (e_ifF hT (y := 272) (pc := 19) (q := (yX12_hung, cX12_hung, 5, (some .int), 12)) rfl (show aTab 272 19 = some (.ifCond .eq 30, 3, 0, 0, 0, 0, 0, 0) from rfl) rfl (t := 49) rfl (cdF (by show ¬ (_ = _); decide))) ?_
      refine e_then (e_al1 hT (y := 272) (pc := 22) (q := (yX12_hung, cX12_hung, 5, (some .int), 12)) rfl (show aTab 272 22 = some (.aload_n 0, 1, 0, 0, 0, 0, 0, 0) from rfl) rfl rfl) ?_
      refine e_then (e_il1 hT (y := 272) (pc := 23) (q := (yX12_hung, cX12_hung, 5, (some .int), 12)) rfl (show aTab 272 23 = some (.iload_n 3, 1, 0, 0, 0, 0, 0, 0) from rfl) rfl rfl) ?_
      by_cases c3 : 0 ≤ on.toInt ∧ on.toInt < (P : Int)
      · rw [gB_t c3] at q3
        refine e_then (e_call hT (y := 272) (pc := 24) (q := (yX12_hung, cX12_hung, 5, (some .int), 12)) rfl (show aTab 272 24 = some (.invokevirtual 77, 3, 1, 249, 0, 1, 2, 12) from rfl) rfl ⟨by decide, Nat.le_of_ble_eq_true rfl⟩ (ob_at hM (rfl : tTy 119 = some (.inr (12, _)))).choose_spec (Nat.le_of_ble_eq_true rfl) (Nat.le_of_ble_eq_true rfl) ⟨by decide, by decide⟩ q3) ?_
        refine e_then (e_ifF hT (y := 272) (pc := 27) (q := (yX12_hung, cX12_hung, 5, (some .int), 12)) rfl (show aTab 272 27 = some (.ifCond .eq 22, 3, 0, 0, 0, 0, 0, 0) from rfl) rfl (t := 49) rfl (cdF (by show ¬ (_ = _); decide))) ?_
        obtain ⟨oo, hoo⟩ : ∃ n : Nat, (n : Int) = on.toInt := ⟨on.toInt.toNat, by omega⟩
        have eon : on.toInt.toNat = oo := by omega
        have ho2 : on = Int32.ofNat oo := i32eq (by rw [i32n (by omega)]; omega)
        obtain ⟨K5, q5⟩ := ric_run hT hM hg (m := oo) (by omega) (d := 39) (by decide)
        rw [← ho2] at q5
        refine e_then (e_al1 hT (y := 272) (pc := 30) (q := (yX12_hung, cX12_hung, 5, (some .int), 12)) rfl (show aTab 272 30 = some (.aload_n 0, 1, 0, 0, 0, 0, 0, 0) from rfl) rfl rfl) ?_
        refine e_then (e_il1 hT (y := 272) (pc := 31) (q := (yX12_hung, cX12_hung, 5, (some .int), 12)) rfl (show aTab 272 31 = some (.iload_n 3, 1, 0, 0, 0, 0, 0, 0) from rfl) rfl rfl) ?_
        by_cases c4 : 2 ≤ (rkd g oo).toInt ∧ (rkd g oo).toInt ≤ 3
        · rw [gB_t c4] at q5
          refine e_then (e_call hT (y := 272) (pc := 32) (q := (yX12_hung, cX12_hung, 5, (some .int), 12)) rfl (show aTab 272 32 = some (.invokevirtual 147, 3, 1, 256, 0, 1, 2, 12) from rfl) rfl ⟨by decide, Nat.le_of_ble_eq_true rfl⟩ (ob_at hM (rfl : tTy 119 = some (.inr (12, _)))).choose_spec (Nat.le_of_ble_eq_true rfl) (Nat.le_of_ble_eq_true rfl) ⟨by decide, by decide⟩ q5) ?_
          refine e_then (e_ifF hT (y := 272) (pc := 35) (q := (yX12_hung, cX12_hung, 5, (some .int), 12)) rfl (show aTab 272 35 = some (.ifCond .eq 14, 3, 0, 0, 0, 0, 0, 0) from rfl) rfl (t := 49) rfl (cdF (by show ¬ (_ = _); decide))) ?_
          refine e_then (e_il2 hT (y := 272) (pc := 38) (q := (yX12_hung, cX12_hung, 5, (some .int), 12)) rfl (show aTab 272 38 = some (.iload 4, 2, 0, 0, 0, 0, 0, 0) from rfl) rfl rfl) ?_
          refine e_then (e_st hT (y := 272) (pc := 40) (q := (yX12_hung, cX12_hung, 5, (some .int), 12)) rfl (show aTab 272 40 = some (.i2l, 1, 0, 0, 0, 0, 0, 0) from rfl) (fr' := (272, 41, (lv_args 0 [.ref 128, .int l, .int b, .int on, .int md]), [.long (md).toInt64])) (M' := M) rfl) ?_
          refine e_then (e_st hT (y := 272) (pc := 41) (q := (yX12_hung, cX12_hung, 5, (some .int), 12)) rfl (show aTab 272 41 = some (.lconst 0, 1, 0, 0, 0, 0, 0, 0) from rfl) (fr' := (272, 42, (lv_args 0 [.ref 128, .int l, .int b, .int on, .int md]), [.long (Int64.ofNat 0), .long (md).toInt64])) (M' := M) rfl) ?_
          refine e_then (e_st hT (y := 272) (pc := 42) (q := (yX12_hung, cX12_hung, 5, (some .int), 12)) rfl (show aTab 272 42 = some (.lconst 1, 1, 0, 0, 0, 0, 0, 0) from rfl) (fr' := (272, 43, (lv_args 0 [.ref 128, .int l, .int b, .int on, .int md]), [.long (Int64.ofNat 1), .long (Int64.ofNat 0), .long (md).toInt64])) (M' := M) rfl) ?_
          by_cases c5 : 0 ≤ md.toInt ∧ md.toInt ≤ 1
          · rw [gB_t c5] at q4
            refine e_then (e_calls hT (y := 272) (pc := 43) (q := (yX12_hung, cX12_hung, 5, (some .int), 12)) rfl (show aTab 272 43 = some (.invokestatic 65, 3, 2, 239, 0, 3, 6, 12) from rfl) (Nat.le_of_ble_eq_true rfl) (Nat.le_of_ble_eq_true rfl) (Nat.le_of_ble_eq_true rfl) ⟨by decide, by decide⟩ q4) ?_
            refine e_then (e_ifT hT (y := 272) (pc := 46) (q := (yX12_hung, cX12_hung, 5, (some .int), 12)) rfl (show aTab 272 46 = some (.ifCond .ne 6, 3, 0, 0, 0, 0, 0, 0) from rfl) rfl (t := 52) rfl (cdT (by show ¬ _ = _; decide))) ?_
            refine e_then (e_al1 hT (y := 272) (pc := 52) (q := (yX12_hung, cX12_hung, 5, (some .int), 12)) rfl (show aTab 272 52 = some (.aload_n 0, 1, 0, 0, 0, 0, 0, 0) from rfl) rfl rfl) ?_
            refine e_then (e_getR hT (y := 272) (pc := 53) (q := (yX12_hung, cX12_hung, 5, (some .int), 12)) rfl (show aTab 272 53 = some (.getfield 7, 3, 0, 12, 0, 0, 0, 0) from rfl) rfl (by decide) (by decide) hM rfl rfl) ?_
            refine e_then (e_st hT (y := 272) (pc := 56) (q := (yX12_hung, cX12_hung, 5, (some .int), 12)) rfl (show aTab 272 56 = some (.iconst 5, 1, 0, 0, 0, 0, 0, 0) from rfl) (fr' := (272, 57, (lv_args 0 [.ref 128, .int l, .int b, .int on, .int md]), [.int 5, .ref 129])) (M' := M) rfl) ?_
            refine e_then (s_aldV hT (y := 272) (pc := 57) (q := (yX12_hung, cX12_hung, 5, (some .int), 12)) rfl (show aTab 272 57 = some (.iaload, 1, 0, 0, 0, 0, 0, 0) from rfl) rfl hM hg 120 5 rfl rfl (by decide) (v := (Int32.ofNat P)) (show (g 120 5) = (Int32.ofNat P) from hP)) ?_
            refine e_then (e_st hT (y := 272) (pc := 58) (q := (yX12_hung, cX12_hung, 5, (some .int), 12)) rfl (show aTab 272 58 = some (.bipush 40, 2, 0, 0, 0, 0, 0, 0) from rfl) (fr' := (272, 60, (lv_args 0 [.ref 128, .int l, .int b, .int on, .int md]), [.int 40, .int (Int32.ofNat P)])) (M' := M) rfl) ?_
            by_cases c6 : P = 40
            · refine e_then (e_icF hT (y := 272) (pc := 60) (q := (yX12_hung, cX12_hung, 5, (some .int), 12)) rfl (show aTab 272 60 = some (.if_icmp .ne 8, 3, 0, 0, 0, 0, 0, 0) from rfl) rfl (t := 68) rfl (cdF (by show ¬ (¬ _ = _); omega))) ?_
              refine e_then (e_st hT (y := 272) (pc := 63) (q := (yX12_hung, cX12_hung, 5, (some .int), 12)) rfl (show aTab 272 63 = some (.ldc 90, 2, 7, 0, (-1000000003), 0, 0, 0) from rfl) (fr' := (272, 65, (lv_args 0 [.ref 128, .int l, .int b, .int on, .int md]), [.int (-1000000003)])) (M' := M) rfl) ?_
              refine e_then (e_st hT (y := 272) (pc := 65) (q := (yX12_hung, cX12_hung, 5, (some .int), 12)) rfl (show aTab 272 65 = some (.goto 13, 3, 0, 0, 0, 0, 0, 0) from rfl) (fr' := (272, 78, (lv_args 0 [.ref 128, .int l, .int b, .int on, .int md]), [.int (-1000000003)])) (M' := M) rfl) ?_
              exact e_fin (e_iret hT (y := 272) (pc := 78) (q := (yX12_hung, cX12_hung, 5, (some .int), 12)) rfl (show aTab 272 78 = some (.ireturn, 1, 0, 0, 0, 0, 0, 0) from rfl) ⟨rfl, rfl⟩) ⟨_, rfl, hM, Or.inr (Or.inr ⟨⟨⟨c1, c2⟩, ⟨c3, by rw [eon]; exact c4⟩, c5⟩, by omega, rfl, hg⟩)⟩
            · refine e_then (e_icT hT (y := 272) (pc := 60) (q := (yX12_hung, cX12_hung, 5, (some .int), 12)) rfl (show aTab 272 60 = some (.if_icmp .ne 8, 3, 0, 0, 0, 0, 0, 0) from rfl) rfl (t := 68) rfl (cdT (by show ¬ _ = _; omega))) ?_
              obtain ⟨K6, M2, q6, t2, e2⟩ := rnp_run hT hM hg hP hP2 (by omega) (k := 3) (a := l) (b := b) (on := on) (md := md) ⟨by decide, by have := c1.1; omega, by omega, c5⟩ ⟨fun _ => c1, fun z => absurd z (by decide), fun _ => ⟨c3, by rw [eon]; exact c4⟩⟩ (d := 39) (by decide)
              refine e_then (e_al1 hT (y := 272) (pc := 68) (q := (yX12_hung, cX12_hung, 5, (some .int), 12)) rfl (show aTab 272 68 = some (.aload_n 0, 1, 0, 0, 0, 0, 0, 0) from rfl) rfl rfl) ?_
              refine e_then (e_st hT (y := 272) (pc := 69) (q := (yX12_hung, cX12_hung, 5, (some .int), 12)) rfl (show aTab 272 69 = some (.iconst 3, 1, 0, 0, 0, 0, 0, 0) from rfl) (fr' := (272, 70, (lv_args 0 [.ref 128, .int l, .int b, .int on, .int md]), [.int 3, .ref 128])) (M' := M) rfl) ?_
              refine e_then (e_il1 hT (y := 272) (pc := 70) (q := (yX12_hung, cX12_hung, 5, (some .int), 12)) rfl (show aTab 272 70 = some (.iload_n 1, 1, 0, 0, 0, 0, 0, 0) from rfl) rfl rfl) ?_
              refine e_then (e_il1 hT (y := 272) (pc := 71) (q := (yX12_hung, cX12_hung, 5, (some .int), 12)) rfl (show aTab 272 71 = some (.iload_n 2, 1, 0, 0, 0, 0, 0, 0) from rfl) rfl rfl) ?_
              refine e_then (e_il1 hT (y := 272) (pc := 72) (q := (yX12_hung, cX12_hung, 5, (some .int), 12)) rfl (show aTab 272 72 = some (.iload_n 3, 1, 0, 0, 0, 0, 0, 0) from rfl) rfl rfl) ?_
              refine e_then (e_il2 hT (y := 272) (pc := 73) (q := (yX12_hung, cX12_hung, 5, (some .int), 12)) rfl (show aTab 272 73 = some (.iload 4, 2, 0, 0, 0, 0, 0, 0) from rfl) rfl rfl) ?_
              refine e_then (e_call hT (y := 272) (pc := 75) (q := (yX12_hung, cX12_hung, 5, (some .int), 12)) rfl (show aTab 272 75 = some (.invokevirtual 143, 3, 1, 270, 0, 5, 8, 12) from rfl) rfl ⟨by decide, Nat.le_of_ble_eq_true rfl⟩ (ob_at hM (rfl : tTy 119 = some (.inr (12, _)))).choose_spec (Nat.le_of_ble_eq_true rfl) (Nat.le_of_ble_eq_true rfl) ⟨by decide, by decide⟩ q6) ?_
              exact e_fin (e_iret hT (y := 272) (pc := 78) (q := (yX12_hung, cX12_hung, 5, (some .int), 12)) rfl (show aTab 272 78 = some (.ireturn, 1, 0, 0, 0, 0, 0, 0) from rfl) ⟨rfl, rfl⟩) ⟨_, rfl, t2, Or.inr (Or.inl ⟨⟨⟨c1, c2⟩, ⟨c3, by rw [eon]; exact c4⟩, c5⟩, by omega, rfl, e2⟩)⟩
          · rw [gB_f c5] at q4
            refine e_then (e_calls hT (y := 272) (pc := 43) (q := (yX12_hung, cX12_hung, 5, (some .int), 12)) rfl (show aTab 272 43 = some (.invokestatic 65, 3, 2, 239, 0, 3, 6, 12) from rfl) (Nat.le_of_ble_eq_true rfl) (Nat.le_of_ble_eq_true rfl) (Nat.le_of_ble_eq_true rfl) ⟨by decide, by decide⟩ q4) ?_
            refine e_then (e_ifF hT (y := 272) (pc := 46) (q := (yX12_hung, cX12_hung, 5, (some .int), 12)) rfl (show aTab 272 46 = some (.ifCond .ne 6, 3, 0, 0, 0, 0, 0, 0) from rfl) rfl (t := 52) rfl (cdF (by show ¬ (¬ _ = _); decide))) ?_
            refine e_then (e_st hT (y := 272) (pc := 49) (q := (yX12_hung, cX12_hung, 5, (some .int), 12)) rfl (show aTab 272 49 = some (.ldc 89, 2, 7, 0, (-1000000001), 0, 0, 0) from rfl) (fr' := (272, 51, (lv_args 0 [.ref 128, .int l, .int b, .int on, .int md]), [.int (-1000000001)])) (M' := M) rfl) ?_
            exact e_fin (e_iret hT (y := 272) (pc := 51) (q := (yX12_hung, cX12_hung, 5, (some .int), 12)) rfl (show aTab 272 51 = some (.ireturn, 1, 0, 0, 0, 0, 0, 0) from rfl) ⟨rfl, rfl⟩) ⟨_, rfl, hM, Or.inl ⟨(fun z => by first | exact c1 z.1.1 | exact c2 z.1.2 | exact c3 z.2.1.1 | (have z2 := z.2.1.2; rw [eon] at z2; exact c4 z2) | exact c5 z.2.2), rfl, hg⟩⟩
        · rw [gB_f c4] at q5
          refine e_then (e_call hT (y := 272) (pc := 32) (q := (yX12_hung, cX12_hung, 5, (some .int), 12)) rfl (show aTab 272 32 = some (.invokevirtual 147, 3, 1, 256, 0, 1, 2, 12) from rfl) rfl ⟨by decide, Nat.le_of_ble_eq_true rfl⟩ (ob_at hM (rfl : tTy 119 = some (.inr (12, _)))).choose_spec (Nat.le_of_ble_eq_true rfl) (Nat.le_of_ble_eq_true rfl) ⟨by decide, by decide⟩ q5) ?_
          refine e_then (e_ifT hT (y := 272) (pc := 35) (q := (yX12_hung, cX12_hung, 5, (some .int), 12)) rfl (show aTab 272 35 = some (.ifCond .eq 14, 3, 0, 0, 0, 0, 0, 0) from rfl) rfl (t := 49) rfl (cdT (by show _ = _; decide))) ?_
          refine e_then (e_st hT (y := 272) (pc := 49) (q := (yX12_hung, cX12_hung, 5, (some .int), 12)) rfl (show aTab 272 49 = some (.ldc 89, 2, 7, 0, (-1000000001), 0, 0, 0) from rfl) (fr' := (272, 51, (lv_args 0 [.ref 128, .int l, .int b, .int on, .int md]), [.int (-1000000001)])) (M' := M) rfl) ?_
          exact e_fin (e_iret hT (y := 272) (pc := 51) (q := (yX12_hung, cX12_hung, 5, (some .int), 12)) rfl (show aTab 272 51 = some (.ireturn, 1, 0, 0, 0, 0, 0, 0) from rfl) ⟨rfl, rfl⟩) ⟨_, rfl, hM, Or.inl ⟨(fun z => by first | exact c1 z.1.1 | exact c2 z.1.2 | exact c3 z.2.1.1 | (have z2 := z.2.1.2; rw [eon] at z2; exact c4 z2) | exact c5 z.2.2), rfl, hg⟩⟩
      · rw [gB_f c3] at q3
        refine e_then (e_call hT (y := 272) (pc := 24) (q := (yX12_hung, cX12_hung, 5, (some .int), 12)) rfl (show aTab 272 24 = some (.invokevirtual 77, 3, 1, 249, 0, 1, 2, 12) from rfl) rfl ⟨by decide, Nat.le_of_ble_eq_true rfl⟩ (ob_at hM (rfl : tTy 119 = some (.inr (12, _)))).choose_spec (Nat.le_of_ble_eq_true rfl) (Nat.le_of_ble_eq_true rfl) ⟨by decide, by decide⟩ q3) ?_
        refine e_then (e_ifT hT (y := 272) (pc := 27) (q := (yX12_hung, cX12_hung, 5, (some .int), 12)) rfl (show aTab 272 27 = some (.ifCond .eq 22, 3, 0, 0, 0, 0, 0, 0) from rfl) rfl (t := 49) rfl (cdT (by show _ = _; decide))) ?_
        refine e_then (e_st hT (y := 272) (pc := 49) (q := (yX12_hung, cX12_hung, 5, (some .int), 12)) rfl (show aTab 272 49 = some (.ldc 89, 2, 7, 0, (-1000000001), 0, 0, 0) from rfl) (fr' := (272, 51, (lv_args 0 [.ref 128, .int l, .int b, .int on, .int md]), [.int (-1000000001)])) (M' := M) rfl) ?_
        exact e_fin (e_iret hT (y := 272) (pc := 51) (q := (yX12_hung, cX12_hung, 5, (some .int), 12)) rfl (show aTab 272 51 = some (.ireturn, 1, 0, 0, 0, 0, 0, 0) from rfl) ⟨rfl, rfl⟩) ⟨_, rfl, hM, Or.inl ⟨(fun z => by first | exact c1 z.1.1 | exact c2 z.1.2 | exact c3 z.2.1.1 | (have z2 := z.2.1.2; rw [eon] at z2; exact c4 z2) | exact c5 z.2.2), rfl, hg⟩⟩
    · rw [gB_f c2] at q2
      refine e_then (e_calls hT (y := 272) (pc := 16) (q := (yX12_hung, cX12_hung, 5, (some .int), 12)) rfl (show aTab 272 16 = some (.invokestatic 65, 3, 2, 239, 0, 3, 6, 12) from rfl) (Nat.le_of_ble_eq_true rfl) (Nat.le_of_ble_eq_true rfl) (Nat.le_of_ble_eq_true rfl) ⟨by decide, by decide⟩ q2) ?_
      refine e_then (e_ifT hT (y := 272) (pc := 19) (q := (yX12_hung, cX12_hung, 5, (some .int), 12)) rfl (show aTab 272 19 = some (.ifCond .eq 30, 3, 0, 0, 0, 0, 0, 0) from rfl) rfl (t := 49) rfl (cdT (by show _ = _; decide))) ?_
      refine e_then (e_st hT (y := 272) (pc := 49) (q := (yX12_hung, cX12_hung, 5, (some .int), 12)) rfl (show aTab 272 49 = some (.ldc 89, 2, 7, 0, (-1000000001), 0, 0, 0) from rfl) (fr' := (272, 51, (lv_args 0 [.ref 128, .int l, .int b, .int on, .int md]), [.int (-1000000001)])) (M' := M) rfl) ?_
      exact e_fin (e_iret hT (y := 272) (pc := 51) (q := (yX12_hung, cX12_hung, 5, (some .int), 12)) rfl (show aTab 272 51 = some (.ireturn, 1, 0, 0, 0, 0, 0, 0) from rfl) ⟨rfl, rfl⟩) ⟨_, rfl, hM, Or.inl ⟨(fun z => by first | exact c1 z.1.1 | exact c2 z.1.2 | exact c3 z.2.1.1 | (have z2 := z.2.1.2; rw [eon] at z2; exact c4 z2) | exact c5 z.2.2), rfl, hg⟩⟩
  · rw [gB_f c1] at q1
    refine e_then (e_call hT (y := 272) (pc := 2) (q := (yX12_hung, cX12_hung, 5, (some .int), 12)) rfl (show aTab 272 2 = some (.invokevirtual 128, 3, 1, 255, 0, 1, 2, 12) from rfl) rfl ⟨by decide, Nat.le_of_ble_eq_true rfl⟩ (ob_at hM (rfl : tTy 119 = some (.inr (12, _)))).choose_spec (Nat.le_of_ble_eq_true rfl) (Nat.le_of_ble_eq_true rfl) ⟨by decide, by decide⟩ q1) ?_
    refine e_then (e_ifT hT (y := 272) (pc := 5) (q := (yX12_hung, cX12_hung, 5, (some .int), 12)) rfl (show aTab 272 5 = some (.ifCond .eq 44, 3, 0, 0, 0, 0, 0, 0) from rfl) rfl (t := 49) rfl (cdT (by show _ = _; decide))) ?_
    refine e_then (e_st hT (y := 272) (pc := 49) (q := (yX12_hung, cX12_hung, 5, (some .int), 12)) rfl (show aTab 272 49 = some (.ldc 89, 2, 7, 0, (-1000000001), 0, 0, 0) from rfl) (fr' := (272, 51, (lv_args 0 [.ref 128, .int l, .int b, .int on, .int md]), [.int (-1000000001)])) (M' := M) rfl) ?_
    exact e_fin (e_iret hT (y := 272) (pc := 51) (q := (yX12_hung, cX12_hung, 5, (some .int), 12)) rfl (show aTab 272 51 = some (.ireturn, 1, 0, 0, 0, 0, 0, 0) from rfl) ⟨rfl, rfl⟩) ⟨_, rfl, hM, Or.inl ⟨(fun z => by first | exact c1 z.1.1 | exact c2 z.1.2 | exact c3 z.2.1.1 | (have z2 := z.2.1.2; rw [eon] at z2; exact c4 z2) | exact c5 z.2.2), rfl, hg⟩⟩
