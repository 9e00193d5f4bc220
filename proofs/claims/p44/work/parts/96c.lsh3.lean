/-! THE SHIFT THERE -/
def rSp (g : Nat → Nat → Int32) (h : Nat) : Prop := (g 120 (3740 + 2 * h)).toInt < 0 ∨ ∃ a b : Nat, a < 7 ∧ b < 7 ∧ g 120 (3740 + 2 * h) = Int32.ofNat a ∧ g 120 (3740 + 2 * h + 1) = Int32.ofNat b
def rOkS (g : Nat → Nat → Int32) (N : Nat) : Prop := g 120 9 = Int32.ofNat N ∧ N ≤ 6 ∧ (∀ h, h < 8 → rSp g h) ∧ ∀ k, 3440 ≤ k → k ≤ 3733 → 0 ≤ (g 120 k).toInt ∧ (g 120 k).toInt ≤ 1
def rH (g : Nat → Nat → Int32) (N h who : Nat) : Int32 := if h < 8 ∧ who < N ∧ 0 ≤ (g 120 (3740 + 2 * h)).toInt then g 120 (3440 + 49 * who + 7 * (g 120 (3740 + 2 * h)).toInt.toNat + (g 120 (3740 + 2 * h + 1)).toInt.toNat) else 0
theorem rH_b {g : Nat → Nat → Int32} {N : Nat} (hS : rOkS g N) : ∀ h w, 0 ≤ (rH g N h w).toInt ∧ (rH g N h w).toInt ≤ 1 := fun h w => by
  unfold rH
  split
  · next hc =>
    rcases hS.2.2.1 h hc.1 with h1 | ⟨a, b, a1, b1, e1, e2⟩
    · exact absurd hc.2.2 (by omega)
    · rw [e1, e2, i32n (by omega), i32n (by omega)]
      have := hS.2.1
      exact hS.2.2.2 _ (by omega) (by omega)
  · decide
theorem rH_6 {g : Nat → Nat → Int32} {N : Nat} (hS : rOkS g N) : ∀ h, rH g N h 6 = 0 := fun h => by
  unfold rH
  have := hS.2.1
  rw [if_neg (fun z => by omega)]
theorem rix1 {h : Nat} (hh : h ≤ 7) : ((3740 : Int32) + 2 * Int32.ofNat h).toInt = ((3740 + 2 * h : Nat) : Int) := by
  have e1 : (3740 : Int32).toInt = 3740 := rfl
  have e2 : (2 : Int32).toInt = 2 := rfl
  have eh := i32n (k := h) (by omega)
  have m : (2 * Int32.ofNat h).toInt = 2 * (h : Int) := by rw [i32_mul (by rw [e2, eh]; omega) (by rw [e2, eh]; omega), e2, eh]
  rw [i32_add (by omega) (by omega), e1, m]; omega
theorem rix2 {h : Nat} (hh : h ≤ 7) : ((3740 : Int32) + 2 * Int32.ofNat h + 1).toInt = ((3740 + 2 * h + 1 : Nat) : Int) := by
  have e1 : (1 : Int32).toInt = 1 := rfl
  have := rix1 hh
  rw [i32_add (by omega) (by omega), this, e1]; omega
theorem rix3 {w a b : Nat} (hw : w ≤ 6) (ha : a < 7) (hb : b < 7) : ((3440 : Int32) + 49 * Int32.ofNat w + 7 * Int32.ofNat a + Int32.ofNat b).toInt = ((3440 + 49 * w + 7 * a + b : Nat) : Int) := by
  have e1 : (3440 : Int32).toInt = 3440 := rfl
  have e2 : (49 : Int32).toInt = 49 := rfl
  have e3 : (7 : Int32).toInt = 7 := rfl
  have ew := i32n (k := w) (by omega)
  have ea := i32n (k := a) (by omega)
  have eb := i32n (k := b) (by omega)
  have m1 : (49 * Int32.ofNat w).toInt = 49 * (w : Int) := by rw [i32_mul (by rw [e2, ew]; omega) (by rw [e2, ew]; omega), e2, ew]
  have m2 : (7 * Int32.ofNat a).toInt = 7 * (a : Int) := by rw [i32_mul (by rw [e3, ea]; omega) (by rw [e3, ea]; omega), e3, ea]
  have m3 : ((3440 : Int32) + 49 * Int32.ofNat w).toInt = 3440 + 49 * (w : Int) := by rw [i32_add (by omega) (by omega), e1, m1]
  have m4 : ((3440 : Int32) + 49 * Int32.ofNat w + 7 * Int32.ofNat a).toInt = 3440 + 49 * (w : Int) + 7 * a := by rw [i32_add (by omega) (by omega), m3, m2]
  rw [i32_add (by omega) (by omega), m4, eb]; omega
theorem rhe_run (hT : aTabOk) {M : mHe} (hM : yTy M) {g : Nat → Nat → Int32} (hg : rdI M = g) {N : Nat} (hS : rOkS g N) {h who : Nat} (hh : h ≤ 7) (hw : who ≤ 6) {d : Nat} (hd : 10 ≤ d) : ∃ K, mRun none K d (344, 0, lv_args 0 [.ref 128, .int (Int32.ofNat h), .int (Int32.ofNat who)], []) M = some (some (.int (rH g N h who)), M) := by
  obtain ⟨hN, hN6, hSp, hE⟩ := id hS
  have ew := i32n (k := who) (by omega)
  have eN := i32n (k := N) (by omega)
  have x1 := rix1 hh
  have x2 := rix2 hh
  have go : mEv none 10 (344, 0, lv_args 0 [.ref 128, .int (Int32.ofNat h), .int (Int32.ofNat who)], []) M (fun r M' => r = some (.int (rH g N h who)) ∧ M' = M) := by
    unfold rH
    by_cases c1 : who < N
    · rcases hSp h (by omega) with c2 | ⟨a, b, a1, b1, ea, eb⟩
      · rw [if_neg (fun z => by omega)]
        refine e_then (e_al1 hT (y := 344) (pc := 0) (q := (yX12_hears, cX12_hears, 4, (some .int), 12)) rfl (show aTab 344 0 = some (.aload_n 0, 1, 0, 0, 0, 0, 0, 0) from rfl) rfl rfl) ?_
        refine e_then (e_getR hT (y := 344) (pc := 1) (q := (yX12_hears, cX12_hears, 4, (some .int), 12)) rfl (show aTab 344 1 = some (.getfield 7, 3, 0, 12, 0, 0, 0, 0) from rfl) rfl (by decide) (by decide) hM rfl rfl) ?_
        refine e_then (e_st hT (y := 344) (pc := 4) (q := (yX12_hears, cX12_hears, 4, (some .int), 12)) rfl (show aTab 344 4 = some (.sipush 3740, 3, 0, 0, 0, 0, 0, 0) from rfl) (fr' := (344, 7, (lv_args 0 [.ref 128, .int (Int32.ofNat h), .int (Int32.ofNat who)]), [.int 3740, .ref 129])) (M' := M) rfl) ?_
        refine e_then (e_st hT (y := 344) (pc := 7) (q := (yX12_hears, cX12_hears, 4, (some .int), 12)) rfl (show aTab 344 7 = some (.iconst 2, 1, 0, 0, 0, 0, 0, 0) from rfl) (fr' := (344, 8, (lv_args 0 [.ref 128, .int (Int32.ofNat h), .int (Int32.ofNat who)]), [.int 2, .int 3740, .ref 129])) (M' := M) rfl) ?_
        refine e_then (e_il1 hT (y := 344) (pc := 8) (q := (yX12_hears, cX12_hears, 4, (some .int), 12)) rfl (show aTab 344 8 = some (.iload_n 1, 1, 0, 0, 0, 0, 0, 0) from rfl) rfl rfl) ?_
        refine e_then (e_st hT (y := 344) (pc := 9) (q := (yX12_hears, cX12_hears, 4, (some .int), 12)) rfl (show aTab 344 9 = some (.imul, 1, 0, 0, 0, 0, 0, 0) from rfl) (fr' := (344, 10, (lv_args 0 [.ref 128, .int (Int32.ofNat h), .int (Int32.ofNat who)]), [.int (2 * (Int32.ofNat h)), .int 3740, .ref 129])) (M' := M) rfl) ?_
        refine e_then (e_st hT (y := 344) (pc := 10) (q := (yX12_hears, cX12_hears, 4, (some .int), 12)) rfl (show aTab 344 10 = some (.iadd, 1, 0, 0, 0, 0, 0, 0) from rfl) (fr' := (344, 11, (lv_args 0 [.ref 128, .int (Int32.ofNat h), .int (Int32.ofNat who)]), [.int (3740 + (2 * (Int32.ofNat h))), .ref 129])) (M' := M) rfl) ?_
        refine e_then (s_ald hT (y := 344) (pc := 11) (q := (yX12_hears, cX12_hears, 4, (some .int), 12)) rfl (show aTab 344 11 = some (.iaload, 1, 0, 0, 0, 0, 0, 0) from rfl) rfl hM hg 120 (3740 + 2 * h) rfl x1 (by omega)) ?_
        refine e_then (e_is1 hT (y := 344) (pc := 12) (q := (yX12_hears, cX12_hears, 4, (some .int), 12)) rfl (show aTab 344 12 = some (.istore_n 3, 1, 0, 0, 0, 0, 0, 0) from rfl) ⟨rfl, by decide⟩) ?_
        refine e_then (e_il1 hT (y := 344) (pc := 13) (q := (yX12_hears, cX12_hears, 4, (some .int), 12)) rfl (show aTab 344 13 = some (.iload_n 2, 1, 0, 0, 0, 0, 0, 0) from rfl) rfl (mlg_i rfl (by decide))) ?_
        refine e_then (e_al1 hT (y := 344) (pc := 14) (q := (yX12_hears, cX12_hears, 4, (some .int), 12)) rfl (show aTab 344 14 = some (.aload_n 0, 1, 0, 0, 0, 0, 0, 0) from rfl) rfl (mlg_r rfl (by decide))) ?_
        refine e_then (e_getR hT (y := 344) (pc := 15) (q := (yX12_hears, cX12_hears, 4, (some .int), 12)) rfl (show aTab 344 15 = some (.getfield 7, 3, 0, 12, 0, 0, 0, 0) from rfl) rfl (by decide) (by decide) hM rfl rfl) ?_
        refine e_then (e_st hT (y := 344) (pc := 18) (q := (yX12_hears, cX12_hears, 4, (some .int), 12)) rfl (show aTab 344 18 = some (.bipush 9, 2, 0, 0, 0, 0, 0, 0) from rfl) (fr' := (344, 20, (mlp 3 (.int (g 120 (3740 + 2 * h))) (lv_args 0 [.ref 128, .int (Int32.ofNat h), .int (Int32.ofNat who)])), [.int 9, .ref 129, .int (Int32.ofNat who)])) (M' := M) rfl) ?_
        refine e_then (s_ald hT (y := 344) (pc := 20) (q := (yX12_hears, cX12_hears, 4, (some .int), 12)) rfl (show aTab 344 20 = some (.iaload, 1, 0, 0, 0, 0, 0, 0) from rfl) rfl hM hg 120 9 rfl rfl (by decide)) ?_
        refine e_then (e_icF hT (y := 344) (pc := 21) (q := (yX12_hears, cX12_hears, 4, (some .int), 12)) rfl (show aTab 344 21 = some (.if_icmp .ge 43, 3, 0, 0, 0, 0, 0, 0) from rfl) rfl (t := 64) rfl (cdF (by rw [hN]; show ¬ _ ≤ _; omega))) ?_
        refine e_then (e_il1 hT (y := 344) (pc := 24) (q := (yX12_hears, cX12_hears, 4, (some .int), 12)) rfl (show aTab 344 24 = some (.iload_n 3, 1, 0, 0, 0, 0, 0, 0) from rfl) rfl (mlg_eq 3 _ _)) ?_
        refine e_then (e_ifT hT (y := 344) (pc := 25) (q := (yX12_hears, cX12_hears, 4, (some .int), 12)) rfl (show aTab 344 25 = some (.ifCond .lt 39, 3, 0, 0, 0, 0, 0, 0) from rfl) rfl (t := 64) rfl (cdT (by show _ < (0 : Int); exact c2))) ?_
        refine e_then (e_st hT (y := 344) (pc := 64) (q := (yX12_hears, cX12_hears, 4, (some .int), 12)) rfl (show aTab 344 64 = some (.iconst 0, 1, 0, 0, 0, 0, 0, 0) from rfl) (fr' := (344, 65, (mlp 3 (.int (g 120 (3740 + 2 * h))) (lv_args 0 [.ref 128, .int (Int32.ofNat h), .int (Int32.ofNat who)])), [.int 0])) (M' := M) rfl) ?_
        exact e_fin (e_iret hT (y := 344) (pc := 65) (q := (yX12_hears, cX12_hears, 4, (some .int), 12)) rfl (show aTab 344 65 = some (.ireturn, 1, 0, 0, 0, 0, 0, 0) from rfl) ⟨rfl, rfl⟩) ⟨rfl, rfl⟩
      · have eaa := i32n (k := a) (by omega)
        have ebb := i32n (k := b) (by omega)
        rw [if_pos ⟨by omega, c1, by rw [ea, eaa]; omega⟩, ea, eb, eaa, ebb, show ((a : Int)).toNat = a from rfl, show ((b : Int)).toNat = b from rfl]
        refine e_then (e_al1 hT (y := 344) (pc := 0) (q := (yX12_hears, cX12_hears, 4, (some .int), 12)) rfl (show aTab 344 0 = some (.aload_n 0, 1, 0, 0, 0, 0, 0, 0) from rfl) rfl rfl) ?_
        refine e_then (e_getR hT (y := 344) (pc := 1) (q := (yX12_hears, cX12_hears, 4, (some .int), 12)) rfl (show aTab 344 1 = some (.getfield 7, 3, 0, 12, 0, 0, 0, 0) from rfl) rfl (by decide) (by decide) hM rfl rfl) ?_
        refine e_then (e_st hT (y := 344) (pc := 4) (q := (yX12_hears, cX12_hears, 4, (some .int), 12)) rfl (show aTab 344 4 = some (.sipush 3740, 3, 0, 0, 0, 0, 0, 0) from rfl) (fr' := (344, 7, (lv_args 0 [.ref 128, .int (Int32.ofNat h), .int (Int32.ofNat who)]), [.int 3740, .ref 129])) (M' := M) rfl) ?_
        refine e_then (e_st hT (y := 344) (pc := 7) (q := (yX12_hears, cX12_hears, 4, (some .int), 12)) rfl (show aTab 344 7 = some (.iconst 2, 1, 0, 0, 0, 0, 0, 0) from rfl) (fr' := (344, 8, (lv_args 0 [.ref 128, .int (Int32.ofNat h), .int (Int32.ofNat who)]), [.int 2, .int 3740, .ref 129])) (M' := M) rfl) ?_
        refine e_then (e_il1 hT (y := 344) (pc := 8) (q := (yX12_hears, cX12_hears, 4, (some .int), 12)) rfl (show aTab 344 8 = some (.iload_n 1, 1, 0, 0, 0, 0, 0, 0) from rfl) rfl rfl) ?_
        refine e_then (e_st hT (y := 344) (pc := 9) (q := (yX12_hears, cX12_hears, 4, (some .int), 12)) rfl (show aTab 344 9 = some (.imul, 1, 0, 0, 0, 0, 0, 0) from rfl) (fr' := (344, 10, (lv_args 0 [.ref 128, .int (Int32.ofNat h), .int (Int32.ofNat who)]), [.int (2 * (Int32.ofNat h)), .int 3740, .ref 129])) (M' := M) rfl) ?_
        refine e_then (e_st hT (y := 344) (pc := 10) (q := (yX12_hears, cX12_hears, 4, (some .int), 12)) rfl (show aTab 344 10 = some (.iadd, 1, 0, 0, 0, 0, 0, 0) from rfl) (fr' := (344, 11, (lv_args 0 [.ref 128, .int (Int32.ofNat h), .int (Int32.ofNat who)]), [.int (3740 + (2 * (Int32.ofNat h))), .ref 129])) (M' := M) rfl) ?_
        refine e_then (s_ald hT (y := 344) (pc := 11) (q := (yX12_hears, cX12_hears, 4, (some .int), 12)) rfl (show aTab 344 11 = some (.iaload, 1, 0, 0, 0, 0, 0, 0) from rfl) rfl hM hg 120 (3740 + 2 * h) rfl x1 (by omega)) ?_
        refine e_then (e_is1 hT (y := 344) (pc := 12) (q := (yX12_hears, cX12_hears, 4, (some .int), 12)) rfl (show aTab 344 12 = some (.istore_n 3, 1, 0, 0, 0, 0, 0, 0) from rfl) ⟨rfl, by decide⟩) ?_
        refine e_then (e_il1 hT (y := 344) (pc := 13) (q := (yX12_hears, cX12_hears, 4, (some .int), 12)) rfl (show aTab 344 13 = some (.iload_n 2, 1, 0, 0, 0, 0, 0, 0) from rfl) rfl (mlg_i rfl (by decide))) ?_
        refine e_then (e_al1 hT (y := 344) (pc := 14) (q := (yX12_hears, cX12_hears, 4, (some .int), 12)) rfl (show aTab 344 14 = some (.aload_n 0, 1, 0, 0, 0, 0, 0, 0) from rfl) rfl (mlg_r rfl (by decide))) ?_
        refine e_then (e_getR hT (y := 344) (pc := 15) (q := (yX12_hears, cX12_hears, 4, (some .int), 12)) rfl (show aTab 344 15 = some (.getfield 7, 3, 0, 12, 0, 0, 0, 0) from rfl) rfl (by decide) (by decide) hM rfl rfl) ?_
        refine e_then (e_st hT (y := 344) (pc := 18) (q := (yX12_hears, cX12_hears, 4, (some .int), 12)) rfl (show aTab 344 18 = some (.bipush 9, 2, 0, 0, 0, 0, 0, 0) from rfl) (fr' := (344, 20, (mlp 3 (.int (g 120 (3740 + 2 * h))) (lv_args 0 [.ref 128, .int (Int32.ofNat h), .int (Int32.ofNat who)])), [.int 9, .ref 129, .int (Int32.ofNat who)])) (M' := M) rfl) ?_
        refine e_then (s_ald hT (y := 344) (pc := 20) (q := (yX12_hears, cX12_hears, 4, (some .int), 12)) rfl (show aTab 344 20 = some (.iaload, 1, 0, 0, 0, 0, 0, 0) from rfl) rfl hM hg 120 9 rfl rfl (by decide)) ?_
        refine e_then (e_icF hT (y := 344) (pc := 21) (q := (yX12_hears, cX12_hears, 4, (some .int), 12)) rfl (show aTab 344 21 = some (.if_icmp .ge 43, 3, 0, 0, 0, 0, 0, 0) from rfl) rfl (t := 64) rfl (cdF (by rw [hN]; show ¬ _ ≤ _; omega))) ?_
        refine e_then (e_il1 hT (y := 344) (pc := 24) (q := (yX12_hears, cX12_hears, 4, (some .int), 12)) rfl (show aTab 344 24 = some (.iload_n 3, 1, 0, 0, 0, 0, 0, 0) from rfl) rfl (mlg_eq 3 _ _)) ?_
        refine e_then (e_ifF hT (y := 344) (pc := 25) (q := (yX12_hears, cX12_hears, 4, (some .int), 12)) rfl (show aTab 344 25 = some (.ifCond .lt 39, 3, 0, 0, 0, 0, 0, 0) from rfl) rfl (t := 64) rfl (cdF (by rw [ea, eaa]; show ¬ _ < (0 : Int); omega))) ?_
        refine e_then (e_al1 hT (y := 344) (pc := 28) (q := (yX12_hears, cX12_hears, 4, (some .int), 12)) rfl (show aTab 344 28 = some (.aload_n 0, 1, 0, 0, 0, 0, 0, 0) from rfl) rfl (mlg_r rfl (by decide))) ?_
        refine e_then (e_getR hT (y := 344) (pc := 29) (q := (yX12_hears, cX12_hears, 4, (some .int), 12)) rfl (show aTab 344 29 = some (.getfield 7, 3, 0, 12, 0, 0, 0, 0) from rfl) rfl (by decide) (by decide) hM rfl rfl) ?_
        refine e_then (e_st hT (y := 344) (pc := 32) (q := (yX12_hears, cX12_hears, 4, (some .int), 12)) rfl (show aTab 344 32 = some (.sipush 3440, 3, 0, 0, 0, 0, 0, 0) from rfl) (fr' := (344, 35, (mlp 3 (.int (g 120 (3740 + 2 * h))) (lv_args 0 [.ref 128, .int (Int32.ofNat h), .int (Int32.ofNat who)])), [.int 3440, .ref 129])) (M' := M) rfl) ?_
        refine e_then (e_st hT (y := 344) (pc := 35) (q := (yX12_hears, cX12_hears, 4, (some .int), 12)) rfl (show aTab 344 35 = some (.bipush 49, 2, 0, 0, 0, 0, 0, 0) from rfl) (fr' := (344, 37, (mlp 3 (.int (g 120 (3740 + 2 * h))) (lv_args 0 [.ref 128, .int (Int32.ofNat h), .int (Int32.ofNat who)])), [.int 49, .int 3440, .ref 129])) (M' := M) rfl) ?_
        refine e_then (e_il1 hT (y := 344) (pc := 37) (q := (yX12_hears, cX12_hears, 4, (some .int), 12)) rfl (show aTab 344 37 = some (.iload_n 2, 1, 0, 0, 0, 0, 0, 0) from rfl) rfl (mlg_i rfl (by decide))) ?_
        refine e_then (e_st hT (y := 344) (pc := 38) (q := (yX12_hears, cX12_hears, 4, (some .int), 12)) rfl (show aTab 344 38 = some (.imul, 1, 0, 0, 0, 0, 0, 0) from rfl) (fr' := (344, 39, (mlp 3 (.int (g 120 (3740 + 2 * h))) (lv_args 0 [.ref 128, .int (Int32.ofNat h), .int (Int32.ofNat who)])), [.int (49 * (Int32.ofNat who)), .int 3440, .ref 129])) (M' := M) rfl) ?_
        refine e_then (e_st hT (y := 344) (pc := 39) (q := (yX12_hears, cX12_hears, 4, (some .int), 12)) rfl (show aTab 344 39 = some (.iadd, 1, 0, 0, 0, 0, 0, 0) from rfl) (fr' := (344, 40, (mlp 3 (.int (g 120 (3740 + 2 * h))) (lv_args 0 [.ref 128, .int (Int32.ofNat h), .int (Int32.ofNat who)])), [.int (3440 + (49 * (Int32.ofNat who))), .ref 129])) (M' := M) rfl) ?_
        refine e_then (e_st hT (y := 344) (pc := 40) (q := (yX12_hears, cX12_hears, 4, (some .int), 12)) rfl (show aTab 344 40 = some (.bipush 7, 2, 0, 0, 0, 0, 0, 0) from rfl) (fr' := (344, 42, (mlp 3 (.int (g 120 (3740 + 2 * h))) (lv_args 0 [.ref 128, .int (Int32.ofNat h), .int (Int32.ofNat who)])), [.int 7, .int (3440 + (49 * (Int32.ofNat who))), .ref 129])) (M' := M) rfl) ?_
        refine e_then (e_il1 hT (y := 344) (pc := 42) (q := (yX12_hears, cX12_hears, 4, (some .int), 12)) rfl (show aTab 344 42 = some (.iload_n 3, 1, 0, 0, 0, 0, 0, 0) from rfl) rfl (mlg_eq 3 _ _)) ?_
        refine e_then (e_st hT (y := 344) (pc := 43) (q := (yX12_hears, cX12_hears, 4, (some .int), 12)) rfl (show aTab 344 43 = some (.imul, 1, 0, 0, 0, 0, 0, 0) from rfl) (fr' := (344, 44, (mlp 3 (.int (g 120 (3740 + 2 * h))) (lv_args 0 [.ref 128, .int (Int32.ofNat h), .int (Int32.ofNat who)])), [.int (7 * (g 120 (3740 + 2 * h))), .int (3440 + (49 * (Int32.ofNat who))), .ref 129])) (M' := M) rfl) ?_
        refine e_then (e_st hT (y := 344) (pc := 44) (q := (yX12_hears, cX12_hears, 4, (some .int), 12)) rfl (show aTab 344 44 = some (.iadd, 1, 0, 0, 0, 0, 0, 0) from rfl) (fr' := (344, 45, (mlp 3 (.int (g 120 (3740 + 2 * h))) (lv_args 0 [.ref 128, .int (Int32.ofNat h), .int (Int32.ofNat who)])), [.int ((3440 + (49 * (Int32.ofNat who))) + (7 * (g 120 (3740 + 2 * h)))), .ref 129])) (M' := M) rfl) ?_
        refine e_then (e_al1 hT (y := 344) (pc := 45) (q := (yX12_hears, cX12_hears, 4, (some .int), 12)) rfl (show aTab 344 45 = some (.aload_n 0, 1, 0, 0, 0, 0, 0, 0) from rfl) rfl (mlg_r rfl (by decide))) ?_
        refine e_then (e_getR hT (y := 344) (pc := 46) (q := (yX12_hears, cX12_hears, 4, (some .int), 12)) rfl (show aTab 344 46 = some (.getfield 7, 3, 0, 12, 0, 0, 0, 0) from rfl) rfl (by decide) (by decide) hM rfl rfl) ?_
        refine e_then (e_st hT (y := 344) (pc := 49) (q := (yX12_hears, cX12_hears, 4, (some .int), 12)) rfl (show aTab 344 49 = some (.sipush 3740, 3, 0, 0, 0, 0, 0, 0) from rfl) (fr' := (344, 52, (mlp 3 (.int (g 120 (3740 + 2 * h))) (lv_args 0 [.ref 128, .int (Int32.ofNat h), .int (Int32.ofNat who)])), [.int 3740, .ref 129, .int ((3440 + (49 * (Int32.ofNat who))) + (7 * (g 120 (3740 + 2 * h)))), .ref 129])) (M' := M) rfl) ?_
        refine e_then (e_st hT (y := 344) (pc := 52) (q := (yX12_hears, cX12_hears, 4, (some .int), 12)) rfl (show aTab 344 52 = some (.iconst 2, 1, 0, 0, 0, 0, 0, 0) from rfl) (fr' := (344, 53, (mlp 3 (.int (g 120 (3740 + 2 * h))) (lv_args 0 [.ref 128, .int (Int32.ofNat h), .int (Int32.ofNat who)])), [.int 2, .int 3740, .ref 129, .int ((3440 + (49 * (Int32.ofNat who))) + (7 * (g 120 (3740 + 2 * h)))), .ref 129])) (M' := M) rfl) ?_
        refine e_then (e_il1 hT (y := 344) (pc := 53) (q := (yX12_hears, cX12_hears, 4, (some .int), 12)) rfl (show aTab 344 53 = some (.iload_n 1, 1, 0, 0, 0, 0, 0, 0) from rfl) rfl (mlg_i rfl (by decide))) ?_
        refine e_then (e_st hT (y := 344) (pc := 54) (q := (yX12_hears, cX12_hears, 4, (some .int), 12)) rfl (show aTab 344 54 = some (.imul, 1, 0, 0, 0, 0, 0, 0) from rfl) (fr' := (344, 55, (mlp 3 (.int (g 120 (3740 + 2 * h))) (lv_args 0 [.ref 128, .int (Int32.ofNat h), .int (Int32.ofNat who)])), [.int (2 * (Int32.ofNat h)), .int 3740, .ref 129, .int ((3440 + (49 * (Int32.ofNat who))) + (7 * (g 120 (3740 + 2 * h)))), .ref 129])) (M' := M) rfl) ?_
        refine e_then (e_st hT (y := 344) (pc := 55) (q := (yX12_hears, cX12_hears, 4, (some .int), 12)) rfl (show aTab 344 55 = some (.iadd, 1, 0, 0, 0, 0, 0, 0) from rfl) (fr' := (344, 56, (mlp 3 (.int (g 120 (3740 + 2 * h))) (lv_args 0 [.ref 128, .int (Int32.ofNat h), .int (Int32.ofNat who)])), [.int (3740 + (2 * (Int32.ofNat h))), .ref 129, .int ((3440 + (49 * (Int32.ofNat who))) + (7 * (g 120 (3740 + 2 * h)))), .ref 129])) (M' := M) rfl) ?_
        refine e_then (e_st hT (y := 344) (pc := 56) (q := (yX12_hears, cX12_hears, 4, (some .int), 12)) rfl (show aTab 344 56 = some (.iconst 1, 1, 0, 0, 0, 0, 0, 0) from rfl) (fr' := (344, 57, (mlp 3 (.int (g 120 (3740 + 2 * h))) (lv_args 0 [.ref 128, .int (Int32.ofNat h), .int (Int32.ofNat who)])), [.int 1, .int (3740 + (2 * (Int32.ofNat h))), .ref 129, .int ((3440 + (49 * (Int32.ofNat who))) + (7 * (g 120 (3740 + 2 * h)))), .ref 129])) (M' := M) rfl) ?_
        refine e_then (e_st hT (y := 344) (pc := 57) (q := (yX12_hears, cX12_hears, 4, (some .int), 12)) rfl (show aTab 344 57 = some (.iadd, 1, 0, 0, 0, 0, 0, 0) from rfl) (fr' := (344, 58, (mlp 3 (.int (g 120 (3740 + 2 * h))) (lv_args 0 [.ref 128, .int (Int32.ofNat h), .int (Int32.ofNat who)])), [.int ((3740 + (2 * (Int32.ofNat h))) + 1), .ref 129, .int ((3440 + (49 * (Int32.ofNat who))) + (7 * (g 120 (3740 + 2 * h)))), .ref 129])) (M' := M) rfl) ?_
        refine e_then (s_ald hT (y := 344) (pc := 58) (q := (yX12_hears, cX12_hears, 4, (some .int), 12)) rfl (show aTab 344 58 = some (.iaload, 1, 0, 0, 0, 0, 0, 0) from rfl) rfl hM hg 120 (3740 + 2 * h + 1) rfl x2 (by omega)) ?_
        refine e_then (e_st hT (y := 344) (pc := 59) (q := (yX12_hears, cX12_hears, 4, (some .int), 12)) rfl (show aTab 344 59 = some (.iadd, 1, 0, 0, 0, 0, 0, 0) from rfl) (fr' := (344, 60, (mlp 3 (.int (g 120 (3740 + 2 * h))) (lv_args 0 [.ref 128, .int (Int32.ofNat h), .int (Int32.ofNat who)])), [.int (((3440 + (49 * (Int32.ofNat who))) + (7 * (g 120 (3740 + 2 * h)))) + (g 120 (3740 + 2 * h + 1))), .ref 129])) (M' := M) rfl) ?_
        rw [ea, eb]
        refine e_then (s_ald hT (y := 344) (pc := 60) (q := (yX12_hears, cX12_hears, 4, (some .int), 12)) rfl (show aTab 344 60 = some (.iaload, 1, 0, 0, 0, 0, 0, 0) from rfl) rfl hM hg 120 (3440 + 49 * who + 7 * a + b) rfl (rix3 hw a1 b1) (by omega)) ?_
        refine e_then (e_st hT (y := 344) (pc := 61) (q := (yX12_hears, cX12_hears, 4, (some .int), 12)) rfl (show aTab 344 61 = some (.goto 4, 3, 0, 0, 0, 0, 0, 0) from rfl) (fr' := (344, 65, (mlp 3 (.int (Int32.ofNat a)) (lv_args 0 [.ref 128, .int (Int32.ofNat h), .int (Int32.ofNat who)])), [.int (g 120 (3440 + 49 * who + 7 * a + b))])) (M' := M) rfl) ?_
        exact e_fin (e_iret hT (y := 344) (pc := 65) (q := (yX12_hears, cX12_hears, 4, (some .int), 12)) rfl (show aTab 344 65 = some (.ireturn, 1, 0, 0, 0, 0, 0, 0) from rfl) ⟨rfl, rfl⟩) ⟨rfl, rfl⟩
    · rw [if_neg (fun z => c1 z.2.1)]
      refine e_then (e_al1 hT (y := 344) (pc := 0) (q := (yX12_hears, cX12_hears, 4, (some .int), 12)) rfl (show aTab 344 0 = some (.aload_n 0, 1, 0, 0, 0, 0, 0, 0) from rfl) rfl rfl) ?_
      refine e_then (e_getR hT (y := 344) (pc := 1) (q := (yX12_hears, cX12_hears, 4, (some .int), 12)) rfl (show aTab 344 1 = some (.getfield 7, 3, 0, 12, 0, 0, 0, 0) from rfl) rfl (by decide) (by decide) hM rfl rfl) ?_
      refine e_then (e_st hT (y := 344) (pc := 4) (q := (yX12_hears, cX12_hears, 4, (some .int), 12)) rfl (show aTab 344 4 = some (.sipush 3740, 3, 0, 0, 0, 0, 0, 0) from rfl) (fr' := (344, 7, (lv_args 0 [.ref 128, .int (Int32.ofNat h), .int (Int32.ofNat who)]), [.int 3740, .ref 129])) (M' := M) rfl) ?_
      refine e_then (e_st hT (y := 344) (pc := 7) (q := (yX12_hears, cX12_hears, 4, (some .int), 12)) rfl (show aTab 344 7 = some (.iconst 2, 1, 0, 0, 0, 0, 0, 0) from rfl) (fr' := (344, 8, (lv_args 0 [.ref 128, .int (Int32.ofNat h), .int (Int32.ofNat who)]), [.int 2, .int 3740, .ref 129])) (M' := M) rfl) ?_
      refine e_then (e_il1 hT (y := 344) (pc := 8) (q := (yX12_hears, cX12_hears, 4, (some .int), 12)) rfl (show aTab 344 8 = some (.iload_n 1, 1, 0, 0, 0, 0, 0, 0) from rfl) rfl rfl) ?_
      refine e_then (e_st hT (y := 344) (pc := 9) (q := (yX12_hears, cX12_hears, 4, (some .int), 12)) rfl (show aTab 344 9 = some (.imul, 1, 0, 0, 0, 0, 0, 0) from rfl) (fr' := (344, 10, (lv_args 0 [.ref 128, .int (Int32.ofNat h), .int (Int32.ofNat who)]), [.int (2 * (Int32.ofNat h)), .int 3740, .ref 129])) (M' := M) rfl) ?_
      refine e_then (e_st hT (y := 344) (pc := 10) (q := (yX12_hears, cX12_hears, 4, (some .int), 12)) rfl (show aTab 344 10 = some (.iadd, 1, 0, 0, 0, 0, 0, 0) from rfl) (fr' := (344, 11, (lv_args 0 [.ref 128, .int (Int32.ofNat h), .int (Int32.ofNat who)]), [.int (3740 + (2 * (Int32.ofNat h))), .ref 129])) (M' := M) rfl) ?_
      refine e_then (s_ald hT (y := 344) (pc := 11) (q := (yX12_hears, cX12_hears, 4, (some .int), 12)) rfl (show aTab 344 11 = some (.iaload, 1, 0, 0, 0, 0, 0, 0) from rfl) rfl hM hg 120 (3740 + 2 * h) rfl x1 (by omega)) ?_
      refine e_then (e_is1 hT (y := 344) (pc := 12) (q := (yX12_hears, cX12_hears, 4, (some .int), 12)) rfl (show aTab 344 12 = some (.istore_n 3, 1, 0, 0, 0, 0, 0, 0) from rfl) ⟨rfl, by decide⟩) ?_
      refine e_then (e_il1 hT (y := 344) (pc := 13) (q := (yX12_hears, cX12_hears, 4, (some .int), 12)) rfl (show aTab 344 13 = some (.iload_n 2, 1, 0, 0, 0, 0, 0, 0) from rfl) rfl (mlg_i rfl (by decide))) ?_
      refine e_then (e_al1 hT (y := 344) (pc := 14) (q := (yX12_hears, cX12_hears, 4, (some .int), 12)) rfl (show aTab 344 14 = some (.aload_n 0, 1, 0, 0, 0, 0, 0, 0) from rfl) rfl (mlg_r rfl (by decide))) ?_
      refine e_then (e_getR hT (y := 344) (pc := 15) (q := (yX12_hears, cX12_hears, 4, (some .int), 12)) rfl (show aTab 344 15 = some (.getfield 7, 3, 0, 12, 0, 0, 0, 0) from rfl) rfl (by decide) (by decide) hM rfl rfl) ?_
      refine e_then (e_st hT (y := 344) (pc := 18) (q := (yX12_hears, cX12_hears, 4, (some .int), 12)) rfl (show aTab 344 18 = some (.bipush 9, 2, 0, 0, 0, 0, 0, 0) from rfl) (fr' := (344, 20, (mlp 3 (.int (g 120 (3740 + 2 * h))) (lv_args 0 [.ref 128, .int (Int32.ofNat h), .int (Int32.ofNat who)])), [.int 9, .ref 129, .int (Int32.ofNat who)])) (M' := M) rfl) ?_
      refine e_then (s_ald hT (y := 344) (pc := 20) (q := (yX12_hears, cX12_hears, 4, (some .int), 12)) rfl (show aTab 344 20 = some (.iaload, 1, 0, 0, 0, 0, 0, 0) from rfl) rfl hM hg 120 9 rfl rfl (by decide)) ?_
      refine e_then (e_icT hT (y := 344) (pc := 21) (q := (yX12_hears, cX12_hears, 4, (some .int), 12)) rfl (show aTab 344 21 = some (.if_icmp .ge 43, 3, 0, 0, 0, 0, 0, 0) from rfl) rfl (t := 64) rfl (cdT (by rw [hN]; show _ ≤ _; omega))) ?_
      refine e_then (e_st hT (y := 344) (pc := 64) (q := (yX12_hears, cX12_hears, 4, (some .int), 12)) rfl (show aTab 344 64 = some (.iconst 0, 1, 0, 0, 0, 0, 0, 0) from rfl) (fr' := (344, 65, (mlp 3 (.int (g 120 (3740 + 2 * h))) (lv_args 0 [.ref 128, .int (Int32.ofNat h), .int (Int32.ofNat who)])), [.int 0])) (M' := M) rfl) ?_
      exact e_fin (e_iret hT (y := 344) (pc := 65) (q := (yX12_hears, cX12_hears, 4, (some .int), 12)) rfl (show aTab 344 65 = some (.ireturn, 1, 0, 0, 0, 0, 0, 0) from rfl) ⟨rfl, rfl⟩) ⟨rfl, rfl⟩
  obtain ⟨K, r, M', q, rfl, rfl⟩ := go
  exact ⟨K, mRun_dm q hd⟩
theorem rix4 {h w s : Nat} (hh : h ≤ 7) (hw : w ≤ 6) (hs : s ≤ 1) {z : Int32} (hz : z.toInt = (s : Int)) : ((14 : Int32) * (Int32.ofNat h + 1) + 2 * Int32.ofNat w + z).toInt = ((14 * (h + 1) + (2 * w + s) : Nat) : Int) := by
  have e1 : (1 : Int32).toInt = 1 := rfl
  have e2 : (2 : Int32).toInt = 2 := rfl
  have e14 : (14 : Int32).toInt = 14 := rfl
  have eh := i32n (k := h) (by omega)
  have ew := i32n (k := w) (by omega)
  have m0 : (Int32.ofNat h + 1).toInt = (h : Int) + 1 := by rw [i32_add (by omega) (by omega), eh, e1]
  have m1 : ((14 : Int32) * (Int32.ofNat h + 1)).toInt = 14 * ((h : Int) + 1) := by rw [i32_mul (by rw [e14, m0]; omega) (by rw [e14, m0]; omega), e14, m0]
  have m2 : (2 * Int32.ofNat w).toInt = 2 * (w : Int) := by rw [i32_mul (by rw [e2, ew]; omega) (by rw [e2, ew]; omega), e2, ew]
  have m3 : ((14 : Int32) * (Int32.ofNat h + 1) + 2 * Int32.ofNat w).toInt = 14 * ((h : Int) + 1) + 2 * w := by rw [i32_add (by omega) (by omega), m1, m2]
  rw [i32_add (by omega) (by omega), m3, hz]; omega
theorem rhb_run (hT : aTabOk) {M : mHe} (hM : yTy M) {g : Nat → Nat → Int32} (hg : rdI M = g) {N : Nat} (hS : rOkS g N) {nx : Nat → Int32} {h la tw who : Nat} (hn : ∀ k, k < 14 → g 135 (14 * (h + 1) + k) = nx k) (hh : h ≤ 7) (hl : la ≤ 6) (ht : tw ≤ 1) (hw : who ≤ 6) {d : Nat} (hd : 20 ≤ d) : ∃ K, mRun none K d (345, 0, lv_args 0 [.ref 128, .int (Int32.ofNat h), .int (Int32.ofNat la), .int (Int32.ofNat tw), .int (Int32.ofNat who)], []) M = some (some (.int (hbV (rH g N) N nx h la tw who)), M) := by
  obtain ⟨hN, hN6, hSp, hE⟩ := id hS
  have ew := i32n (k := who) (by omega)
  have el := i32n (k := la) (by omega)
  have et := i32n (k := tw) (by omega)
  have eN := i32n (k := N) (by omega)
  have e6 : (6 : Int32).toInt = 6 := rfl
  have e1 : (1 : Int32).toInt = 1 := rfl
  obtain ⟨K1, q1⟩ := rhe_run hT hM hg hS hh hw (d := 19) (by decide)
  have go : mEv none 20 (345, 0, lv_args 0 [.ref 128, .int (Int32.ofNat h), .int (Int32.ofNat la), .int (Int32.ofNat tw), .int (Int32.ofNat who)], []) M (fun r M' => r = some (.int (hbV (rH g N) N nx h la tw who)) ∧ M' = M) := by
    have tail : ∀ (s : Nat) (z : Int32) (lv : List (Nat × Value)), s = (if who = la ∧ who < 6 then 1 else 0) → z.toInt = (s : Int) → ¬ (who < 6 ∧ (N ≤ who ∨ (who = la ∧ tw = 1))) → mlg 0 lv = some (.ref 128) → mlg 1 lv = some (.int (Int32.ofNat h)) → mlg 4 lv = some (.int (Int32.ofNat who)) → mEv none 20 (345, 50, lv, [.int z]) M (fun r M' => r = some (.int (hbV (rH g N) N nx h la tw who)) ∧ M' = M) := fun s z lv hs hz hno h0 h1 h4 => by
      have hs1 : s ≤ 1 := by rw [hs]; split <;> omega
      have hv : hbV (rH g N) N nx h la tw who = rH g N h who + g 135 (14 * (h + 1) + (2 * who + s)) := by
        unfold hbV
        rw [if_neg hno, hn _ (by omega), hs]
      rw [hv]
      refine e_then (e_is2 hT (y := 345) (pc := 50) (q := (yX12_heardBy, cX12_heardBy, 6, (some .int), 12)) rfl (show aTab 345 50 = some (.istore 5, 2, 0, 0, 0, 0, 0, 0) from rfl) ⟨rfl, by decide⟩) ?_
      refine e_then (e_al1 hT (y := 345) (pc := 52) (q := (yX12_heardBy, cX12_heardBy, 6, (some .int), 12)) rfl (show aTab 345 52 = some (.aload_n 0, 1, 0, 0, 0, 0, 0, 0) from rfl) rfl (mlg_r h0 (by decide))) ?_
      refine e_then (e_il1 hT (y := 345) (pc := 53) (q := (yX12_heardBy, cX12_heardBy, 6, (some .int), 12)) rfl (show aTab 345 53 = some (.iload_n 1, 1, 0, 0, 0, 0, 0, 0) from rfl) rfl (mlg_i h1 (by decide))) ?_
      refine e_then (e_il2 hT (y := 345) (pc := 54) (q := (yX12_heardBy, cX12_heardBy, 6, (some .int), 12)) rfl (show aTab 345 54 = some (.iload 4, 2, 0, 0, 0, 0, 0, 0) from rfl) rfl (mlg_i h4 (by decide))) ?_
      refine e_then (e_call hT (y := 345) (pc := 56) (q := (yX12_heardBy, cX12_heardBy, 6, (some .int), 12)) rfl (show aTab 345 56 = some (.invokevirtual 380, 3, 1, 344, 0, 2, 4, 12) from rfl) rfl ⟨by decide, Nat.le_of_ble_eq_true rfl⟩ (ob_at hM (rfl : tTy 119 = some (.inr (12, _)))).choose_spec (Nat.le_of_ble_eq_true rfl) (Nat.le_of_ble_eq_true rfl) ⟨by decide, by decide⟩ q1) ?_
      refine e_then (e_al1 hT (y := 345) (pc := 59) (q := (yX12_heardBy, cX12_heardBy, 6, (some .int), 12)) rfl (show aTab 345 59 = some (.aload_n 0, 1, 0, 0, 0, 0, 0, 0) from rfl) rfl (mlg_r h0 (by decide))) ?_
      refine e_then (e_getR hT (y := 345) (pc := 60) (q := (yX12_heardBy, cX12_heardBy, 6, (some .int), 12)) rfl (show aTab 345 60 = some (.getfield 55, 3, 0, 12, 30, 0, 0, 0) from rfl) rfl (by decide) (by decide) hM rfl rfl) ?_
      refine e_then (e_st hT (y := 345) (pc := 63) (q := (yX12_heardBy, cX12_heardBy, 6, (some .int), 12)) rfl (show aTab 345 63 = some (.bipush 14, 2, 0, 0, 0, 0, 0, 0) from rfl) (fr' := (345, 65, (mlp 5 (.int z) lv), [.int 14, .ref 144, .int (rH g N h who)])) (M' := M) rfl) ?_
      refine e_then (e_il1 hT (y := 345) (pc := 65) (q := (yX12_heardBy, cX12_heardBy, 6, (some .int), 12)) rfl (show aTab 345 65 = some (.iload_n 1, 1, 0, 0, 0, 0, 0, 0) from rfl) rfl (mlg_i h1 (by decide))) ?_
      refine e_then (e_st hT (y := 345) (pc := 66) (q := (yX12_heardBy, cX12_heardBy, 6, (some .int), 12)) rfl (show aTab 345 66 = some (.iconst 1, 1, 0, 0, 0, 0, 0, 0) from rfl) (fr' := (345, 67, (mlp 5 (.int z) lv), [.int 1, .int (Int32.ofNat h), .int 14, .ref 144, .int (rH g N h who)])) (M' := M) rfl) ?_
      refine e_then (e_st hT (y := 345) (pc := 67) (q := (yX12_heardBy, cX12_heardBy, 6, (some .int), 12)) rfl (show aTab 345 67 = some (.iadd, 1, 0, 0, 0, 0, 0, 0) from rfl) (fr' := (345, 68, (mlp 5 (.int z) lv), [.int ((Int32.ofNat h) + 1), .int 14, .ref 144, .int (rH g N h who)])) (M' := M) rfl) ?_
      refine e_then (e_st hT (y := 345) (pc := 68) (q := (yX12_heardBy, cX12_heardBy, 6, (some .int), 12)) rfl (show aTab 345 68 = some (.imul, 1, 0, 0, 0, 0, 0, 0) from rfl) (fr' := (345, 69, (mlp 5 (.int z) lv), [.int (14 * ((Int32.ofNat h) + 1)), .ref 144, .int (rH g N h who)])) (M' := M) rfl) ?_
      refine e_then (e_st hT (y := 345) (pc := 69) (q := (yX12_heardBy, cX12_heardBy, 6, (some .int), 12)) rfl (show aTab 345 69 = some (.iconst 2, 1, 0, 0, 0, 0, 0, 0) from rfl) (fr' := (345, 70, (mlp 5 (.int z) lv), [.int 2, .int (14 * ((Int32.ofNat h) + 1)), .ref 144, .int (rH g N h who)])) (M' := M) rfl) ?_
      refine e_then (e_il2 hT (y := 345) (pc := 70) (q := (yX12_heardBy, cX12_heardBy, 6, (some .int), 12)) rfl (show aTab 345 70 = some (.iload 4, 2, 0, 0, 0, 0, 0, 0) from rfl) rfl (mlg_i h4 (by decide))) ?_
      refine e_then (e_st hT (y := 345) (pc := 72) (q := (yX12_heardBy, cX12_heardBy, 6, (some .int), 12)) rfl (show aTab 345 72 = some (.imul, 1, 0, 0, 0, 0, 0, 0) from rfl) (fr' := (345, 73, (mlp 5 (.int z) lv), [.int (2 * (Int32.ofNat who)), .int (14 * ((Int32.ofNat h) + 1)), .ref 144, .int (rH g N h who)])) (M' := M) rfl) ?_
      refine e_then (e_st hT (y := 345) (pc := 73) (q := (yX12_heardBy, cX12_heardBy, 6, (some .int), 12)) rfl (show aTab 345 73 = some (.iadd, 1, 0, 0, 0, 0, 0, 0) from rfl) (fr' := (345, 74, (mlp 5 (.int z) lv), [.int ((14 * ((Int32.ofNat h) + 1)) + (2 * (Int32.ofNat who))), .ref 144, .int (rH g N h who)])) (M' := M) rfl) ?_
      refine e_then (e_il2 hT (y := 345) (pc := 74) (q := (yX12_heardBy, cX12_heardBy, 6, (some .int), 12)) rfl (show aTab 345 74 = some (.iload 5, 2, 0, 0, 0, 0, 0, 0) from rfl) rfl (mlg_eq 5 _ _)) ?_
      refine e_then (e_st hT (y := 345) (pc := 76) (q := (yX12_heardBy, cX12_heardBy, 6, (some .int), 12)) rfl (show aTab 345 76 = some (.iadd, 1, 0, 0, 0, 0, 0, 0) from rfl) (fr' := (345, 77, (mlp 5 (.int z) lv), [.int (((14 * ((Int32.ofNat h) + 1)) + (2 * (Int32.ofNat who))) + z), .ref 144, .int (rH g N h who)])) (M' := M) rfl) ?_
      refine e_then (s_ald hT (y := 345) (pc := 77) (q := (yX12_heardBy, cX12_heardBy, 6, (some .int), 12)) rfl (show aTab 345 77 = some (.iaload, 1, 0, 0, 0, 0, 0, 0) from rfl) rfl hM hg 135 (14 * (h + 1) + (2 * who + s)) rfl (rix4 hh hw hs1 hz) (by omega)) ?_
      refine e_then (e_st hT (y := 345) (pc := 78) (q := (yX12_heardBy, cX12_heardBy, 6, (some .int), 12)) rfl (show aTab 345 78 = some (.iadd, 1, 0, 0, 0, 0, 0, 0) from rfl) (fr' := (345, 79, (mlp 5 (.int z) lv), [.int ((rH g N h who) + (g 135 (14 * (h + 1) + (2 * who + s))))])) (M' := M) rfl) ?_
      exact e_fin (e_iret hT (y := 345) (pc := 79) (q := (yX12_heardBy, cX12_heardBy, 6, (some .int), 12)) rfl (show aTab 345 79 = some (.ireturn, 1, 0, 0, 0, 0, 0, 0) from rfl) ⟨rfl, rfl⟩) ⟨rfl, rfl⟩
    by_cases c1 : who = 6
    · by_cases c3 : who = la
      · refine e_then (e_il2 hT (y := 345) (pc := 0) (q := (yX12_heardBy, cX12_heardBy, 6, (some .int), 12)) rfl (show aTab 345 0 = some (.iload 4, 2, 0, 0, 0, 0, 0, 0) from rfl) rfl rfl) ?_
        refine e_then (e_st hT (y := 345) (pc := 2) (q := (yX12_heardBy, cX12_heardBy, 6, (some .int), 12)) rfl (show aTab 345 2 = some (.bipush 6, 2, 0, 0, 0, 0, 0, 0) from rfl) (fr' := (345, 4, (lv_args 0 [.ref 128, .int (Int32.ofNat h), .int (Int32.ofNat la), .int (Int32.ofNat tw), .int (Int32.ofNat who)]), [.int 6, .int (Int32.ofNat who)])) (M' := M) rfl) ?_
        refine e_then (e_icT hT (y := 345) (pc := 4) (q := (yX12_heardBy, cX12_heardBy, 6, (some .int), 12)) rfl (show aTab 345 4 = some (.if_icmp .ge 28, 3, 0, 0, 0, 0, 0, 0) from rfl) rfl (t := 32) rfl (cdT (by show _ ≤ _; omega))) ?_
        refine e_then (e_il2 hT (y := 345) (pc := 32) (q := (yX12_heardBy, cX12_heardBy, 6, (some .int), 12)) rfl (show aTab 345 32 = some (.iload 4, 2, 0, 0, 0, 0, 0, 0) from rfl) rfl rfl) ?_
        refine e_then (e_il1 hT (y := 345) (pc := 34) (q := (yX12_heardBy, cX12_heardBy, 6, (some .int), 12)) rfl (show aTab 345 34 = some (.iload_n 2, 1, 0, 0, 0, 0, 0, 0) from rfl) rfl rfl) ?_
        refine e_then (e_icF hT (y := 345) (pc := 35) (q := (yX12_heardBy, cX12_heardBy, 6, (some .int), 12)) rfl (show aTab 345 35 = some (.if_icmp .ne 14, 3, 0, 0, 0, 0, 0, 0) from rfl) rfl (t := 49) rfl (cdF (by show ¬ ¬ _ = _; omega))) ?_
        refine e_then (e_il2 hT (y := 345) (pc := 38) (q := (yX12_heardBy, cX12_heardBy, 6, (some .int), 12)) rfl (show aTab 345 38 = some (.iload 4, 2, 0, 0, 0, 0, 0, 0) from rfl) rfl rfl) ?_
        refine e_then (e_st hT (y := 345) (pc := 40) (q := (yX12_heardBy, cX12_heardBy, 6, (some .int), 12)) rfl (show aTab 345 40 = some (.bipush 6, 2, 0, 0, 0, 0, 0, 0) from rfl) (fr' := (345, 42, (lv_args 0 [.ref 128, .int (Int32.ofNat h), .int (Int32.ofNat la), .int (Int32.ofNat tw), .int (Int32.ofNat who)]), [.int 6, .int (Int32.ofNat who)])) (M' := M) rfl) ?_
        refine e_then (e_icT hT (y := 345) (pc := 42) (q := (yX12_heardBy, cX12_heardBy, 6, (some .int), 12)) rfl (show aTab 345 42 = some (.if_icmp .ge 7, 3, 0, 0, 0, 0, 0, 0) from rfl) rfl (t := 49) rfl (cdT (by show _ ≤ _; omega))) ?_
        refine e_then (e_st hT (y := 345) (pc := 49) (q := (yX12_heardBy, cX12_heardBy, 6, (some .int), 12)) rfl (show aTab 345 49 = some (.iconst 0, 1, 0, 0, 0, 0, 0, 0) from rfl) (fr' := (345, 50, (lv_args 0 [.ref 128, .int (Int32.ofNat h), .int (Int32.ofNat la), .int (Int32.ofNat tw), .int (Int32.ofNat who)]), [.int 0])) (M' := M) rfl) ?_
        exact tail 0 _ _ (by rw [if_neg (by omega)]) rfl (by omega) rfl rfl rfl
      · refine e_then (e_il2 hT (y := 345) (pc := 0) (q := (yX12_heardBy, cX12_heardBy, 6, (some .int), 12)) rfl (show aTab 345 0 = some (.iload 4, 2, 0, 0, 0, 0, 0, 0) from rfl) rfl rfl) ?_
        refine e_then (e_st hT (y := 345) (pc := 2) (q := (yX12_heardBy, cX12_heardBy, 6, (some .int), 12)) rfl (show aTab 345 2 = some (.bipush 6, 2, 0, 0, 0, 0, 0, 0) from rfl) (fr' := (345, 4, (lv_args 0 [.ref 128, .int (Int32.ofNat h), .int (Int32.ofNat la), .int (Int32.ofNat tw), .int (Int32.ofNat who)]), [.int 6, .int (Int32.ofNat who)])) (M' := M) rfl) ?_
        refine e_then (e_icT hT (y := 345) (pc := 4) (q := (yX12_heardBy, cX12_heardBy, 6, (some .int), 12)) rfl (show aTab 345 4 = some (.if_icmp .ge 28, 3, 0, 0, 0, 0, 0, 0) from rfl) rfl (t := 32) rfl (cdT (by show _ ≤ _; omega))) ?_
        refine e_then (e_il2 hT (y := 345) (pc := 32) (q := (yX12_heardBy, cX12_heardBy, 6, (some .int), 12)) rfl (show aTab 345 32 = some (.iload 4, 2, 0, 0, 0, 0, 0, 0) from rfl) rfl rfl) ?_
        refine e_then (e_il1 hT (y := 345) (pc := 34) (q := (yX12_heardBy, cX12_heardBy, 6, (some .int), 12)) rfl (show aTab 345 34 = some (.iload_n 2, 1, 0, 0, 0, 0, 0, 0) from rfl) rfl rfl) ?_
        refine e_then (e_icT hT (y := 345) (pc := 35) (q := (yX12_heardBy, cX12_heardBy, 6, (some .int), 12)) rfl (show aTab 345 35 = some (.if_icmp .ne 14, 3, 0, 0, 0, 0, 0, 0) from rfl) rfl (t := 49) rfl (cdT (by show ¬ _ = _; omega))) ?_
        refine e_then (e_st hT (y := 345) (pc := 49) (q := (yX12_heardBy, cX12_heardBy, 6, (some .int), 12)) rfl (show aTab 345 49 = some (.iconst 0, 1, 0, 0, 0, 0, 0, 0) from rfl) (fr' := (345, 50, (lv_args 0 [.ref 128, .int (Int32.ofNat h), .int (Int32.ofNat la), .int (Int32.ofNat tw), .int (Int32.ofNat who)]), [.int 0])) (M' := M) rfl) ?_
        exact tail 0 _ _ (by rw [if_neg (by omega)]) rfl (by omega) rfl rfl rfl
    by_cases c2 : N ≤ who
    · have hv : hbV (rH g N) N nx h la tw who = -1 := if_pos (by omega)
      rw [hv]
      refine e_then (e_il2 hT (y := 345) (pc := 0) (q := (yX12_heardBy, cX12_heardBy, 6, (some .int), 12)) rfl (show aTab 345 0 = some (.iload 4, 2, 0, 0, 0, 0, 0, 0) from rfl) rfl rfl) ?_
      refine e_then (e_st hT (y := 345) (pc := 2) (q := (yX12_heardBy, cX12_heardBy, 6, (some .int), 12)) rfl (show aTab 345 2 = some (.bipush 6, 2, 0, 0, 0, 0, 0, 0) from rfl) (fr' := (345, 4, (lv_args 0 [.ref 128, .int (Int32.ofNat h), .int (Int32.ofNat la), .int (Int32.ofNat tw), .int (Int32.ofNat who)]), [.int 6, .int (Int32.ofNat who)])) (M' := M) rfl) ?_
      refine e_then (e_icF hT (y := 345) (pc := 4) (q := (yX12_heardBy, cX12_heardBy, 6, (some .int), 12)) rfl (show aTab 345 4 = some (.if_icmp .ge 28, 3, 0, 0, 0, 0, 0, 0) from rfl) rfl (t := 32) rfl (cdF (by show ¬ _ ≤ _; omega))) ?_
      refine e_then (e_il2 hT (y := 345) (pc := 7) (q := (yX12_heardBy, cX12_heardBy, 6, (some .int), 12)) rfl (show aTab 345 7 = some (.iload 4, 2, 0, 0, 0, 0, 0, 0) from rfl) rfl rfl) ?_
      refine e_then (e_al1 hT (y := 345) (pc := 9) (q := (yX12_heardBy, cX12_heardBy, 6, (some .int), 12)) rfl (show aTab 345 9 = some (.aload_n 0, 1, 0, 0, 0, 0, 0, 0) from rfl) rfl rfl) ?_
      refine e_then (e_getR hT (y := 345) (pc := 10) (q := (yX12_heardBy, cX12_heardBy, 6, (some .int), 12)) rfl (show aTab 345 10 = some (.getfield 7, 3, 0, 12, 0, 0, 0, 0) from rfl) rfl (by decide) (by decide) hM rfl rfl) ?_
      refine e_then (e_st hT (y := 345) (pc := 13) (q := (yX12_heardBy, cX12_heardBy, 6, (some .int), 12)) rfl (show aTab 345 13 = some (.bipush 9, 2, 0, 0, 0, 0, 0, 0) from rfl) (fr' := (345, 15, (lv_args 0 [.ref 128, .int (Int32.ofNat h), .int (Int32.ofNat la), .int (Int32.ofNat tw), .int (Int32.ofNat who)]), [.int 9, .ref 129, .int (Int32.ofNat who)])) (M' := M) rfl) ?_
      refine e_then (s_ald hT (y := 345) (pc := 15) (q := (yX12_heardBy, cX12_heardBy, 6, (some .int), 12)) rfl (show aTab 345 15 = some (.iaload, 1, 0, 0, 0, 0, 0, 0) from rfl) rfl hM hg 120 9 rfl rfl (by decide)) ?_
      refine e_then (e_icT hT (y := 345) (pc := 16) (q := (yX12_heardBy, cX12_heardBy, 6, (some .int), 12)) rfl (show aTab 345 16 = some (.if_icmp .ge 14, 3, 0, 0, 0, 0, 0, 0) from rfl) rfl (t := 30) rfl (cdT (by rw [hN]; show _ ≤ _; omega))) ?_
      refine e_then (e_st hT (y := 345) (pc := 30) (q := (yX12_heardBy, cX12_heardBy, 6, (some .int), 12)) rfl (show aTab 345 30 = some (.iconst (-1), 1, 0, 0, 0, 0, 0, 0) from rfl) (fr' := (345, 31, (lv_args 0 [.ref 128, .int (Int32.ofNat h), .int (Int32.ofNat la), .int (Int32.ofNat tw), .int (Int32.ofNat who)]), [.int (-1)])) (M' := M) rfl) ?_
      exact e_fin (e_iret hT (y := 345) (pc := 31) (q := (yX12_heardBy, cX12_heardBy, 6, (some .int), 12)) rfl (show aTab 345 31 = some (.ireturn, 1, 0, 0, 0, 0, 0, 0) from rfl) ⟨rfl, rfl⟩) ⟨rfl, rfl⟩
    by_cases c3 : who = la
    · by_cases c4 : tw = 1
      · have hv : hbV (rH g N) N nx h la tw who = -1 := if_pos (by omega)
        rw [hv]
        refine e_then (e_il2 hT (y := 345) (pc := 0) (q := (yX12_heardBy, cX12_heardBy, 6, (some .int), 12)) rfl (show aTab 345 0 = some (.iload 4, 2, 0, 0, 0, 0, 0, 0) from rfl) rfl rfl) ?_
        refine e_then (e_st hT (y := 345) (pc := 2) (q := (yX12_heardBy, cX12_heardBy, 6, (some .int), 12)) rfl (show aTab 345 2 = some (.bipush 6, 2, 0, 0, 0, 0, 0, 0) from rfl) (fr' := (345, 4, (lv_args 0 [.ref 128, .int (Int32.ofNat h), .int (Int32.ofNat la), .int (Int32.ofNat tw), .int (Int32.ofNat who)]), [.int 6, .int (Int32.ofNat who)])) (M' := M) rfl) ?_
        refine e_then (e_icF hT (y := 345) (pc := 4) (q := (yX12_heardBy, cX12_heardBy, 6, (some .int), 12)) rfl (show aTab 345 4 = some (.if_icmp .ge 28, 3, 0, 0, 0, 0, 0, 0) from rfl) rfl (t := 32) rfl (cdF (by show ¬ _ ≤ _; omega))) ?_
        refine e_then (e_il2 hT (y := 345) (pc := 7) (q := (yX12_heardBy, cX12_heardBy, 6, (some .int), 12)) rfl (show aTab 345 7 = some (.iload 4, 2, 0, 0, 0, 0, 0, 0) from rfl) rfl rfl) ?_
        refine e_then (e_al1 hT (y := 345) (pc := 9) (q := (yX12_heardBy, cX12_heardBy, 6, (some .int), 12)) rfl (show aTab 345 9 = some (.aload_n 0, 1, 0, 0, 0, 0, 0, 0) from rfl) rfl rfl) ?_
        refine e_then (e_getR hT (y := 345) (pc := 10) (q := (yX12_heardBy, cX12_heardBy, 6, (some .int), 12)) rfl (show aTab 345 10 = some (.getfield 7, 3, 0, 12, 0, 0, 0, 0) from rfl) rfl (by decide) (by decide) hM rfl rfl) ?_
        refine e_then (e_st hT (y := 345) (pc := 13) (q := (yX12_heardBy, cX12_heardBy, 6, (some .int), 12)) rfl (show aTab 345 13 = some (.bipush 9, 2, 0, 0, 0, 0, 0, 0) from rfl) (fr' := (345, 15, (lv_args 0 [.ref 128, .int (Int32.ofNat h), .int (Int32.ofNat la), .int (Int32.ofNat tw), .int (Int32.ofNat who)]), [.int 9, .ref 129, .int (Int32.ofNat who)])) (M' := M) rfl) ?_
        refine e_then (s_ald hT (y := 345) (pc := 15) (q := (yX12_heardBy, cX12_heardBy, 6, (some .int), 12)) rfl (show aTab 345 15 = some (.iaload, 1, 0, 0, 0, 0, 0, 0) from rfl) rfl hM hg 120 9 rfl rfl (by decide)) ?_
        refine e_then (e_icF hT (y := 345) (pc := 16) (q := (yX12_heardBy, cX12_heardBy, 6, (some .int), 12)) rfl (show aTab 345 16 = some (.if_icmp .ge 14, 3, 0, 0, 0, 0, 0, 0) from rfl) rfl (t := 30) rfl (cdF (by rw [hN]; show ¬ _ ≤ _; omega))) ?_
        refine e_then (e_il2 hT (y := 345) (pc := 19) (q := (yX12_heardBy, cX12_heardBy, 6, (some .int), 12)) rfl (show aTab 345 19 = some (.iload 4, 2, 0, 0, 0, 0, 0, 0) from rfl) rfl rfl) ?_
        refine e_then (e_il1 hT (y := 345) (pc := 21) (q := (yX12_heardBy, cX12_heardBy, 6, (some .int), 12)) rfl (show aTab 345 21 = some (.iload_n 2, 1, 0, 0, 0, 0, 0, 0) from rfl) rfl rfl) ?_
        refine e_then (e_icF hT (y := 345) (pc := 22) (q := (yX12_heardBy, cX12_heardBy, 6, (some .int), 12)) rfl (show aTab 345 22 = some (.if_icmp .ne 10, 3, 0, 0, 0, 0, 0, 0) from rfl) rfl (t := 32) rfl (cdF (by show ¬ ¬ _ = _; omega))) ?_
        refine e_then (e_il1 hT (y := 345) (pc := 25) (q := (yX12_heardBy, cX12_heardBy, 6, (some .int), 12)) rfl (show aTab 345 25 = some (.iload_n 3, 1, 0, 0, 0, 0, 0, 0) from rfl) rfl rfl) ?_
        refine e_then (e_st hT (y := 345) (pc := 26) (q := (yX12_heardBy, cX12_heardBy, 6, (some .int), 12)) rfl (show aTab 345 26 = some (.iconst 1, 1, 0, 0, 0, 0, 0, 0) from rfl) (fr' := (345, 27, (lv_args 0 [.ref 128, .int (Int32.ofNat h), .int (Int32.ofNat la), .int (Int32.ofNat tw), .int (Int32.ofNat who)]), [.int 1, .int (Int32.ofNat tw)])) (M' := M) rfl) ?_
        refine e_then (e_icF hT (y := 345) (pc := 27) (q := (yX12_heardBy, cX12_heardBy, 6, (some .int), 12)) rfl (show aTab 345 27 = some (.if_icmp .ne 5, 3, 0, 0, 0, 0, 0, 0) from rfl) rfl (t := 32) rfl (cdF (by show ¬ ¬ _ = _; omega))) ?_
        refine e_then (e_st hT (y := 345) (pc := 30) (q := (yX12_heardBy, cX12_heardBy, 6, (some .int), 12)) rfl (show aTab 345 30 = some (.iconst (-1), 1, 0, 0, 0, 0, 0, 0) from rfl) (fr' := (345, 31, (lv_args 0 [.ref 128, .int (Int32.ofNat h), .int (Int32.ofNat la), .int (Int32.ofNat tw), .int (Int32.ofNat who)]), [.int (-1)])) (M' := M) rfl) ?_
        exact e_fin (e_iret hT (y := 345) (pc := 31) (q := (yX12_heardBy, cX12_heardBy, 6, (some .int), 12)) rfl (show aTab 345 31 = some (.ireturn, 1, 0, 0, 0, 0, 0, 0) from rfl) ⟨rfl, rfl⟩) ⟨rfl, rfl⟩
      · refine e_then (e_il2 hT (y := 345) (pc := 0) (q := (yX12_heardBy, cX12_heardBy, 6, (some .int), 12)) rfl (show aTab 345 0 = some (.iload 4, 2, 0, 0, 0, 0, 0, 0) from rfl) rfl rfl) ?_
        refine e_then (e_st hT (y := 345) (pc := 2) (q := (yX12_heardBy, cX12_heardBy, 6, (some .int), 12)) rfl (show aTab 345 2 = some (.bipush 6, 2, 0, 0, 0, 0, 0, 0) from rfl) (fr' := (345, 4, (lv_args 0 [.ref 128, .int (Int32.ofNat h), .int (Int32.ofNat la), .int (Int32.ofNat tw), .int (Int32.ofNat who)]), [.int 6, .int (Int32.ofNat who)])) (M' := M) rfl) ?_
        refine e_then (e_icF hT (y := 345) (pc := 4) (q := (yX12_heardBy, cX12_heardBy, 6, (some .int), 12)) rfl (show aTab 345 4 = some (.if_icmp .ge 28, 3, 0, 0, 0, 0, 0, 0) from rfl) rfl (t := 32) rfl (cdF (by show ¬ _ ≤ _; omega))) ?_
        refine e_then (e_il2 hT (y := 345) (pc := 7) (q := (yX12_heardBy, cX12_heardBy, 6, (some .int), 12)) rfl (show aTab 345 7 = some (.iload 4, 2, 0, 0, 0, 0, 0, 0) from rfl) rfl rfl) ?_
        refine e_then (e_al1 hT (y := 345) (pc := 9) (q := (yX12_heardBy, cX12_heardBy, 6, (some .int), 12)) rfl (show aTab 345 9 = some (.aload_n 0, 1, 0, 0, 0, 0, 0, 0) from rfl) rfl rfl) ?_
        refine e_then (e_getR hT (y := 345) (pc := 10) (q := (yX12_heardBy, cX12_heardBy, 6, (some .int), 12)) rfl (show aTab 345 10 = some (.getfield 7, 3, 0, 12, 0, 0, 0, 0) from rfl) rfl (by decide) (by decide) hM rfl rfl) ?_
        refine e_then (e_st hT (y := 345) (pc := 13) (q := (yX12_heardBy, cX12_heardBy, 6, (some .int), 12)) rfl (show aTab 345 13 = some (.bipush 9, 2, 0, 0, 0, 0, 0, 0) from rfl) (fr' := (345, 15, (lv_args 0 [.ref 128, .int (Int32.ofNat h), .int (Int32.ofNat la), .int (Int32.ofNat tw), .int (Int32.ofNat who)]), [.int 9, .ref 129, .int (Int32.ofNat who)])) (M' := M) rfl) ?_
        refine e_then (s_ald hT (y := 345) (pc := 15) (q := (yX12_heardBy, cX12_heardBy, 6, (some .int), 12)) rfl (show aTab 345 15 = some (.iaload, 1, 0, 0, 0, 0, 0, 0) from rfl) rfl hM hg 120 9 rfl rfl (by decide)) ?_
        refine e_then (e_icF hT (y := 345) (pc := 16) (q := (yX12_heardBy, cX12_heardBy, 6, (some .int), 12)) rfl (show aTab 345 16 = some (.if_icmp .ge 14, 3, 0, 0, 0, 0, 0, 0) from rfl) rfl (t := 30) rfl (cdF (by rw [hN]; show ¬ _ ≤ _; omega))) ?_
        refine e_then (e_il2 hT (y := 345) (pc := 19) (q := (yX12_heardBy, cX12_heardBy, 6, (some .int), 12)) rfl (show aTab 345 19 = some (.iload 4, 2, 0, 0, 0, 0, 0, 0) from rfl) rfl rfl) ?_
        refine e_then (e_il1 hT (y := 345) (pc := 21) (q := (yX12_heardBy, cX12_heardBy, 6, (some .int), 12)) rfl (show aTab 345 21 = some (.iload_n 2, 1, 0, 0, 0, 0, 0, 0) from rfl) rfl rfl) ?_
        refine e_then (e_icF hT (y := 345) (pc := 22) (q := (yX12_heardBy, cX12_heardBy, 6, (some .int), 12)) rfl (show aTab 345 22 = some (.if_icmp .ne 10, 3, 0, 0, 0, 0, 0, 0) from rfl) rfl (t := 32) rfl (cdF (by show ¬ ¬ _ = _; omega))) ?_
        refine e_then (e_il1 hT (y := 345) (pc := 25) (q := (yX12_heardBy, cX12_heardBy, 6, (some .int), 12)) rfl (show aTab 345 25 = some (.iload_n 3, 1, 0, 0, 0, 0, 0, 0) from rfl) rfl rfl) ?_
        refine e_then (e_st hT (y := 345) (pc := 26) (q := (yX12_heardBy, cX12_heardBy, 6, (some .int), 12)) rfl (show aTab 345 26 = some (.iconst 1, 1, 0, 0, 0, 0, 0, 0) from rfl) (fr' := (345, 27, (lv_args 0 [.ref 128, .int (Int32.ofNat h), .int (Int32.ofNat la), .int (Int32.ofNat tw), .int (Int32.ofNat who)]), [.int 1, .int (Int32.ofNat tw)])) (M' := M) rfl) ?_
        refine e_then (e_icT hT (y := 345) (pc := 27) (q := (yX12_heardBy, cX12_heardBy, 6, (some .int), 12)) rfl (show aTab 345 27 = some (.if_icmp .ne 5, 3, 0, 0, 0, 0, 0, 0) from rfl) rfl (t := 32) rfl (cdT (by show ¬ _ = _; omega))) ?_
        refine e_then (e_il2 hT (y := 345) (pc := 32) (q := (yX12_heardBy, cX12_heardBy, 6, (some .int), 12)) rfl (show aTab 345 32 = some (.iload 4, 2, 0, 0, 0, 0, 0, 0) from rfl) rfl rfl) ?_
        refine e_then (e_il1 hT (y := 345) (pc := 34) (q := (yX12_heardBy, cX12_heardBy, 6, (some .int), 12)) rfl (show aTab 345 34 = some (.iload_n 2, 1, 0, 0, 0, 0, 0, 0) from rfl) rfl rfl) ?_
        refine e_then (e_icF hT (y := 345) (pc := 35) (q := (yX12_heardBy, cX12_heardBy, 6, (some .int), 12)) rfl (show aTab 345 35 = some (.if_icmp .ne 14, 3, 0, 0, 0, 0, 0, 0) from rfl) rfl (t := 49) rfl (cdF (by show ¬ ¬ _ = _; omega))) ?_
        refine e_then (e_il2 hT (y := 345) (pc := 38) (q := (yX12_heardBy, cX12_heardBy, 6, (some .int), 12)) rfl (show aTab 345 38 = some (.iload 4, 2, 0, 0, 0, 0, 0, 0) from rfl) rfl rfl) ?_
        refine e_then (e_st hT (y := 345) (pc := 40) (q := (yX12_heardBy, cX12_heardBy, 6, (some .int), 12)) rfl (show aTab 345 40 = some (.bipush 6, 2, 0, 0, 0, 0, 0, 0) from rfl) (fr' := (345, 42, (lv_args 0 [.ref 128, .int (Int32.ofNat h), .int (Int32.ofNat la), .int (Int32.ofNat tw), .int (Int32.ofNat who)]), [.int 6, .int (Int32.ofNat who)])) (M' := M) rfl) ?_
        refine e_then (e_icF hT (y := 345) (pc := 42) (q := (yX12_heardBy, cX12_heardBy, 6, (some .int), 12)) rfl (show aTab 345 42 = some (.if_icmp .ge 7, 3, 0, 0, 0, 0, 0, 0) from rfl) rfl (t := 49) rfl (cdF (by show ¬ _ ≤ _; omega))) ?_
        refine e_then (e_st hT (y := 345) (pc := 45) (q := (yX12_heardBy, cX12_heardBy, 6, (some .int), 12)) rfl (show aTab 345 45 = some (.iconst 1, 1, 0, 0, 0, 0, 0, 0) from rfl) (fr' := (345, 46, (lv_args 0 [.ref 128, .int (Int32.ofNat h), .int (Int32.ofNat la), .int (Int32.ofNat tw), .int (Int32.ofNat who)]), [.int 1])) (M' := M) rfl) ?_
        refine e_then (e_st hT (y := 345) (pc := 46) (q := (yX12_heardBy, cX12_heardBy, 6, (some .int), 12)) rfl (show aTab 345 46 = some (.goto 4, 3, 0, 0, 0, 0, 0, 0) from rfl) (fr' := (345, 50, (lv_args 0 [.ref 128, .int (Int32.ofNat h), .int (Int32.ofNat la), .int (Int32.ofNat tw), .int (Int32.ofNat who)]), [.int 1])) (M' := M) rfl) ?_
        exact tail 1 _ _ (by rw [if_pos (by omega)]) rfl (by omega) rfl rfl rfl
    · refine e_then (e_il2 hT (y := 345) (pc := 0) (q := (yX12_heardBy, cX12_heardBy, 6, (some .int), 12)) rfl (show aTab 345 0 = some (.iload 4, 2, 0, 0, 0, 0, 0, 0) from rfl) rfl rfl) ?_
      refine e_then (e_st hT (y := 345) (pc := 2) (q := (yX12_heardBy, cX12_heardBy, 6, (some .int), 12)) rfl (show aTab 345 2 = some (.bipush 6, 2, 0, 0, 0, 0, 0, 0) from rfl) (fr' := (345, 4, (lv_args 0 [.ref 128, .int (Int32.ofNat h), .int (Int32.ofNat la), .int (Int32.ofNat tw), .int (Int32.ofNat who)]), [.int 6, .int (Int32.ofNat who)])) (M' := M) rfl) ?_
      refine e_then (e_icF hT (y := 345) (pc := 4) (q := (yX12_heardBy, cX12_heardBy, 6, (some .int), 12)) rfl (show aTab 345 4 = some (.if_icmp .ge 28, 3, 0, 0, 0, 0, 0, 0) from rfl) rfl (t := 32) rfl (cdF (by show ¬ _ ≤ _; omega))) ?_
      refine e_then (e_il2 hT (y := 345) (pc := 7) (q := (yX12_heardBy, cX12_heardBy, 6, (some .int), 12)) rfl (show aTab 345 7 = some (.iload 4, 2, 0, 0, 0, 0, 0, 0) from rfl) rfl rfl) ?_
      refine e_then (e_al1 hT (y := 345) (pc := 9) (q := (yX12_heardBy, cX12_heardBy, 6, (some .int), 12)) rfl (show aTab 345 9 = some (.aload_n 0, 1, 0, 0, 0, 0, 0, 0) from rfl) rfl rfl) ?_
      refine e_then (e_getR hT (y := 345) (pc := 10) (q := (yX12_heardBy, cX12_heardBy, 6, (some .int), 12)) rfl (show aTab 345 10 = some (.getfield 7, 3, 0, 12, 0, 0, 0, 0) from rfl) rfl (by decide) (by decide) hM rfl rfl) ?_
      refine e_then (e_st hT (y := 345) (pc := 13) (q := (yX12_heardBy, cX12_heardBy, 6, (some .int), 12)) rfl (show aTab 345 13 = some (.bipush 9, 2, 0, 0, 0, 0, 0, 0) from rfl) (fr' := (345, 15, (lv_args 0 [.ref 128, .int (Int32.ofNat h), .int (Int32.ofNat la), .int (Int32.ofNat tw), .int (Int32.ofNat who)]), [.int 9, .ref 129, .int (Int32.ofNat who)])) (M' := M) rfl) ?_
      refine e_then (s_ald hT (y := 345) (pc := 15) (q := (yX12_heardBy, cX12_heardBy, 6, (some .int), 12)) rfl (show aTab 345 15 = some (.iaload, 1, 0, 0, 0, 0, 0, 0) from rfl) rfl hM hg 120 9 rfl rfl (by decide)) ?_
      refine e_then (e_icF hT (y := 345) (pc := 16) (q := (yX12_heardBy, cX12_heardBy, 6, (some .int), 12)) rfl (show aTab 345 16 = some (.if_icmp .ge 14, 3, 0, 0, 0, 0, 0, 0) from rfl) rfl (t := 30) rfl (cdF (by rw [hN]; show ¬ _ ≤ _; omega))) ?_
      refine e_then (e_il2 hT (y := 345) (pc := 19) (q := (yX12_heardBy, cX12_heardBy, 6, (some .int), 12)) rfl (show aTab 345 19 = some (.iload 4, 2, 0, 0, 0, 0, 0, 0) from rfl) rfl rfl) ?_
      refine e_then (e_il1 hT (y := 345) (pc := 21) (q := (yX12_heardBy, cX12_heardBy, 6, (some .int), 12)) rfl (show aTab 345 21 = some (.iload_n 2, 1, 0, 0, 0, 0, 0, 0) from rfl) rfl rfl) ?_
      refine e_then (e_icT hT (y := 345) (pc := 22) (q := (yX12_heardBy, cX12_heardBy, 6, (some .int), 12)) rfl (show aTab 345 22 = some (.if_icmp .ne 10, 3, 0, 0, 0, 0, 0, 0) from rfl) rfl (t := 32) rfl (cdT (by show ¬ _ = _; omega))) ?_
      refine e_then (e_il2 hT (y := 345) (pc := 32) (q := (yX12_heardBy, cX12_heardBy, 6, (some .int), 12)) rfl (show aTab 345 32 = some (.iload 4, 2, 0, 0, 0, 0, 0, 0) from rfl) rfl rfl) ?_
      refine e_then (e_il1 hT (y := 345) (pc := 34) (q := (yX12_heardBy, cX12_heardBy, 6, (some .int), 12)) rfl (show aTab 345 34 = some (.iload_n 2, 1, 0, 0, 0, 0, 0, 0) from rfl) rfl rfl) ?_
      refine e_then (e_icT hT (y := 345) (pc := 35) (q := (yX12_heardBy, cX12_heardBy, 6, (some .int), 12)) rfl (show aTab 345 35 = some (.if_icmp .ne 14, 3, 0, 0, 0, 0, 0, 0) from rfl) rfl (t := 49) rfl (cdT (by show ¬ _ = _; omega))) ?_
      refine e_then (e_st hT (y := 345) (pc := 49) (q := (yX12_heardBy, cX12_heardBy, 6, (some .int), 12)) rfl (show aTab 345 49 = some (.iconst 0, 1, 0, 0, 0, 0, 0, 0) from rfl) (fr' := (345, 50, (lv_args 0 [.ref 128, .int (Int32.ofNat h), .int (Int32.ofNat la), .int (Int32.ofNat tw), .int (Int32.ofNat who)]), [.int 0])) (M' := M) rfl) ?_
      exact tail 0 _ _ (by rw [if_neg (by omega)]) rfl (by omega) rfl rfl rfl
  obtain ⟨K, r, M', q, rfl, rfl⟩ := go
  exact ⟨K, mRun_dm q hd⟩
theorem rOk_eq {g g1 : Nat → Nat → Int32} {N : Nat} (h : ∀ c k, c ≠ 135 → g1 c k = g c k) : (rOkS g N → rOkS g1 N) ∧ rH g1 N = rH g N := by
  have e : ∀ k, g1 120 k = g 120 k := fun k => h 120 k (by decide)
  constructor
  · rintro ⟨a, b, c, d⟩
    refine ⟨by rw [e]; exact a, b, fun h hh => ?_, fun k k1 k2 => by rw [e]; exact d k k1 k2⟩
    unfold rSp
    rw [e, e]
    exact c h hh
  · funext h w
    unfold rH
    rw [e, e, e]
theorem rw_loop (hT : aTabOk) {M : mHe} (hM : yTy M) {g1 : Nat → Nat → Int32} (hg : rdI M = g1) {N n h k : Nat} (hS : rOkS g1 N) {nx : Nat → Int32} (hn : ∀ k, k < 14 → g1 135 (14 * (h + 1) + k) = nx k) (hh : h ≤ 7) (hk : k < 14) {Q : Option Value → mHe → Prop} (hQ : ∀ lv' : List (Nat × Value), mlg 0 lv' = some (.ref 128) → mlg 1 lv' = some (.int (Int32.ofNat n)) → mlg 2 lv' = some (.int (Int32.ofNat h)) → mlg 3 lv' = some (.int (Int32.ofNat k)) → mlg 4 lv' = some (.int (mxV (hbV (rH g1 N) N nx h (k / 2) (k % 2)) 7)) → mEv none 30 (346, 92, lv', []) M Q) : ∀ (j who : Nat) (lv : List (Nat × Value)), who + j = 7 → mlg 0 lv = some (.ref 128) → mlg 1 lv = some (.int (Int32.ofNat n)) → mlg 2 lv = some (.int (Int32.ofNat h)) → mlg 3 lv = some (.int (Int32.ofNat k)) → mlg 4 lv = some (.int (mxV (hbV (rH g1 N) N nx h (k / 2) (k % 2)) who)) → mlg 5 lv = some (.int (Int32.ofNat who)) → mEv none 30 (346, 48, lv, []) M Q := by
  have e7 : (7 : Int32).toInt = 7 := rfl
  have kd := kd_all ⟨k, hk⟩
  intro j
  induction j with
  | zero =>
    intro who lv hj h0 h1 h2 h3 h4 h5
    have hj : who = 7 := by omega
    subst hj
    refine e_then (e_il2 hT (y := 346) (pc := 48) (q := (yX12_findShift, cX12_findShift, 7, (some .int), 12)) rfl (show aTab 346 48 = some (.iload 5, 2, 0, 0, 0, 0, 0, 0) from rfl) rfl h5) ?_
    refine e_then (e_st hT (y := 346) (pc := 50) (q := (yX12_findShift, cX12_findShift, 7, (some .int), 12)) rfl (show aTab 346 50 = some (.bipush 7, 2, 0, 0, 0, 0, 0, 0) from rfl) (fr' := (346, 52, lv, [.int 7, .int (Int32.ofNat 7)])) (M' := M) rfl) ?_
    refine e_then (e_icT hT (y := 346) (pc := 52) (q := (yX12_findShift, cX12_findShift, 7, (some .int), 12)) rfl (show aTab 346 52 = some (.if_icmp .ge 40, 3, 0, 0, 0, 0, 0, 0) from rfl) rfl (t := 92) rfl (cdT (by show (7 : Int32).toInt ≤ (Int32.ofNat 7).toInt; decide))) ?_
    exact hQ _ h0 h1 h2 h3 h4
  | succ j ih =>
    intro who lv hj h0 h1 h2 h3 h4 h5
    have ew := i32n (k := who) (by omega)
    obtain ⟨K1, q1⟩ := rhb_run hT hM hg hS hn (la := k / 2) (tw := k % 2) (who := who) hh (by omega) (by omega) (by omega) (d := 29) (by decide)
    have hs : mxV (hbV (rH g1 N) N nx h (k / 2) (k % 2)) (who + 1) = if mxV (hbV (rH g1 N) N nx h (k / 2) (k % 2)) who < hbV (rH g1 N) N nx h (k / 2) (k % 2) who then hbV (rH g1 N) N nx h (k / 2) (k % 2) who else mxV (hbV (rH g1 N) N nx h (k / 2) (k % 2)) who := rfl
    obtain ⟨v, hv⟩ : ∃ v, v = hbV (rH g1 N) N nx h (k / 2) (k % 2) who := ⟨_, rfl⟩
    obtain ⟨b, hb⟩ : ∃ b, b = mxV (hbV (rH g1 N) N nx h (k / 2) (k % 2)) who := ⟨_, rfl⟩
    rw [← hv] at q1 hs
    rw [← hb] at h4 hs
    rw [← kd.1, ← kd.2] at q1
    by_cases c1 : b < v
    · rw [if_pos c1] at hs
      refine e_then (e_il2 hT (y := 346) (pc := 48) (q := (yX12_findShift, cX12_findShift, 7, (some .int), 12)) rfl (show aTab 346 48 = some (.iload 5, 2, 0, 0, 0, 0, 0, 0) from rfl) rfl h5) ?_
      refine e_then (e_st hT (y := 346) (pc := 50) (q := (yX12_findShift, cX12_findShift, 7, (some .int), 12)) rfl (show aTab 346 50 = some (.bipush 7, 2, 0, 0, 0, 0, 0, 0) from rfl) (fr' := (346, 52, lv, [.int 7, .int (Int32.ofNat who)])) (M' := M) rfl) ?_
      refine e_then (e_icF hT (y := 346) (pc := 52) (q := (yX12_findShift, cX12_findShift, 7, (some .int), 12)) rfl (show aTab 346 52 = some (.if_icmp .ge 40, 3, 0, 0, 0, 0, 0, 0) from rfl) rfl (t := 92) rfl (cdF (by show ¬ _ ≤ _; omega))) ?_
      refine e_then (e_al1 hT (y := 346) (pc := 55) (q := (yX12_findShift, cX12_findShift, 7, (some .int), 12)) rfl (show aTab 346 55 = some (.aload_n 0, 1, 0, 0, 0, 0, 0, 0) from rfl) rfl h0) ?_
      refine e_then (e_il1 hT (y := 346) (pc := 56) (q := (yX12_findShift, cX12_findShift, 7, (some .int), 12)) rfl (show aTab 346 56 = some (.iload_n 2, 1, 0, 0, 0, 0, 0, 0) from rfl) rfl h2) ?_
      refine e_then (e_il1 hT (y := 346) (pc := 57) (q := (yX12_findShift, cX12_findShift, 7, (some .int), 12)) rfl (show aTab 346 57 = some (.iload_n 3, 1, 0, 0, 0, 0, 0, 0) from rfl) rfl h3) ?_
      refine e_then (e_st hT (y := 346) (pc := 58) (q := (yX12_findShift, cX12_findShift, 7, (some .int), 12)) rfl (show aTab 346 58 = some (.iconst 2, 1, 0, 0, 0, 0, 0, 0) from rfl) (fr' := (346, 59, lv, [.int 2, .int (Int32.ofNat k), .int (Int32.ofNat h), .ref 128])) (M' := M) rfl) ?_
      refine e_then (e_st hT (y := 346) (pc := 59) (q := (yX12_findShift, cX12_findShift, 7, (some .int), 12)) rfl (show aTab 346 59 = some (.idiv, 1, 0, 0, 0, 0, 0, 0) from rfl) (fr' := (346, 60, lv, [.int ((Int32.ofNat k) / 2), .int (Int32.ofNat h), .ref 128])) (M' := M) rfl) ?_
      refine e_then (e_il1 hT (y := 346) (pc := 60) (q := (yX12_findShift, cX12_findShift, 7, (some .int), 12)) rfl (show aTab 346 60 = some (.iload_n 3, 1, 0, 0, 0, 0, 0, 0) from rfl) rfl h3) ?_
      refine e_then (e_st hT (y := 346) (pc := 61) (q := (yX12_findShift, cX12_findShift, 7, (some .int), 12)) rfl (show aTab 346 61 = some (.iconst 2, 1, 0, 0, 0, 0, 0, 0) from rfl) (fr' := (346, 62, lv, [.int 2, .int (Int32.ofNat k), .int ((Int32.ofNat k) / 2), .int (Int32.ofNat h), .ref 128])) (M' := M) rfl) ?_
      refine e_then (e_st hT (y := 346) (pc := 62) (q := (yX12_findShift, cX12_findShift, 7, (some .int), 12)) rfl (show aTab 346 62 = some (.irem, 1, 0, 0, 0, 0, 0, 0) from rfl) (fr' := (346, 63, lv, [.int ((Int32.ofNat k) - (Int32.ofNat k) / 2 * 2), .int ((Int32.ofNat k) / 2), .int (Int32.ofNat h), .ref 128])) (M' := M) rfl) ?_
      refine e_then (e_il2 hT (y := 346) (pc := 63) (q := (yX12_findShift, cX12_findShift, 7, (some .int), 12)) rfl (show aTab 346 63 = some (.iload 5, 2, 0, 0, 0, 0, 0, 0) from rfl) rfl h5) ?_
      refine e_then (e_call hT (y := 346) (pc := 65) (q := (yX12_findShift, cX12_findShift, 7, (some .int), 12)) rfl (show aTab 346 65 = some (.invokevirtual 383, 3, 1, 345, 0, 4, 6, 12) from rfl) rfl ⟨by decide, Nat.le_of_ble_eq_true rfl⟩ (ob_at hM (rfl : tTy 119 = some (.inr (12, _)))).choose_spec (Nat.le_of_ble_eq_true rfl) (Nat.le_of_ble_eq_true rfl) ⟨by decide, by decide⟩ q1) ?_
      refine e_then (e_is2 hT (y := 346) (pc := 68) (q := (yX12_findShift, cX12_findShift, 7, (some .int), 12)) rfl (show aTab 346 68 = some (.istore 6, 2, 0, 0, 0, 0, 0, 0) from rfl) ⟨rfl, by decide⟩) ?_
      refine e_then (e_il2 hT (y := 346) (pc := 70) (q := (yX12_findShift, cX12_findShift, 7, (some .int), 12)) rfl (show aTab 346 70 = some (.iload 6, 2, 0, 0, 0, 0, 0, 0) from rfl) rfl (mlg_eq 6 _ _)) ?_
      refine e_then (e_il2 hT (y := 346) (pc := 72) (q := (yX12_findShift, cX12_findShift, 7, (some .int), 12)) rfl (show aTab 346 72 = some (.iload 4, 2, 0, 0, 0, 0, 0, 0) from rfl) rfl (mlg_i h4 (by decide))) ?_
      refine e_then (e_icF hT (y := 346) (pc := 74) (q := (yX12_findShift, cX12_findShift, 7, (some .int), 12)) rfl (show aTab 346 74 = some (.if_icmp .le 8, 3, 0, 0, 0, 0, 0, 0) from rfl) rfl (t := 82) rfl (cdF (by show ¬ _ ≤ _; exact Int.not_le.mpr (Int32.lt_iff_toInt_lt.mp c1)))) ?_
      refine e_then (e_il2 hT (y := 346) (pc := 77) (q := (yX12_findShift, cX12_findShift, 7, (some .int), 12)) rfl (show aTab 346 77 = some (.iload 6, 2, 0, 0, 0, 0, 0, 0) from rfl) rfl (mlg_eq 6 _ _)) ?_
      refine e_then (e_st hT (y := 346) (pc := 79) (q := (yX12_findShift, cX12_findShift, 7, (some .int), 12)) rfl (show aTab 346 79 = some (.goto 5, 3, 0, 0, 0, 0, 0, 0) from rfl) (fr' := (346, 84, (mlp 6 (.int v) lv), [.int v])) (M' := M) rfl) ?_
      refine e_then (e_is2 hT (y := 346) (pc := 84) (q := (yX12_findShift, cX12_findShift, 7, (some .int), 12)) rfl (show aTab 346 84 = some (.istore 4, 2, 0, 0, 0, 0, 0, 0) from rfl) ⟨rfl, by decide⟩) ?_
      refine e_then (e_ii hT (y := 346) (pc := 86) (q := (yX12_findShift, cX12_findShift, 7, (some .int), 12)) rfl (show aTab 346 86 = some (.iinc 5 1, 3, 0, 0, 0, 0, 0, 0) from rfl) ⟨rfl, by decide⟩ (mlg_i (mlg_i h5 (by decide)) (by decide))) ?_
      refine e_then (e_st hT (y := 346) (pc := 89) (q := (yX12_findShift, cX12_findShift, 7, (some .int), 12)) rfl (show aTab 346 89 = some (.goto (-41), 3, 0, 0, 0, 0, 0, 0) from rfl) (fr' := (346, 48, (mlp 5 (.int ((Int32.ofNat who) + Int32.ofInt 1)) (mlp 4 (.int v) (mlp 6 (.int v) lv))), [])) (M' := M) rfl) ?_
      rw [os1 (by omega)]
      exact ih (who + 1) _ (by omega) (mlg_r (mlg_r (mlg_r h0 (by decide)) (by decide)) (by decide)) (mlg_i (mlg_i (mlg_i h1 (by decide)) (by decide)) (by decide)) (mlg_i (mlg_i (mlg_i h2 (by decide)) (by decide)) (by decide)) (mlg_i (mlg_i (mlg_i h3 (by decide)) (by decide)) (by decide)) (by rw [hs]; exact (mlg_i (mlg_eq 4 _ _) (by decide))) (mlg_eq 5 _ _)
    · rw [if_neg c1] at hs
      refine e_then (e_il2 hT (y := 346) (pc := 48) (q := (yX12_findShift, cX12_findShift, 7, (some .int), 12)) rfl (show aTab 346 48 = some (.iload 5, 2, 0, 0, 0, 0, 0, 0) from rfl) rfl h5) ?_
      refine e_then (e_st hT (y := 346) (pc := 50) (q := (yX12_findShift, cX12_findShift, 7, (some .int), 12)) rfl (show aTab 346 50 = some (.bipush 7, 2, 0, 0, 0, 0, 0, 0) from rfl) (fr' := (346, 52, lv, [.int 7, .int (Int32.ofNat who)])) (M' := M) rfl) ?_
      refine e_then (e_icF hT (y := 346) (pc := 52) (q := (yX12_findShift, cX12_findShift, 7, (some .int), 12)) rfl (show aTab 346 52 = some (.if_icmp .ge 40, 3, 0, 0, 0, 0, 0, 0) from rfl) rfl (t := 92) rfl (cdF (by show ¬ _ ≤ _; omega))) ?_
      refine e_then (e_al1 hT (y := 346) (pc := 55) (q := (yX12_findShift, cX12_findShift, 7, (some .int), 12)) rfl (show aTab 346 55 = some (.aload_n 0, 1, 0, 0, 0, 0, 0, 0) from rfl) rfl h0) ?_
      refine e_then (e_il1 hT (y := 346) (pc := 56) (q := (yX12_findShift, cX12_findShift, 7, (some .int), 12)) rfl (show aTab 346 56 = some (.iload_n 2, 1, 0, 0, 0, 0, 0, 0) from rfl) rfl h2) ?_
      refine e_then (e_il1 hT (y := 346) (pc := 57) (q := (yX12_findShift, cX12_findShift, 7, (some .int), 12)) rfl (show aTab 346 57 = some (.iload_n 3, 1, 0, 0, 0, 0, 0, 0) from rfl) rfl h3) ?_
      refine e_then (e_st hT (y := 346) (pc := 58) (q := (yX12_findShift, cX12_findShift, 7, (some .int), 12)) rfl (show aTab 346 58 = some (.iconst 2, 1, 0, 0, 0, 0, 0, 0) from rfl) (fr' := (346, 59, lv, [.int 2, .int (Int32.ofNat k), .int (Int32.ofNat h), .ref 128])) (M' := M) rfl) ?_
      refine e_then (e_st hT (y := 346) (pc := 59) (q := (yX12_findShift, cX12_findShift, 7, (some .int), 12)) rfl (show aTab 346 59 = some (.idiv, 1, 0, 0, 0, 0, 0, 0) from rfl) (fr' := (346, 60, lv, [.int ((Int32.ofNat k) / 2), .int (Int32.ofNat h), .ref 128])) (M' := M) rfl) ?_
      refine e_then (e_il1 hT (y := 346) (pc := 60) (q := (yX12_findShift, cX12_findShift, 7, (some .int), 12)) rfl (show aTab 346 60 = some (.iload_n 3, 1, 0, 0, 0, 0, 0, 0) from rfl) rfl h3) ?_
      refine e_then (e_st hT (y := 346) (pc := 61) (q := (yX12_findShift, cX12_findShift, 7, (some .int), 12)) rfl (show aTab 346 61 = some (.iconst 2, 1, 0, 0, 0, 0, 0, 0) from rfl) (fr' := (346, 62, lv, [.int 2, .int (Int32.ofNat k), .int ((Int32.ofNat k) / 2), .int (Int32.ofNat h), .ref 128])) (M' := M) rfl) ?_
      refine e_then (e_st hT (y := 346) (pc := 62) (q := (yX12_findShift, cX12_findShift, 7, (some .int), 12)) rfl (show aTab 346 62 = some (.irem, 1, 0, 0, 0, 0, 0, 0) from rfl) (fr' := (346, 63, lv, [.int ((Int32.ofNat k) - (Int32.ofNat k) / 2 * 2), .int ((Int32.ofNat k) / 2), .int (Int32.ofNat h), .ref 128])) (M' := M) rfl) ?_
      refine e_then (e_il2 hT (y := 346) (pc := 63) (q := (yX12_findShift, cX12_findShift, 7, (some .int), 12)) rfl (show aTab 346 63 = some (.iload 5, 2, 0, 0, 0, 0, 0, 0) from rfl) rfl h5) ?_
      refine e_then (e_call hT (y := 346) (pc := 65) (q := (yX12_findShift, cX12_findShift, 7, (some .int), 12)) rfl (show aTab 346 65 = some (.invokevirtual 383, 3, 1, 345, 0, 4, 6, 12) from rfl) rfl ⟨by decide, Nat.le_of_ble_eq_true rfl⟩ (ob_at hM (rfl : tTy 119 = some (.inr (12, _)))).choose_spec (Nat.le_of_ble_eq_true rfl) (Nat.le_of_ble_eq_true rfl) ⟨by decide, by decide⟩ q1) ?_
      refine e_then (e_is2 hT (y := 346) (pc := 68) (q := (yX12_findShift, cX12_findShift, 7, (some .int), 12)) rfl (show aTab 346 68 = some (.istore 6, 2, 0, 0, 0, 0, 0, 0) from rfl) ⟨rfl, by decide⟩) ?_
      refine e_then (e_il2 hT (y := 346) (pc := 70) (q := (yX12_findShift, cX12_findShift, 7, (some .int), 12)) rfl (show aTab 346 70 = some (.iload 6, 2, 0, 0, 0, 0, 0, 0) from rfl) rfl (mlg_eq 6 _ _)) ?_
      refine e_then (e_il2 hT (y := 346) (pc := 72) (q := (yX12_findShift, cX12_findShift, 7, (some .int), 12)) rfl (show aTab 346 72 = some (.iload 4, 2, 0, 0, 0, 0, 0, 0) from rfl) rfl (mlg_i h4 (by decide))) ?_
      refine e_then (e_icT hT (y := 346) (pc := 74) (q := (yX12_findShift, cX12_findShift, 7, (some .int), 12)) rfl (show aTab 346 74 = some (.if_icmp .le 8, 3, 0, 0, 0, 0, 0, 0) from rfl) rfl (t := 82) rfl (cdT (by show _ ≤ _; exact Int.not_lt.mp (fun z => c1 (Int32.lt_iff_toInt_lt.mpr z))))) ?_
      refine e_then (e_il2 hT (y := 346) (pc := 82) (q := (yX12_findShift, cX12_findShift, 7, (some .int), 12)) rfl (show aTab 346 82 = some (.iload 4, 2, 0, 0, 0, 0, 0, 0) from rfl) rfl (mlg_i h4 (by decide))) ?_
      refine e_then (e_is2 hT (y := 346) (pc := 84) (q := (yX12_findShift, cX12_findShift, 7, (some .int), 12)) rfl (show aTab 346 84 = some (.istore 4, 2, 0, 0, 0, 0, 0, 0) from rfl) ⟨rfl, by decide⟩) ?_
      refine e_then (e_ii hT (y := 346) (pc := 86) (q := (yX12_findShift, cX12_findShift, 7, (some .int), 12)) rfl (show aTab 346 86 = some (.iinc 5 1, 3, 0, 0, 0, 0, 0, 0) from rfl) ⟨rfl, by decide⟩ (mlg_i (mlg_i h5 (by decide)) (by decide))) ?_
      refine e_then (e_st hT (y := 346) (pc := 89) (q := (yX12_findShift, cX12_findShift, 7, (some .int), 12)) rfl (show aTab 346 89 = some (.goto (-41), 3, 0, 0, 0, 0, 0, 0) from rfl) (fr' := (346, 48, (mlp 5 (.int ((Int32.ofNat who) + Int32.ofInt 1)) (mlp 4 (.int b) (mlp 6 (.int v) lv))), [])) (M' := M) rfl) ?_
      rw [os1 (by omega)]
      exact ih (who + 1) _ (by omega) (mlg_r (mlg_r (mlg_r h0 (by decide)) (by decide)) (by decide)) (mlg_i (mlg_i (mlg_i h1 (by decide)) (by decide)) (by decide)) (mlg_i (mlg_i (mlg_i h2 (by decide)) (by decide)) (by decide)) (mlg_i (mlg_i (mlg_i h3 (by decide)) (by decide)) (by decide)) (by rw [hs]; exact (mlg_i (mlg_eq 4 _ _) (by decide))) (mlg_eq 5 _ _)
theorem rix5 {h k : Nat} (hh : h ≤ 8) (hk : k < 14) : ((14 : Int32) * Int32.ofNat h + Int32.ofNat k).toInt = ((14 * h + k : Nat) : Int) := by
  have e14 : (14 : Int32).toInt = 14 := rfl
  have eh := i32n (k := h) (by omega)
  have ek := i32n (k := k) (by omega)
  have m1 : ((14 : Int32) * Int32.ofNat h).toInt = 14 * (h : Int) := by rw [i32_mul (by rw [e14, eh]; omega) (by rw [e14, eh]; omega), e14, eh]
  rw [i32_add (by omega) (by omega), m1, ek]; omega
theorem rk_loop (hT : aTabOk) {g : Nat → Nat → Int32} {N n h : Nat} (hS : rOkS g N) (hn8 : n ≤ 8) (hh : h < n) {Q : Option Value → mHe → Prop} (hQ : ∀ (lv' : List (Nat × Value)) (M2 : mHe), yTy M2 → shTB 135 (rH g N) g N n (rdI M2) h → mlg 0 lv' = some (.ref 128) → mlg 1 lv' = some (.int (Int32.ofNat n)) → mlg 2 lv' = some (.int (Int32.ofNat h)) → mEv none 30 (346, 111, lv', []) M2 Q) : ∀ (j k : Nat) (lv : List (Nat × Value)) (M1 : mHe), k + j = 14 → yTy M1 → shTB 135 (rH g N) g N n (rdI M1) (h + 1) → (∀ i, i < k → rdI M1 135 (14 * h + i) = rowV (rH g N) N n (n - h) i) → mlg 0 lv = some (.ref 128) → mlg 1 lv = some (.int (Int32.ofNat n)) → mlg 2 lv = some (.int (Int32.ofNat h)) → mlg 3 lv = some (.int (Int32.ofNat k)) → mEv none 30 (346, 36, lv, []) M1 Q := by
  have e14 : (14 : Int32).toInt = 14 := rfl
  intro j
  induction j with
  | zero =>
    intro k lv M1 hj hM hB hC h0 h1 h2 h3
    have hj : k = 14 := by omega
    subst hj
    refine e_then (e_il1 hT (y := 346) (pc := 36) (q := (yX12_findShift, cX12_findShift, 7, (some .int), 12)) rfl (show aTab 346 36 = some (.iload_n 3, 1, 0, 0, 0, 0, 0, 0) from rfl) rfl h3) ?_
    refine e_then (e_st hT (y := 346) (pc := 37) (q := (yX12_findShift, cX12_findShift, 7, (some .int), 12)) rfl (show aTab 346 37 = some (.bipush 14, 2, 0, 0, 0, 0, 0, 0) from rfl) (fr' := (346, 39, lv, [.int 14, .int (Int32.ofNat 14)])) (M' := M1) rfl) ?_
    refine e_then (e_icT hT (y := 346) (pc := 39) (q := (yX12_findShift, cX12_findShift, 7, (some .int), 12)) rfl (show aTab 346 39 = some (.if_icmp .ge 72, 3, 0, 0, 0, 0, 0, 0) from rfl) rfl (t := 111) rfl (cdT (by show (14 : Int32).toInt ≤ (Int32.ofNat 14).toInt; decide))) ?_
    refine hQ _ M1 hM ⟨hB.1, fun h' h1' h2' k hk => ?_⟩ h0 h1 h2
    by_cases e : h' = h
    · subst e; exact hC k (by omega)
    · exact hB.2 h' (by omega) h2' k hk
  | succ j ih =>
    intro k lv M1 hj hM hB hC h0 h1 h2 h3
    have ek := i32n (k := k) (by omega)
    obtain ⟨r1, r2⟩ := rOk_eq (N := N) hB.1
    have hn1 : ∀ i, i < 14 → rdI M1 135 (14 * (h + 1) + i) = rowV (rH g N) N n (n - (h + 1)) i := fun i hi => hB.2 (h + 1) (Nat.le_refl _) (by omega) i hi
    refine e_then (e_il1 hT (y := 346) (pc := 36) (q := (yX12_findShift, cX12_findShift, 7, (some .int), 12)) rfl (show aTab 346 36 = some (.iload_n 3, 1, 0, 0, 0, 0, 0, 0) from rfl) rfl h3) ?_
    refine e_then (e_st hT (y := 346) (pc := 37) (q := (yX12_findShift, cX12_findShift, 7, (some .int), 12)) rfl (show aTab 346 37 = some (.bipush 14, 2, 0, 0, 0, 0, 0, 0) from rfl) (fr' := (346, 39, lv, [.int 14, .int (Int32.ofNat k)])) (M' := M1) rfl) ?_
    refine e_then (e_icF hT (y := 346) (pc := 39) (q := (yX12_findShift, cX12_findShift, 7, (some .int), 12)) rfl (show aTab 346 39 = some (.if_icmp .ge 72, 3, 0, 0, 0, 0, 0, 0) from rfl) rfl (t := 111) rfl (cdF (by show ¬ _ ≤ _; omega))) ?_
    refine e_then (e_st hT (y := 346) (pc := 42) (q := (yX12_findShift, cX12_findShift, 7, (some .int), 12)) rfl (show aTab 346 42 = some (.iconst 0, 1, 0, 0, 0, 0, 0, 0) from rfl) (fr' := (346, 43, lv, [.int 0])) (M' := M1) rfl) ?_
    refine e_then (e_is2 hT (y := 346) (pc := 43) (q := (yX12_findShift, cX12_findShift, 7, (some .int), 12)) rfl (show aTab 346 43 = some (.istore 4, 2, 0, 0, 0, 0, 0, 0) from rfl) ⟨rfl, by decide⟩) ?_
    refine e_then (e_st hT (y := 346) (pc := 45) (q := (yX12_findShift, cX12_findShift, 7, (some .int), 12)) rfl (show aTab 346 45 = some (.iconst 0, 1, 0, 0, 0, 0, 0, 0) from rfl) (fr' := (346, 46, (mlp 4 (.int 0) lv), [.int 0])) (M' := M1) rfl) ?_
    refine e_then (e_is2 hT (y := 346) (pc := 46) (q := (yX12_findShift, cX12_findShift, 7, (some .int), 12)) rfl (show aTab 346 46 = some (.istore 5, 2, 0, 0, 0, 0, 0, 0) from rfl) ⟨rfl, by decide⟩) ?_
    refine rw_loop hT hM rfl (r1 hS) hn1 (by omega) (by omega) (fun lv' g0 g1 g2 g3 g4 => ?_) 7 0 _ (by omega) (mlg_r (mlg_r h0 (by decide)) (by decide)) (mlg_i (mlg_i h1 (by decide)) (by decide)) (mlg_i (mlg_i h2 (by decide)) (by decide)) (mlg_i (mlg_i h3 (by decide)) (by decide)) (mlg_i (mlg_eq 4 _ _) (by decide)) (mlg_eq 5 _ _)
    rw [r2, ← rowV_s hh] at g4
    refine e_then (e_al1 hT (y := 346) (pc := 92) (q := (yX12_findShift, cX12_findShift, 7, (some .int), 12)) rfl (show aTab 346 92 = some (.aload_n 0, 1, 0, 0, 0, 0, 0, 0) from rfl) rfl g0) ?_
    refine e_then (e_getR hT (y := 346) (pc := 93) (q := (yX12_findShift, cX12_findShift, 7, (some .int), 12)) rfl (show aTab 346 93 = some (.getfield 55, 3, 0, 12, 30, 0, 0, 0) from rfl) rfl (by decide) (by decide) hM rfl rfl) ?_
    refine e_then (e_st hT (y := 346) (pc := 96) (q := (yX12_findShift, cX12_findShift, 7, (some .int), 12)) rfl (show aTab 346 96 = some (.bipush 14, 2, 0, 0, 0, 0, 0, 0) from rfl) (fr' := (346, 98, lv', [.int 14, .ref 144])) (M' := M1) rfl) ?_
    refine e_then (e_il1 hT (y := 346) (pc := 98) (q := (yX12_findShift, cX12_findShift, 7, (some .int), 12)) rfl (show aTab 346 98 = some (.iload_n 2, 1, 0, 0, 0, 0, 0, 0) from rfl) rfl g2) ?_
    refine e_then (e_st hT (y := 346) (pc := 99) (q := (yX12_findShift, cX12_findShift, 7, (some .int), 12)) rfl (show aTab 346 99 = some (.imul, 1, 0, 0, 0, 0, 0, 0) from rfl) (fr' := (346, 100, lv', [.int (14 * (Int32.ofNat h)), .ref 144])) (M' := M1) rfl) ?_
    refine e_then (e_il1 hT (y := 346) (pc := 100) (q := (yX12_findShift, cX12_findShift, 7, (some .int), 12)) rfl (show aTab 346 100 = some (.iload_n 3, 1, 0, 0, 0, 0, 0, 0) from rfl) rfl g3) ?_
    refine e_then (e_st hT (y := 346) (pc := 101) (q := (yX12_findShift, cX12_findShift, 7, (some .int), 12)) rfl (show aTab 346 101 = some (.iadd, 1, 0, 0, 0, 0, 0, 0) from rfl) (fr' := (346, 102, lv', [.int ((14 * (Int32.ofNat h)) + (Int32.ofNat k)), .ref 144])) (M' := M1) rfl) ?_
    refine e_then (e_il2 hT (y := 346) (pc := 102) (q := (yX12_findShift, cX12_findShift, 7, (some .int), 12)) rfl (show aTab 346 102 = some (.iload 4, 2, 0, 0, 0, 0, 0, 0) from rfl) rfl g4) ?_
    obtain ⟨m1, sm1, tm1, em1⟩ := s_ast (sc := none) (d := _) (lv := lv') (st := []) (z := (rowV (rH g N) N n (n - h) k)) (i := ((14 * (Int32.ofNat h)) + (Int32.ofNat k))) hT (y := 346) (pc := 104) (q := (yX12_findShift, cX12_findShift, 7, (some .int), 12)) rfl (show aTab 346 104 = some (.iastore, 1, 0, 0, 0, 0, 0, 0) from rfl) rfl hM rfl 135 (14 * h + k) rfl (rix5 (by omega) (by omega)) (by omega)
    refine e_then sm1 ?_
    refine e_then (e_ii hT (y := 346) (pc := 105) (q := (yX12_findShift, cX12_findShift, 7, (some .int), 12)) rfl (show aTab 346 105 = some (.iinc 3 1, 3, 0, 0, 0, 0, 0, 0) from rfl) ⟨rfl, by decide⟩ g3) ?_
    refine e_then (e_st hT (y := 346) (pc := 108) (q := (yX12_findShift, cX12_findShift, 7, (some .int), 12)) rfl (show aTab 346 108 = some (.goto (-72), 3, 0, 0, 0, 0, 0, 0) from rfl) (fr' := (346, 36, (mlp 3 (.int ((Int32.ofNat k) + Int32.ofInt 1)) lv'), [])) (M' := m1) rfl) ?_
    rw [os1 (by omega)]
    refine ih (k + 1) _ _ (by omega) tm1 ⟨fun c i hc => by rw [em1, up2_c _ _ hc]; exact hB.1 c i hc, fun h' h1' h2' i hi => ?_⟩ (fun i hi => ?_) (mlg_r g0 (by decide)) (mlg_i g1 (by decide)) (mlg_i g2 (by decide)) (mlg_eq 3 _ _)
    · rw [em1, up2_k _ _ (by omega)]
      exact hB.2 h' h1' h2' i hi
    · rw [em1]
      by_cases e1 : i = k
      · subst e1
        rw [up2_eq]
      · rw [up2_k _ _ (by omega)]
        exact hC i (by omega)
theorem rh_loop (hT : aTabOk) {g : Nat → Nat → Int32} {N n : Nat} (hS : rOkS g N) (hn8 : n ≤ 8) : ∀ (j : Nat) (lv : List (Nat × Value)) (M1 : mHe) (z : Int32), j ≤ n → z.toInt = (j : Int) - 1 → yTy M1 → shTB 135 (rH g N) g N n (rdI M1) j → mlg 0 lv = some (.ref 128) → mlg 1 lv = some (.int (Int32.ofNat n)) → mlg 2 lv = some (.int z) → mEv none 30 (346, 30, lv, []) M1 (fun r M' => r = some (.int (rowV (rH g N) N n n 12)) ∧ yTy M' ∧ shTB 135 (rH g N) g N n (rdI M') 0) := by
  intro j
  induction j with
  | zero =>
    intro lv M1 z hj hz hM hB h0 h1 h2
    have hv := hB.2 0 (Nat.le_refl _) (by omega) 12 (by omega)
    rw [Nat.sub_zero] at hv
    rw [← hv]
    refine e_then (e_il1 hT (y := 346) (pc := 30) (q := (yX12_findShift, cX12_findShift, 7, (some .int), 12)) rfl (show aTab 346 30 = some (.iload_n 2, 1, 0, 0, 0, 0, 0, 0) from rfl) rfl h2) ?_
    refine e_then (e_ifT hT (y := 346) (pc := 31) (q := (yX12_findShift, cX12_findShift, 7, (some .int), 12)) rfl (show aTab 346 31 = some (.ifCond .lt 86, 3, 0, 0, 0, 0, 0, 0) from rfl) rfl (t := 117) rfl (cdT (by show _ < (0 : Int); omega))) ?_
    refine e_then (e_al1 hT (y := 346) (pc := 117) (q := (yX12_findShift, cX12_findShift, 7, (some .int), 12)) rfl (show aTab 346 117 = some (.aload_n 0, 1, 0, 0, 0, 0, 0, 0) from rfl) rfl h0) ?_
    refine e_then (e_getR hT (y := 346) (pc := 118) (q := (yX12_findShift, cX12_findShift, 7, (some .int), 12)) rfl (show aTab 346 118 = some (.getfield 55, 3, 0, 12, 30, 0, 0, 0) from rfl) rfl (by decide) (by decide) hM rfl rfl) ?_
    refine e_then (e_st hT (y := 346) (pc := 121) (q := (yX12_findShift, cX12_findShift, 7, (some .int), 12)) rfl (show aTab 346 121 = some (.bipush 12, 2, 0, 0, 0, 0, 0, 0) from rfl) (fr' := (346, 123, lv, [.int 12, .ref 144])) (M' := M1) rfl) ?_
    refine e_then (s_ald hT (y := 346) (pc := 123) (q := (yX12_findShift, cX12_findShift, 7, (some .int), 12)) rfl (show aTab 346 123 = some (.iaload, 1, 0, 0, 0, 0, 0, 0) from rfl) rfl hM rfl 135 12 rfl rfl (by decide)) ?_
    exact e_fin (e_iret hT (y := 346) (pc := 124) (q := (yX12_findShift, cX12_findShift, 7, (some .int), 12)) rfl (show aTab 346 124 = some (.ireturn, 1, 0, 0, 0, 0, 0, 0) from rfl) ⟨rfl, rfl⟩) ⟨rfl, hM, hB⟩
  | succ h ih =>
    intro lv M1 z hj hz hM hB h0 h1 h2
    have hzz : z = Int32.ofNat h := i32eq (by rw [i32n (by omega)]; omega)
    subst hzz
    have eh := i32n (k := h) (by omega)
    refine e_then (e_il1 hT (y := 346) (pc := 30) (q := (yX12_findShift, cX12_findShift, 7, (some .int), 12)) rfl (show aTab 346 30 = some (.iload_n 2, 1, 0, 0, 0, 0, 0, 0) from rfl) rfl h2) ?_
    refine e_then (e_ifF hT (y := 346) (pc := 31) (q := (yX12_findShift, cX12_findShift, 7, (some .int), 12)) rfl (show aTab 346 31 = some (.ifCond .lt 86, 3, 0, 0, 0, 0, 0, 0) from rfl) rfl (t := 117) rfl (cdF (by show ¬ _ < (0 : Int); omega))) ?_
    refine e_then (e_st hT (y := 346) (pc := 34) (q := (yX12_findShift, cX12_findShift, 7, (some .int), 12)) rfl (show aTab 346 34 = some (.iconst 0, 1, 0, 0, 0, 0, 0, 0) from rfl) (fr' := (346, 35, lv, [.int 0])) (M' := M1) rfl) ?_
    refine e_then (e_is1 hT (y := 346) (pc := 35) (q := (yX12_findShift, cX12_findShift, 7, (some .int), 12)) rfl (show aTab 346 35 = some (.istore_n 3, 1, 0, 0, 0, 0, 0, 0) from rfl) ⟨rfl, by decide⟩) ?_
    refine rk_loop hT hS hn8 (by omega) (fun lv' M2 t2 hB2 g0 g1 g2 => ?_) 14 0 _ M1 (by omega) hM hB (fun k hk => absurd hk (by omega)) (mlg_r h0 (by decide)) (mlg_i h1 (by decide)) (mlg_i h2 (by decide)) (mlg_eq 3 _ _)
    refine e_then (e_ii hT (y := 346) (pc := 111) (q := (yX12_findShift, cX12_findShift, 7, (some .int), 12)) rfl (show aTab 346 111 = some (.iinc 2 (-1), 3, 0, 0, 0, 0, 0, 0) from rfl) ⟨rfl, by decide⟩ g2) ?_
    refine e_then (e_st hT (y := 346) (pc := 114) (q := (yX12_findShift, cX12_findShift, 7, (some .int), 12)) rfl (show aTab 346 114 = some (.goto (-84), 3, 0, 0, 0, 0, 0, 0) from rfl) (fr' := (346, 30, (mlp 2 (.int ((Int32.ofNat h) + Int32.ofInt (-1))) lv'), [])) (M' := M2) rfl) ?_
    exact ih _ M2 _ (by omega) (by rw [i32_add (by rw [eh, show (Int32.ofInt (-1)).toInt = -1 from rfl]; omega) (by rw [eh, show (Int32.ofInt (-1)).toInt = -1 from rfl]; omega), eh, show (Int32.ofInt (-1)).toInt = -1 from rfl]; omega) t2 hB2 (mlg_r g0 (by decide)) (mlg_i g1 (by decide)) (mlg_eq 2 _ _)
theorem rz_loop (hT : aTabOk) {g : Nat → Nat → Int32} {n : Nat} (hn8 : n ≤ 8) {Q : Option Value → mHe → Prop} (hQ : ∀ (lv' : List (Nat × Value)) (M2 : mHe), yTy M2 → (∀ c k, c ≠ 135 → rdI M2 c k = g c k) → (∀ k, k < 14 → rdI M2 135 (14 * n + k) = 0) → mlg 0 lv' = some (.ref 128) → mlg 1 lv' = some (.int (Int32.ofNat n)) → mEv none 30 (346, 26, lv', []) M2 Q) : ∀ (j i : Nat) (lv : List (Nat × Value)) (M1 : mHe), i + j = 14 → yTy M1 → (∀ c k, c ≠ 135 → rdI M1 c k = g c k) → (∀ k, k < i → rdI M1 135 (14 * n + k) = 0) → mlg 0 lv = some (.ref 128) → mlg 1 lv = some (.int (Int32.ofNat n)) → mlg 2 lv = some (.int (Int32.ofNat i)) → mEv none 30 (346, 2, lv, []) M1 Q := by
  have e14 : (14 : Int32).toInt = 14 := rfl
  intro j
  induction j with
  | zero =>
    intro i lv M1 hj hM hB hC h0 h1 h2
    have hj : i = 14 := by omega
    subst hj
    refine e_then (e_il1 hT (y := 346) (pc := 2) (q := (yX12_findShift, cX12_findShift, 7, (some .int), 12)) rfl (show aTab 346 2 = some (.iload_n 2, 1, 0, 0, 0, 0, 0, 0) from rfl) rfl h2) ?_
    refine e_then (e_st hT (y := 346) (pc := 3) (q := (yX12_findShift, cX12_findShift, 7, (some .int), 12)) rfl (show aTab 346 3 = some (.bipush 14, 2, 0, 0, 0, 0, 0, 0) from rfl) (fr' := (346, 5, lv, [.int 14, .int (Int32.ofNat 14)])) (M' := M1) rfl) ?_
    refine e_then (e_icT hT (y := 346) (pc := 5) (q := (yX12_findShift, cX12_findShift, 7, (some .int), 12)) rfl (show aTab 346 5 = some (.if_icmp .ge 21, 3, 0, 0, 0, 0, 0, 0) from rfl) rfl (t := 26) rfl (cdT (by show (14 : Int32).toInt ≤ (Int32.ofNat 14).toInt; decide))) ?_
    exact hQ _ M1 hM hB hC h0 h1
  | succ j ih =>
    intro i lv M1 hj hM hB hC h0 h1 h2
    have ei := i32n (k := i) (by omega)
    refine e_then (e_il1 hT (y := 346) (pc := 2) (q := (yX12_findShift, cX12_findShift, 7, (some .int), 12)) rfl (show aTab 346 2 = some (.iload_n 2, 1, 0, 0, 0, 0, 0, 0) from rfl) rfl h2) ?_
    refine e_then (e_st hT (y := 346) (pc := 3) (q := (yX12_findShift, cX12_findShift, 7, (some .int), 12)) rfl (show aTab 346 3 = some (.bipush 14, 2, 0, 0, 0, 0, 0, 0) from rfl) (fr' := (346, 5, lv, [.int 14, .int (Int32.ofNat i)])) (M' := M1) rfl) ?_
    refine e_then (e_icF hT (y := 346) (pc := 5) (q := (yX12_findShift, cX12_findShift, 7, (some .int), 12)) rfl (show aTab 346 5 = some (.if_icmp .ge 21, 3, 0, 0, 0, 0, 0, 0) from rfl) rfl (t := 26) rfl (cdF (by show ¬ _ ≤ _; omega))) ?_
    refine e_then (e_al1 hT (y := 346) (pc := 8) (q := (yX12_findShift, cX12_findShift, 7, (some .int), 12)) rfl (show aTab 346 8 = some (.aload_n 0, 1, 0, 0, 0, 0, 0, 0) from rfl) rfl h0) ?_
    refine e_then (e_getR hT (y := 346) (pc := 9) (q := (yX12_findShift, cX12_findShift, 7, (some .int), 12)) rfl (show aTab 346 9 = some (.getfield 55, 3, 0, 12, 30, 0, 0, 0) from rfl) rfl (by decide) (by decide) hM rfl rfl) ?_
    refine e_then (e_st hT (y := 346) (pc := 12) (q := (yX12_findShift, cX12_findShift, 7, (some .int), 12)) rfl (show aTab 346 12 = some (.bipush 14, 2, 0, 0, 0, 0, 0, 0) from rfl) (fr' := (346, 14, lv, [.int 14, .ref 144])) (M' := M1) rfl) ?_
    refine e_then (e_il1 hT (y := 346) (pc := 14) (q := (yX12_findShift, cX12_findShift, 7, (some .int), 12)) rfl (show aTab 346 14 = some (.iload_n 1, 1, 0, 0, 0, 0, 0, 0) from rfl) rfl h1) ?_
    refine e_then (e_st hT (y := 346) (pc := 15) (q := (yX12_findShift, cX12_findShift, 7, (some .int), 12)) rfl (show aTab 346 15 = some (.imul, 1, 0, 0, 0, 0, 0, 0) from rfl) (fr' := (346, 16, lv, [.int (14 * (Int32.ofNat n)), .ref 144])) (M' := M1) rfl) ?_
    refine e_then (e_il1 hT (y := 346) (pc := 16) (q := (yX12_findShift, cX12_findShift, 7, (some .int), 12)) rfl (show aTab 346 16 = some (.iload_n 2, 1, 0, 0, 0, 0, 0, 0) from rfl) rfl h2) ?_
    refine e_then (e_st hT (y := 346) (pc := 17) (q := (yX12_findShift, cX12_findShift, 7, (some .int), 12)) rfl (show aTab 346 17 = some (.iadd, 1, 0, 0, 0, 0, 0, 0) from rfl) (fr' := (346, 18, lv, [.int ((14 * (Int32.ofNat n)) + (Int32.ofNat i)), .ref 144])) (M' := M1) rfl) ?_
    refine e_then (e_st hT (y := 346) (pc := 18) (q := (yX12_findShift, cX12_findShift, 7, (some .int), 12)) rfl (show aTab 346 18 = some (.iconst 0, 1, 0, 0, 0, 0, 0, 0) from rfl) (fr' := (346, 19, lv, [.int 0, .int ((14 * (Int32.ofNat n)) + (Int32.ofNat i)), .ref 144])) (M' := M1) rfl) ?_
    obtain ⟨m1, sm1, tm1, em1⟩ := s_ast (sc := none) (d := _) (lv := lv) (st := []) (z := 0) (i := ((14 * (Int32.ofNat n)) + (Int32.ofNat i))) hT (y := 346) (pc := 19) (q := (yX12_findShift, cX12_findShift, 7, (some .int), 12)) rfl (show aTab 346 19 = some (.iastore, 1, 0, 0, 0, 0, 0, 0) from rfl) rfl hM rfl 135 (14 * n + i) rfl (rix5 hn8 (by omega)) (by omega)
    refine e_then sm1 ?_
    refine e_then (e_ii hT (y := 346) (pc := 20) (q := (yX12_findShift, cX12_findShift, 7, (some .int), 12)) rfl (show aTab 346 20 = some (.iinc 2 1, 3, 0, 0, 0, 0, 0, 0) from rfl) ⟨rfl, by decide⟩ h2) ?_
    refine e_then (e_st hT (y := 346) (pc := 23) (q := (yX12_findShift, cX12_findShift, 7, (some .int), 12)) rfl (show aTab 346 23 = some (.goto (-21), 3, 0, 0, 0, 0, 0, 0) from rfl) (fr' := (346, 2, (mlp 2 (.int ((Int32.ofNat i) + Int32.ofInt 1)) lv), [])) (M' := m1) rfl) ?_
    rw [os1 (by omega)]
    refine ih (i + 1) _ _ (by omega) tm1 (fun c k hc => by rw [em1, up2_c _ _ hc]; exact hB c k hc) (fun k hk => ?_) (mlg_r h0 (by decide)) (mlg_i h1 (by decide)) (mlg_eq 2 _ _)
    rw [em1]
    by_cases e : k = i
    · subst e; exact up2_eq _ _ _ _
    · rw [up2_k _ _ (by omega)]; exact hC k (by omega)
theorem rfs_run (hT : aTabOk) {M : mHe} (hM : yTy M) {g : Nat → Nat → Int32} (hg : rdI M = g) {N n : Nat} (hS : rOkS g N) (hn8 : n ≤ 8) {d : Nat} (hd : 30 ≤ d) : ∃ K M', mRun none K d (346, 0, lv_args 0 [.ref 128, .int (Int32.ofNat n)], []) M = some (some (.int (rowV (rH g N) N n n 12)), M') ∧ yTy M' ∧ shTB 135 (rH g N) g N n (rdI M') 0 := by
  have en := i32n (k := n) (by omega)
  have go : mEv none 30 (346, 0, lv_args 0 [.ref 128, .int (Int32.ofNat n)], []) M (fun r M' => r = some (.int (rowV (rH g N) N n n 12)) ∧ yTy M' ∧ shTB 135 (rH g N) g N n (rdI M') 0) := by
    refine e_then (e_st hT (y := 346) (pc := 0) (q := (yX12_findShift, cX12_findShift, 7, (some .int), 12)) rfl (show aTab 346 0 = some (.iconst 0, 1, 0, 0, 0, 0, 0, 0) from rfl) (fr' := (346, 1, (lv_args 0 [.ref 128, .int (Int32.ofNat n)]), [.int 0])) (M' := M) rfl) ?_
    refine e_then (e_is1 hT (y := 346) (pc := 1) (q := (yX12_findShift, cX12_findShift, 7, (some .int), 12)) rfl (show aTab 346 1 = some (.istore_n 2, 1, 0, 0, 0, 0, 0, 0) from rfl) ⟨rfl, by decide⟩) ?_
    refine rz_loop hT (g := g) hn8 (fun lv' M2 t2 hB hC g0 g1 => ?_) 14 0 _ M (by omega) hM (fun c k _ => by rw [hg]) (fun k hk => absurd hk (by omega)) (mlg_r rfl (by decide)) (mlg_i rfl (by decide)) (mlg_eq 2 _ _)
    refine e_then (e_il1 hT (y := 346) (pc := 26) (q := (yX12_findShift, cX12_findShift, 7, (some .int), 12)) rfl (show aTab 346 26 = some (.iload_n 1, 1, 0, 0, 0, 0, 0, 0) from rfl) rfl g1) ?_
    refine e_then (e_st hT (y := 346) (pc := 27) (q := (yX12_findShift, cX12_findShift, 7, (some .int), 12)) rfl (show aTab 346 27 = some (.iconst 1, 1, 0, 0, 0, 0, 0, 0) from rfl) (fr' := (346, 28, lv', [.int 1, .int (Int32.ofNat n)])) (M' := M2) rfl) ?_
    refine e_then (e_st hT (y := 346) (pc := 28) (q := (yX12_findShift, cX12_findShift, 7, (some .int), 12)) rfl (show aTab 346 28 = some (.isub, 1, 0, 0, 0, 0, 0, 0) from rfl) (fr' := (346, 29, lv', [.int ((Int32.ofNat n) - 1)])) (M' := M2) rfl) ?_
    refine e_then (e_is1 hT (y := 346) (pc := 29) (q := (yX12_findShift, cX12_findShift, 7, (some .int), 12)) rfl (show aTab 346 29 = some (.istore_n 2, 1, 0, 0, 0, 0, 0, 0) from rfl) ⟨rfl, by decide⟩) ?_
    refine rh_loop hT hS hn8 n _ M2 _ (Nat.le_refl _) (by rw [i32_sub (by rw [en, show (1 : Int32).toInt = 1 from rfl]; omega) (by rw [en, show (1 : Int32).toInt = 1 from rfl]; omega), en, show (1 : Int32).toInt = 1 from rfl]) t2 ⟨hB, fun h' h1' h2' k hk => ?_⟩ (mlg_r g0 (by decide)) (mlg_i g1 (by decide)) (mlg_eq 2 _ _)
    have : h' = n := by omega
    subst this
    rw [hC _ (by omega), Nat.sub_self]
    rfl
  obtain ⟨K, r, M', q, rfl, q2, q3⟩ := go
  exact ⟨K, M', mRun_dm q hd, q2, q3⟩
theorem rheard_run (hT : aTabOk) {M : mHe} (hM : yTy M) {g : Nat → Nat → Int32} (hg : rdI M = g) {N : Nat} (hS : rOkS g N) {a : Int32} {d : Nat} (hd : 40 ≤ d) : ∃ K M' r, mRun none K d (347, 0, lv_args 0 [.ref 128, .int a], []) M = some (some (.int r), M') ∧ yTy M' ∧ (∀ c k, c ≠ 135 → rdI M' c k = g c k) ∧ r = if 1 ≤ a.toInt ∧ a.toInt ≤ 8 then rowV (rH g N) N a.toInt.toNat a.toInt.toNat 12 else -1000000001 := by
  obtain ⟨K1, q1⟩ := isIn_i hT (M := M) (v := a) (l := Int64.ofNat 1) (h := Int64.ofInt 8) (d := 39) (by decide)
  rw [show (Int64.ofNat 1).toInt = 1 from rfl, show (Int64.ofInt 8).toInt = 8 from rfl] at q1
  have go : mEv none 40 (347, 0, lv_args 0 [.ref 128, .int a], []) M (fun r M' => yTy M' ∧ (∀ c k, c ≠ 135 → rdI M' c k = g c k) ∧ r = some (.int (if 1 ≤ a.toInt ∧ a.toInt ≤ 8 then rowV (rH g N) N a.toInt.toNat a.toInt.toNat 12 else -1000000001))) := by
    by_cases c1 : 1 ≤ a.toInt ∧ a.toInt ≤ 8
    · rw [gB_t c1] at q1
      obtain ⟨n, hn⟩ : ∃ n : Nat, (n : Int) = a.toInt := ⟨a.toInt.toNat, by omega⟩
      have ha : a = Int32.ofNat n := i32eq (by rw [i32n (by omega)]; omega)
      rw [if_pos c1, show a.toInt.toNat = n by omega]
      subst ha
      obtain ⟨K2, M2, q2, t2, hB⟩ := rfs_run hT hM hg hS (n := n) (by omega) (d := 39) (by decide)
      refine e_then (e_il1 hT (y := 347) (pc := 0) (q := (yX12_heard, cX12_heard, 2, (some .int), 12)) rfl (show aTab 347 0 = some (.iload_n 1, 1, 0, 0, 0, 0, 0, 0) from rfl) rfl rfl) ?_
      refine e_then (e_st hT (y := 347) (pc := 1) (q := (yX12_heard, cX12_heard, 2, (some .int), 12)) rfl (show aTab 347 1 = some (.i2l, 1, 0, 0, 0, 0, 0, 0) from rfl) (fr' := (347, 2, (lv_args 0 [.ref 128, .int (Int32.ofNat n)]), [.long ((Int32.ofNat n)).toInt64])) (M' := M) rfl) ?_
      refine e_then (e_st hT (y := 347) (pc := 2) (q := (yX12_heard, cX12_heard, 2, (some .int), 12)) rfl (show aTab 347 2 = some (.lconst 1, 1, 0, 0, 0, 0, 0, 0) from rfl) (fr' := (347, 3, (lv_args 0 [.ref 128, .int (Int32.ofNat n)]), [.long (Int64.ofNat 1), .long ((Int32.ofNat n)).toInt64])) (M' := M) rfl) ?_
      refine e_then (e_st hT (y := 347) (pc := 3) (q := (yX12_heard, cX12_heard, 2, (some .int), 12)) rfl (show aTab 347 3 = some (.ldc2_w 69, 3, 8, 0, 8, 0, 0, 0) from rfl) (fr' := (347, 6, (lv_args 0 [.ref 128, .int (Int32.ofNat n)]), [.long (Int64.ofInt 8), .long (Int64.ofNat 1), .long ((Int32.ofNat n)).toInt64])) (M' := M) rfl) ?_
      refine e_then (e_calls hT (y := 347) (pc := 6) (q := (yX12_heard, cX12_heard, 2, (some .int), 12)) rfl (show aTab 347 6 = some (.invokestatic 65, 3, 2, 239, 0, 3, 6, 12) from rfl) (Nat.le_of_ble_eq_true rfl) (Nat.le_of_ble_eq_true rfl) (Nat.le_of_ble_eq_true rfl) ⟨by decide, by decide⟩ q1) ?_
      refine e_then (e_ifF hT (y := 347) (pc := 9) (q := (yX12_heard, cX12_heard, 2, (some .int), 12)) rfl (show aTab 347 9 = some (.ifCond .eq 11, 3, 0, 0, 0, 0, 0, 0) from rfl) rfl (t := 20) rfl (cdF (by show ¬ (1 : Int32).toInt = 0; decide))) ?_
      refine e_then (e_al1 hT (y := 347) (pc := 12) (q := (yX12_heard, cX12_heard, 2, (some .int), 12)) rfl (show aTab 347 12 = some (.aload_n 0, 1, 0, 0, 0, 0, 0, 0) from rfl) rfl rfl) ?_
      refine e_then (e_il1 hT (y := 347) (pc := 13) (q := (yX12_heard, cX12_heard, 2, (some .int), 12)) rfl (show aTab 347 13 = some (.iload_n 1, 1, 0, 0, 0, 0, 0, 0) from rfl) rfl rfl) ?_
      refine e_then (e_call hT (y := 347) (pc := 14) (q := (yX12_heard, cX12_heard, 2, (some .int), 12)) rfl (show aTab 347 14 = some (.invokevirtual 387, 3, 1, 346, 0, 1, 7, 12) from rfl) rfl ⟨by decide, Nat.le_of_ble_eq_true rfl⟩ (ob_at hM (rfl : tTy 119 = some (.inr (12, _)))).choose_spec (Nat.le_of_ble_eq_true rfl) (Nat.le_of_ble_eq_true rfl) ⟨by decide, by decide⟩ q2) ?_
      refine e_then (e_st hT (y := 347) (pc := 17) (q := (yX12_heard, cX12_heard, 2, (some .int), 12)) rfl (show aTab 347 17 = some (.goto 5, 3, 0, 0, 0, 0, 0, 0) from rfl) (fr' := (347, 22, (lv_args 0 [.ref 128, .int (Int32.ofNat n)]), [.int (rowV (rH g N) N n n 12)])) (M' := M2) rfl) ?_
      exact e_fin (e_iret hT (y := 347) (pc := 22) (q := (yX12_heard, cX12_heard, 2, (some .int), 12)) rfl (show aTab 347 22 = some (.ireturn, 1, 0, 0, 0, 0, 0, 0) from rfl) ⟨rfl, rfl⟩) ⟨t2, hB.1, rfl⟩
    · rw [gB_f c1] at q1
      rw [if_neg c1]
      refine e_then (e_il1 hT (y := 347) (pc := 0) (q := (yX12_heard, cX12_heard, 2, (some .int), 12)) rfl (show aTab 347 0 = some (.iload_n 1, 1, 0, 0, 0, 0, 0, 0) from rfl) rfl rfl) ?_
      refine e_then (e_st hT (y := 347) (pc := 1) (q := (yX12_heard, cX12_heard, 2, (some .int), 12)) rfl (show aTab 347 1 = some (.i2l, 1, 0, 0, 0, 0, 0, 0) from rfl) (fr' := (347, 2, (lv_args 0 [.ref 128, .int a]), [.long (a).toInt64])) (M' := M) rfl) ?_
      refine e_then (e_st hT (y := 347) (pc := 2) (q := (yX12_heard, cX12_heard, 2, (some .int), 12)) rfl (show aTab 347 2 = some (.lconst 1, 1, 0, 0, 0, 0, 0, 0) from rfl) (fr' := (347, 3, (lv_args 0 [.ref 128, .int a]), [.long (Int64.ofNat 1), .long (a).toInt64])) (M' := M) rfl) ?_
      refine e_then (e_st hT (y := 347) (pc := 3) (q := (yX12_heard, cX12_heard, 2, (some .int), 12)) rfl (show aTab 347 3 = some (.ldc2_w 69, 3, 8, 0, 8, 0, 0, 0) from rfl) (fr' := (347, 6, (lv_args 0 [.ref 128, .int a]), [.long (Int64.ofInt 8), .long (Int64.ofNat 1), .long (a).toInt64])) (M' := M) rfl) ?_
      refine e_then (e_calls hT (y := 347) (pc := 6) (q := (yX12_heard, cX12_heard, 2, (some .int), 12)) rfl (show aTab 347 6 = some (.invokestatic 65, 3, 2, 239, 0, 3, 6, 12) from rfl) (Nat.le_of_ble_eq_true rfl) (Nat.le_of_ble_eq_true rfl) (Nat.le_of_ble_eq_true rfl) ⟨by decide, by decide⟩ q1) ?_
      refine e_then (e_ifT hT (y := 347) (pc := 9) (q := (yX12_heard, cX12_heard, 2, (some .int), 12)) rfl (show aTab 347 9 = some (.ifCond .eq 11, 3, 0, 0, 0, 0, 0, 0) from rfl) rfl (t := 20) rfl (cdT (by show (0 : Int32).toInt = 0; rfl))) ?_
      refine e_then (e_st hT (y := 347) (pc := 20) (q := (yX12_heard, cX12_heard, 2, (some .int), 12)) rfl (show aTab 347 20 = some (.ldc 89, 2, 7, 0, (-1000000001), 0, 0, 0) from rfl) (fr' := (347, 22, (lv_args 0 [.ref 128, .int a]), [.int (-1000000001)])) (M' := M) rfl) ?_
      exact e_fin (e_iret hT (y := 347) (pc := 22) (q := (yX12_heard, cX12_heard, 2, (some .int), 12)) rfl (show aTab 347 22 = some (.ireturn, 1, 0, 0, 0, 0, 0, 0) from rfl) ⟨rfl, rfl⟩) ⟨hM, fun c k _ => by rw [hg], rfl⟩
  obtain ⟨K, r, M', q, q2, q3, rfl⟩ := go
  exact ⟨K, M', _, mRun_dm q hd, q2, q3, rfl⟩
theorem rix6 {h w s : Nat} (hh : h ≤ 7) (hw : w ≤ 6) (hs : s ≤ 1) : ((14 : Int32) * Int32.ofNat h + 2 * Int32.ofNat w + Int32.ofNat s).toInt = ((14 * h + (2 * w + s) : Nat) : Int) := by
  have e2 : (2 : Int32).toInt = 2 := rfl
  have e14 : (14 : Int32).toInt = 14 := rfl
  have eh := i32n (k := h) (by omega)
  have ew := i32n (k := w) (by omega)
  have es := i32n (k := s) (by omega)
  have m1 : ((14 : Int32) * Int32.ofNat h).toInt = 14 * (h : Int) := by rw [i32_mul (by rw [e14, eh]; omega) (by rw [e14, eh]; omega), e14, eh]
  have m2 : (2 * Int32.ofNat w).toInt = 2 * (w : Int) := by rw [i32_mul (by rw [e2, ew]; omega) (by rw [e2, ew]; omega), e2, ew]
  have m3 : ((14 : Int32) * Int32.ofNat h + 2 * Int32.ofNat w).toInt = 14 * (h : Int) + 2 * w := by rw [i32_add (by omega) (by omega), m1, m2]
  rw [i32_add (by omega) (by omega), m3, es]; omega
theorem rsi_loop (hT : aTabOk) {M : mHe} (hM : yTy M) {g1 : Nat → Nat → Int32} (hg : rdI M = g1) {N n u h la tw : Nat} (hS : rOkS g1 N) {nx : Nat → Int32} (hn : ∀ k, k < 14 → g1 135 (14 * (h + 1) + k) = nx k) (hh : h ≤ 7) (hl : la ≤ 6) (ht : tw ≤ 1) {x : Int32} (hx : g1 135 (14 * h + (2 * la + tw)) = x) {w : Nat} (hw : w ≤ 6) (hwx : hbV (rH g1 N) N nx h la tw w = x) (hlt : ∀ i, i < w → hbV (rH g1 N) N nx h la tw i ≠ x) {Q : Option Value → mHe → Prop} (hQ : ∀ lv' : List (Nat × Value), mlg 0 lv' = some (.ref 128) → mlg 1 lv' = some (.int (Int32.ofNat n)) → mlg 2 lv' = some (.int (Int32.ofNat u)) → mlg 4 lv' = some (.int (Int32.ofNat la)) → mlg 5 lv' = some (.int (Int32.ofNat tw)) → mlg 6 lv' = some (.int (Int32.ofNat h)) → mlg 7 lv' = some (.int (Int32.ofNat w)) → mEv none 30 (348, 92, lv', []) M Q) : ∀ (j i : Nat) (lv : List (Nat × Value)), i + j = w → mlg 0 lv = some (.ref 128) → mlg 1 lv = some (.int (Int32.ofNat n)) → mlg 2 lv = some (.int (Int32.ofNat u)) → mlg 4 lv = some (.int (Int32.ofNat la)) → mlg 5 lv = some (.int (Int32.ofNat tw)) → mlg 6 lv = some (.int (Int32.ofNat h)) → mlg 7 lv = some (.int (Int32.ofNat i)) → mEv none 30 (348, 53, lv, []) M Q := by
  intro j
  induction j with
  | zero =>
    intro i lv hj h0 h1 h2 h4 h5 h6 h7
    have hj : i = w := by omega
    subst hj
    obtain ⟨K1, q1⟩ := rhb_run hT hM hg hS hn (la := la) (tw := tw) (who := i) hh hl ht hw (d := 29) (by decide)
    rw [hwx] at q1
    refine e_then (e_al1 hT (y := 348) (pc := 53) (q := (yX12_shift, cX12_shift, 8, (some .int), 12)) rfl (show aTab 348 53 = some (.aload_n 0, 1, 0, 0, 0, 0, 0, 0) from rfl) rfl h0) ?_
    refine e_then (e_il2 hT (y := 348) (pc := 54) (q := (yX12_shift, cX12_shift, 8, (some .int), 12)) rfl (show aTab 348 54 = some (.iload 6, 2, 0, 0, 0, 0, 0, 0) from rfl) rfl h6) ?_
    refine e_then (e_il2 hT (y := 348) (pc := 56) (q := (yX12_shift, cX12_shift, 8, (some .int), 12)) rfl (show aTab 348 56 = some (.iload 4, 2, 0, 0, 0, 0, 0, 0) from rfl) rfl h4) ?_
    refine e_then (e_il2 hT (y := 348) (pc := 58) (q := (yX12_shift, cX12_shift, 8, (some .int), 12)) rfl (show aTab 348 58 = some (.iload 5, 2, 0, 0, 0, 0, 0, 0) from rfl) rfl h5) ?_
    refine e_then (e_il2 hT (y := 348) (pc := 60) (q := (yX12_shift, cX12_shift, 8, (some .int), 12)) rfl (show aTab 348 60 = some (.iload 7, 2, 0, 0, 0, 0, 0, 0) from rfl) rfl h7) ?_
    refine e_then (e_call hT (y := 348) (pc := 62) (q := (yX12_shift, cX12_shift, 8, (some .int), 12)) rfl (show aTab 348 62 = some (.invokevirtual 383, 3, 1, 345, 0, 4, 6, 12) from rfl) rfl ⟨by decide, Nat.le_of_ble_eq_true rfl⟩ (ob_at hM (rfl : tTy 119 = some (.inr (12, _)))).choose_spec (Nat.le_of_ble_eq_true rfl) (Nat.le_of_ble_eq_true rfl) ⟨by decide, by decide⟩ q1) ?_
    refine e_then (e_al1 hT (y := 348) (pc := 65) (q := (yX12_shift, cX12_shift, 8, (some .int), 12)) rfl (show aTab 348 65 = some (.aload_n 0, 1, 0, 0, 0, 0, 0, 0) from rfl) rfl h0) ?_
    refine e_then (e_getR hT (y := 348) (pc := 66) (q := (yX12_shift, cX12_shift, 8, (some .int), 12)) rfl (show aTab 348 66 = some (.getfield 55, 3, 0, 12, 30, 0, 0, 0) from rfl) rfl (by decide) (by decide) hM rfl rfl) ?_
    refine e_then (e_st hT (y := 348) (pc := 69) (q := (yX12_shift, cX12_shift, 8, (some .int), 12)) rfl (show aTab 348 69 = some (.bipush 14, 2, 0, 0, 0, 0, 0, 0) from rfl) (fr' := (348, 71, lv, [.int 14, .ref 144, .int x])) (M' := M) rfl) ?_
    refine e_then (e_il2 hT (y := 348) (pc := 71) (q := (yX12_shift, cX12_shift, 8, (some .int), 12)) rfl (show aTab 348 71 = some (.iload 6, 2, 0, 0, 0, 0, 0, 0) from rfl) rfl h6) ?_
    refine e_then (e_st hT (y := 348) (pc := 73) (q := (yX12_shift, cX12_shift, 8, (some .int), 12)) rfl (show aTab 348 73 = some (.imul, 1, 0, 0, 0, 0, 0, 0) from rfl) (fr' := (348, 74, lv, [.int (14 * (Int32.ofNat h)), .ref 144, .int x])) (M' := M) rfl) ?_
    refine e_then (e_st hT (y := 348) (pc := 74) (q := (yX12_shift, cX12_shift, 8, (some .int), 12)) rfl (show aTab 348 74 = some (.iconst 2, 1, 0, 0, 0, 0, 0, 0) from rfl) (fr' := (348, 75, lv, [.int 2, .int (14 * (Int32.ofNat h)), .ref 144, .int x])) (M' := M) rfl) ?_
    refine e_then (e_il2 hT (y := 348) (pc := 75) (q := (yX12_shift, cX12_shift, 8, (some .int), 12)) rfl (show aTab 348 75 = some (.iload 4, 2, 0, 0, 0, 0, 0, 0) from rfl) rfl h4) ?_
    refine e_then (e_st hT (y := 348) (pc := 77) (q := (yX12_shift, cX12_shift, 8, (some .int), 12)) rfl (show aTab 348 77 = some (.imul, 1, 0, 0, 0, 0, 0, 0) from rfl) (fr' := (348, 78, lv, [.int (2 * (Int32.ofNat la)), .int (14 * (Int32.ofNat h)), .ref 144, .int x])) (M' := M) rfl) ?_
    refine e_then (e_st hT (y := 348) (pc := 78) (q := (yX12_shift, cX12_shift, 8, (some .int), 12)) rfl (show aTab 348 78 = some (.iadd, 1, 0, 0, 0, 0, 0, 0) from rfl) (fr' := (348, 79, lv, [.int ((14 * (Int32.ofNat h)) + (2 * (Int32.ofNat la))), .ref 144, .int x])) (M' := M) rfl) ?_
    refine e_then (e_il2 hT (y := 348) (pc := 79) (q := (yX12_shift, cX12_shift, 8, (some .int), 12)) rfl (show aTab 348 79 = some (.iload 5, 2, 0, 0, 0, 0, 0, 0) from rfl) rfl h5) ?_
    refine e_then (e_st hT (y := 348) (pc := 81) (q := (yX12_shift, cX12_shift, 8, (some .int), 12)) rfl (show aTab 348 81 = some (.iadd, 1, 0, 0, 0, 0, 0, 0) from rfl) (fr' := (348, 82, lv, [.int (((14 * (Int32.ofNat h)) + (2 * (Int32.ofNat la))) + (Int32.ofNat tw)), .ref 144, .int x])) (M' := M) rfl) ?_
    refine e_then (s_ald hT (y := 348) (pc := 82) (q := (yX12_shift, cX12_shift, 8, (some .int), 12)) rfl (show aTab 348 82 = some (.iaload, 1, 0, 0, 0, 0, 0, 0) from rfl) rfl hM hg 135 (14 * h + (2 * la + tw)) rfl (rix6 hh hl ht) (by omega)) ?_
    refine e_then (e_icT hT (y := 348) (pc := 83) (q := (yX12_shift, cX12_shift, 8, (some .int), 12)) rfl (show aTab 348 83 = some (.if_icmp .eq 9, 3, 0, 0, 0, 0, 0, 0) from rfl) rfl (t := 92) rfl (cdT (by rw [hx]; show _ = _; rfl))) ?_
    exact hQ _ h0 h1 h2 h4 h5 h6 h7
  | succ j ih =>
    intro i lv hj h0 h1 h2 h4 h5 h6 h7
    obtain ⟨K1, q1⟩ := rhb_run hT hM hg hS hn (la := la) (tw := tw) (who := i) hh hl ht (by omega) (d := 29) (by decide)
    have hne := hlt i (by omega)
    obtain ⟨v, hv⟩ : ∃ v, v = hbV (rH g1 N) N nx h la tw i := ⟨_, rfl⟩
    rw [← hv] at q1 hne
    refine e_then (e_al1 hT (y := 348) (pc := 53) (q := (yX12_shift, cX12_shift, 8, (some .int), 12)) rfl (show aTab 348 53 = some (.aload_n 0, 1, 0, 0, 0, 0, 0, 0) from rfl) rfl h0) ?_
    refine e_then (e_il2 hT (y := 348) (pc := 54) (q := (yX12_shift, cX12_shift, 8, (some .int), 12)) rfl (show aTab 348 54 = some (.iload 6, 2, 0, 0, 0, 0, 0, 0) from rfl) rfl h6) ?_
    refine e_then (e_il2 hT (y := 348) (pc := 56) (q := (yX12_shift, cX12_shift, 8, (some .int), 12)) rfl (show aTab 348 56 = some (.iload 4, 2, 0, 0, 0, 0, 0, 0) from rfl) rfl h4) ?_
    refine e_then (e_il2 hT (y := 348) (pc := 58) (q := (yX12_shift, cX12_shift, 8, (some .int), 12)) rfl (show aTab 348 58 = some (.iload 5, 2, 0, 0, 0, 0, 0, 0) from rfl) rfl h5) ?_
    refine e_then (e_il2 hT (y := 348) (pc := 60) (q := (yX12_shift, cX12_shift, 8, (some .int), 12)) rfl (show aTab 348 60 = some (.iload 7, 2, 0, 0, 0, 0, 0, 0) from rfl) rfl h7) ?_
    refine e_then (e_call hT (y := 348) (pc := 62) (q := (yX12_shift, cX12_shift, 8, (some .int), 12)) rfl (show aTab 348 62 = some (.invokevirtual 383, 3, 1, 345, 0, 4, 6, 12) from rfl) rfl ⟨by decide, Nat.le_of_ble_eq_true rfl⟩ (ob_at hM (rfl : tTy 119 = some (.inr (12, _)))).choose_spec (Nat.le_of_ble_eq_true rfl) (Nat.le_of_ble_eq_true rfl) ⟨by decide, by decide⟩ q1) ?_
    refine e_then (e_al1 hT (y := 348) (pc := 65) (q := (yX12_shift, cX12_shift, 8, (some .int), 12)) rfl (show aTab 348 65 = some (.aload_n 0, 1, 0, 0, 0, 0, 0, 0) from rfl) rfl h0) ?_
    refine e_then (e_getR hT (y := 348) (pc := 66) (q := (yX12_shift, cX12_shift, 8, (some .int), 12)) rfl (show aTab 348 66 = some (.getfield 55, 3, 0, 12, 30, 0, 0, 0) from rfl) rfl (by decide) (by decide) hM rfl rfl) ?_
    refine e_then (e_st hT (y := 348) (pc := 69) (q := (yX12_shift, cX12_shift, 8, (some .int), 12)) rfl (show aTab 348 69 = some (.bipush 14, 2, 0, 0, 0, 0, 0, 0) from rfl) (fr' := (348, 71, lv, [.int 14, .ref 144, .int v])) (M' := M) rfl) ?_
    refine e_then (e_il2 hT (y := 348) (pc := 71) (q := (yX12_shift, cX12_shift, 8, (some .int), 12)) rfl (show aTab 348 71 = some (.iload 6, 2, 0, 0, 0, 0, 0, 0) from rfl) rfl h6) ?_
    refine e_then (e_st hT (y := 348) (pc := 73) (q := (yX12_shift, cX12_shift, 8, (some .int), 12)) rfl (show aTab 348 73 = some (.imul, 1, 0, 0, 0, 0, 0, 0) from rfl) (fr' := (348, 74, lv, [.int (14 * (Int32.ofNat h)), .ref 144, .int v])) (M' := M) rfl) ?_
    refine e_then (e_st hT (y := 348) (pc := 74) (q := (yX12_shift, cX12_shift, 8, (some .int), 12)) rfl (show aTab 348 74 = some (.iconst 2, 1, 0, 0, 0, 0, 0, 0) from rfl) (fr' := (348, 75, lv, [.int 2, .int (14 * (Int32.ofNat h)), .ref 144, .int v])) (M' := M) rfl) ?_
    refine e_then (e_il2 hT (y := 348) (pc := 75) (q := (yX12_shift, cX12_shift, 8, (some .int), 12)) rfl (show aTab 348 75 = some (.iload 4, 2, 0, 0, 0, 0, 0, 0) from rfl) rfl h4) ?_
    refine e_then (e_st hT (y := 348) (pc := 77) (q := (yX12_shift, cX12_shift, 8, (some .int), 12)) rfl (show aTab 348 77 = some (.imul, 1, 0, 0, 0, 0, 0, 0) from rfl) (fr' := (348, 78, lv, [.int (2 * (Int32.ofNat la)), .int (14 * (Int32.ofNat h)), .ref 144, .int v])) (M' := M) rfl) ?_
    refine e_then (e_st hT (y := 348) (pc := 78) (q := (yX12_shift, cX12_shift, 8, (some .int), 12)) rfl (show aTab 348 78 = some (.iadd, 1, 0, 0, 0, 0, 0, 0) from rfl) (fr' := (348, 79, lv, [.int ((14 * (Int32.ofNat h)) + (2 * (Int32.ofNat la))), .ref 144, .int v])) (M' := M) rfl) ?_
    refine e_then (e_il2 hT (y := 348) (pc := 79) (q := (yX12_shift, cX12_shift, 8, (some .int), 12)) rfl (show aTab 348 79 = some (.iload 5, 2, 0, 0, 0, 0, 0, 0) from rfl) rfl h5) ?_
    refine e_then (e_st hT (y := 348) (pc := 81) (q := (yX12_shift, cX12_shift, 8, (some .int), 12)) rfl (show aTab 348 81 = some (.iadd, 1, 0, 0, 0, 0, 0, 0) from rfl) (fr' := (348, 82, lv, [.int (((14 * (Int32.ofNat h)) + (2 * (Int32.ofNat la))) + (Int32.ofNat tw)), .ref 144, .int v])) (M' := M) rfl) ?_
    refine e_then (s_ald hT (y := 348) (pc := 82) (q := (yX12_shift, cX12_shift, 8, (some .int), 12)) rfl (show aTab 348 82 = some (.iaload, 1, 0, 0, 0, 0, 0, 0) from rfl) rfl hM hg 135 (14 * h + (2 * la + tw)) rfl (rix6 hh hl ht) (by omega)) ?_
    refine e_then (e_icF hT (y := 348) (pc := 83) (q := (yX12_shift, cX12_shift, 8, (some .int), 12)) rfl (show aTab 348 83 = some (.if_icmp .eq 9, 3, 0, 0, 0, 0, 0, 0) from rfl) rfl (t := 92) rfl (cdF (by rw [hx]; show ¬ _ = _; exact fun z => hne (Int32.toInt_inj.mp z)))) ?_
    refine e_then (e_ii hT (y := 348) (pc := 86) (q := (yX12_shift, cX12_shift, 8, (some .int), 12)) rfl (show aTab 348 86 = some (.iinc 7 1, 3, 0, 0, 0, 0, 0, 0) from rfl) ⟨rfl, by decide⟩ h7) ?_
    refine e_then (e_st hT (y := 348) (pc := 89) (q := (yX12_shift, cX12_shift, 8, (some .int), 12)) rfl (show aTab 348 89 = some (.goto (-36), 3, 0, 0, 0, 0, 0, 0) from rfl) (fr' := (348, 53, (mlp 7 (.int ((Int32.ofNat i) + Int32.ofInt 1)) lv), [])) (M' := M) rfl) ?_
    rw [os1 (by omega)]
    exact ih (i + 1) _ (by omega) (mlg_r h0 (by decide)) (mlg_i h1 (by decide)) (mlg_i h2 (by decide)) (mlg_i h4 (by decide)) (mlg_i h5 (by decide)) (mlg_i h6 (by decide)) (mlg_eq 7 _ _)
theorem rso_loop (hT : aTabOk) {M : mHe} (hM : yTy M) {g : Nat → Nat → Int32} {N n u : Nat} (hS : rOkS g N) (hn8 : n ≤ 8) (hu : u < n) (hB : shTB 135 (rH g N) g N n (rdI M) 0) : ∀ (j h : Nat) (lv : List (Nat × Value)), h + j = u + 1 → mlg 0 lv = some (.ref 128) → mlg 1 lv = some (.int (Int32.ofNat n)) → mlg 2 lv = some (.int (Int32.ofNat u)) → mlg 4 lv = some (.int (Int32.ofNat (goV (rH g N) N n h).1)) → mlg 5 lv = some (.int (Int32.ofNat (goV (rH g N) N n h).2)) → mlg 6 lv = some (.int (Int32.ofNat h)) → mEv none 30 (348, 44, lv, []) M (fun r M' => r = some (.int (shA (rH g N) N n u)) ∧ M' = M) := by
  have e6 : (6 : Int32).toInt = 6 := rfl
  have eu := i32n (k := u) (by omega)
  have hb6 := rH_6 hS
  have hb1 := rH_b hS
  obtain ⟨ok1, rH1⟩ := rOk_eq (N := N) hB.1
  intro j
  induction j with
  | zero =>
    intro h lv hj h0 h1 h2 h4 h5 h6
    have hj : h = u + 1 := by omega
    subst hj
    have eh := i32n (k := u + 1) (by omega)
    have hl := (goV_b (H := rH g N) (N := N) (n := n) (u + 1)).2 hb1 hb6 hn8 (by omega)
    unfold shA
    obtain ⟨w, hw⟩ : ∃ w, w = (goV (rH g N) N n (u + 1)).1 := ⟨_, rfl⟩
    rw [← hw] at h4 hl ⊢
    have ew := i32n (k := w) (by omega)
    by_cases c1 : w = 6
    · rw [if_pos c1]
      refine e_then (e_il2 hT (y := 348) (pc := 44) (q := (yX12_shift, cX12_shift, 8, (some .int), 12)) rfl (show aTab 348 44 = some (.iload 6, 2, 0, 0, 0, 0, 0, 0) from rfl) rfl h6) ?_
      refine e_then (e_il1 hT (y := 348) (pc := 46) (q := (yX12_shift, cX12_shift, 8, (some .int), 12)) rfl (show aTab 348 46 = some (.iload_n 2, 1, 0, 0, 0, 0, 0, 0) from rfl) rfl h2) ?_
      refine e_then (e_icT hT (y := 348) (pc := 47) (q := (yX12_shift, cX12_shift, 8, (some .int), 12)) rfl (show aTab 348 47 = some (.if_icmp .gt 76, 3, 0, 0, 0, 0, 0, 0) from rfl) rfl (t := 123) rfl (cdT (by show _ < _; omega))) ?_
      refine e_then (e_il2 hT (y := 348) (pc := 123) (q := (yX12_shift, cX12_shift, 8, (some .int), 12)) rfl (show aTab 348 123 = some (.iload 4, 2, 0, 0, 0, 0, 0, 0) from rfl) rfl h4) ?_
      refine e_then (e_st hT (y := 348) (pc := 125) (q := (yX12_shift, cX12_shift, 8, (some .int), 12)) rfl (show aTab 348 125 = some (.bipush 6, 2, 0, 0, 0, 0, 0, 0) from rfl) (fr' := (348, 127, lv, [.int 6, .int (Int32.ofNat w)])) (M' := M) rfl) ?_
      refine e_then (e_icF hT (y := 348) (pc := 127) (q := (yX12_shift, cX12_shift, 8, (some .int), 12)) rfl (show aTab 348 127 = some (.if_icmp .ne 8, 3, 0, 0, 0, 0, 0, 0) from rfl) rfl (t := 135) rfl (cdF (by show ¬ ¬ _ = _; omega))) ?_
      refine e_then (e_st hT (y := 348) (pc := 130) (q := (yX12_shift, cX12_shift, 8, (some .int), 12)) rfl (show aTab 348 130 = some (.ldc 64, 2, 7, 0, (-1000000005), 0, 0, 0) from rfl) (fr' := (348, 132, lv, [.int (-1000000005)])) (M' := M) rfl) ?_
      refine e_then (e_st hT (y := 348) (pc := 132) (q := (yX12_shift, cX12_shift, 8, (some .int), 12)) rfl (show aTab 348 132 = some (.goto 5, 3, 0, 0, 0, 0, 0, 0) from rfl) (fr' := (348, 137, lv, [.int (-1000000005)])) (M' := M) rfl) ?_
      exact e_fin (e_iret hT (y := 348) (pc := 137) (q := (yX12_shift, cX12_shift, 8, (some .int), 12)) rfl (show aTab 348 137 = some (.ireturn, 1, 0, 0, 0, 0, 0, 0) from rfl) ⟨rfl, rfl⟩) ⟨rfl, rfl⟩
    · rw [if_neg c1]
      refine e_then (e_il2 hT (y := 348) (pc := 44) (q := (yX12_shift, cX12_shift, 8, (some .int), 12)) rfl (show aTab 348 44 = some (.iload 6, 2, 0, 0, 0, 0, 0, 0) from rfl) rfl h6) ?_
      refine e_then (e_il1 hT (y := 348) (pc := 46) (q := (yX12_shift, cX12_shift, 8, (some .int), 12)) rfl (show aTab 348 46 = some (.iload_n 2, 1, 0, 0, 0, 0, 0, 0) from rfl) rfl h2) ?_
      refine e_then (e_icT hT (y := 348) (pc := 47) (q := (yX12_shift, cX12_shift, 8, (some .int), 12)) rfl (show aTab 348 47 = some (.if_icmp .gt 76, 3, 0, 0, 0, 0, 0, 0) from rfl) rfl (t := 123) rfl (cdT (by show _ < _; omega))) ?_
      refine e_then (e_il2 hT (y := 348) (pc := 123) (q := (yX12_shift, cX12_shift, 8, (some .int), 12)) rfl (show aTab 348 123 = some (.iload 4, 2, 0, 0, 0, 0, 0, 0) from rfl) rfl h4) ?_
      refine e_then (e_st hT (y := 348) (pc := 125) (q := (yX12_shift, cX12_shift, 8, (some .int), 12)) rfl (show aTab 348 125 = some (.bipush 6, 2, 0, 0, 0, 0, 0, 0) from rfl) (fr' := (348, 127, lv, [.int 6, .int (Int32.ofNat w)])) (M' := M) rfl) ?_
      refine e_then (e_icT hT (y := 348) (pc := 127) (q := (yX12_shift, cX12_shift, 8, (some .int), 12)) rfl (show aTab 348 127 = some (.if_icmp .ne 8, 3, 0, 0, 0, 0, 0, 0) from rfl) rfl (t := 135) rfl (cdT (by show ¬ _ = _; omega))) ?_
      refine e_then (e_il2 hT (y := 348) (pc := 135) (q := (yX12_shift, cX12_shift, 8, (some .int), 12)) rfl (show aTab 348 135 = some (.iload 4, 2, 0, 0, 0, 0, 0, 0) from rfl) rfl h4) ?_
      exact e_fin (e_iret hT (y := 348) (pc := 137) (q := (yX12_shift, cX12_shift, 8, (some .int), 12)) rfl (show aTab 348 137 = some (.ireturn, 1, 0, 0, 0, 0, 0, 0) from rfl) ⟨rfl, rfl⟩) ⟨rfl, rfl⟩
  | succ j ih =>
    intro h lv hj h0 h1 h2 h4 h5 h6
    have eh := i32n (k := h) (by omega)
    have hl := (goV_b (H := rH g N) (N := N) (n := n) h).2 hb1 hb6 hn8 (by omega)
    have ht := (goV_b (H := rH g N) (N := N) (n := n) h).1
    have hl' := (goV_b (H := rH g N) (N := N) (n := n) (h + 1)).2 hb1 hb6 hn8 (by omega)
    obtain ⟨s1, s2⟩ := goV_s (H := rH g N) (N := N) (n := n) (h := h) (by omega)
    have ih := ih (h + 1)
    obtain ⟨la, hla⟩ : ∃ x, x = (goV (rH g N) N n h).1 := ⟨_, rfl⟩
    obtain ⟨tw, htw⟩ : ∃ x, x = (goV (rH g N) N n h).2 := ⟨_, rfl⟩
    obtain ⟨w, hw⟩ : ∃ x, x = (goV (rH g N) N n (h + 1)).1 := ⟨_, rfl⟩
    obtain ⟨tw', htw'⟩ : ∃ x, x = (goV (rH g N) N n (h + 1)).2 := ⟨_, rfl⟩
    rw [← hw, ← htw'] at ih
    rw [← hla, ← htw, ← hw] at s1
    rw [← hw, ← hla, ← htw'] at s2
    rw [← hla] at h4 hl
    rw [← htw] at h5 ht
    rw [← hw] at hl'
    have ew := i32n (k := w) (by omega)
    have el := i32n (k := la) (by omega)
    have hrow := hB.2 h (by omega) (by omega) (2 * la + tw) (by omega)
    obtain ⟨wm, wm1, wm2⟩ := mxV_who (N := N) (n := n) hb1 hb6 (d := n - (h + 1)) (h := h) (la := la) (tw := tw) (by omega)
    have hmx : mxV (hbV (rH g N) N (rowV (rH g N) N n (n - (h + 1))) h la tw) 7 = rowV (rH g N) N n (n - h) (2 * la + tw) := by
      rw [rowV_s (by omega), show (2 * la + tw) / 2 = la by omega, show (2 * la + tw) % 2 = tw by omega]
    obtain ⟨f1, f2, f3, f4⟩ := fsV_at 6 0 (x := rowV (rH g N) N n (n - h) (2 * la + tw)) (v := hbV (rH g N) N (rowV (rH g N) N n (n - (h + 1))) h la tw) ⟨wm, by omega, by omega, by rw [wm2, hmx]⟩
    rw [← s1] at f1 f4
    rw [← rH1] at f1 f4
    refine e_then (e_il2 hT (y := 348) (pc := 44) (q := (yX12_shift, cX12_shift, 8, (some .int), 12)) rfl (show aTab 348 44 = some (.iload 6, 2, 0, 0, 0, 0, 0, 0) from rfl) rfl h6) ?_
    refine e_then (e_il1 hT (y := 348) (pc := 46) (q := (yX12_shift, cX12_shift, 8, (some .int), 12)) rfl (show aTab 348 46 = some (.iload_n 2, 1, 0, 0, 0, 0, 0, 0) from rfl) rfl h2) ?_
    refine e_then (e_icF hT (y := 348) (pc := 47) (q := (yX12_shift, cX12_shift, 8, (some .int), 12)) rfl (show aTab 348 47 = some (.if_icmp .gt 76, 3, 0, 0, 0, 0, 0, 0) from rfl) rfl (t := 123) rfl (cdF (by show ¬ _ < _; omega))) ?_
    refine e_then (e_st hT (y := 348) (pc := 50) (q := (yX12_shift, cX12_shift, 8, (some .int), 12)) rfl (show aTab 348 50 = some (.iconst 0, 1, 0, 0, 0, 0, 0, 0) from rfl) (fr' := (348, 51, lv, [.int 0])) (M' := M) rfl) ?_
    refine e_then (e_is2 hT (y := 348) (pc := 51) (q := (yX12_shift, cX12_shift, 8, (some .int), 12)) rfl (show aTab 348 51 = some (.istore 7, 2, 0, 0, 0, 0, 0, 0) from rfl) ⟨rfl, by decide⟩) ?_
    refine rsi_loop hT hM rfl (ok1 hS) (fun k hk => hB.2 (h + 1) (by omega) (by omega) k hk) (by omega) hl ht (x := rowV (rH (rdI M) N) N n (n - h) (2 * la + tw)) (by rw [rH1]; exact hrow) (w := w) hl' (by rw [rH1] at f1 ⊢; exact f1) (fun i hi => by rw [rH1] at f4 ⊢; exact f4 i (by omega) hi) (n := n) (u := u) (fun lv' g0 g1 g2 g4 g5 g6 g7 => ?_) w 0 _ (by omega) (mlg_r h0 (by decide)) (mlg_i h1 (by decide)) (mlg_i h2 (by decide)) (mlg_i h4 (by decide)) (mlg_i h5 (by decide)) (mlg_i h6 (by decide)) (mlg_eq 7 _ _)
    by_cases c1 : w = la
    · by_cases c2 : w = 6
      · have s2' : tw' = 0 := by rw [s2, if_neg (fun z => by omega)]
        refine e_then (e_il2 hT (y := 348) (pc := 92) (q := (yX12_shift, cX12_shift, 8, (some .int), 12)) rfl (show aTab 348 92 = some (.iload 7, 2, 0, 0, 0, 0, 0, 0) from rfl) rfl g7) ?_
        refine e_then (e_il2 hT (y := 348) (pc := 94) (q := (yX12_shift, cX12_shift, 8, (some .int), 12)) rfl (show aTab 348 94 = some (.iload 4, 2, 0, 0, 0, 0, 0, 0) from rfl) rfl g4) ?_
        refine e_then (e_icF hT (y := 348) (pc := 96) (q := (yX12_shift, cX12_shift, 8, (some .int), 12)) rfl (show aTab 348 96 = some (.if_icmp .ne 14, 3, 0, 0, 0, 0, 0, 0) from rfl) rfl (t := 110) rfl (cdF (by show ¬ ¬ _ = _; omega))) ?_
        refine e_then (e_il2 hT (y := 348) (pc := 99) (q := (yX12_shift, cX12_shift, 8, (some .int), 12)) rfl (show aTab 348 99 = some (.iload 7, 2, 0, 0, 0, 0, 0, 0) from rfl) rfl g7) ?_
        refine e_then (e_st hT (y := 348) (pc := 101) (q := (yX12_shift, cX12_shift, 8, (some .int), 12)) rfl (show aTab 348 101 = some (.bipush 6, 2, 0, 0, 0, 0, 0, 0) from rfl) (fr' := (348, 103, lv', [.int 6, .int (Int32.ofNat w)])) (M' := M) rfl) ?_
        refine e_then (e_icT hT (y := 348) (pc := 103) (q := (yX12_shift, cX12_shift, 8, (some .int), 12)) rfl (show aTab 348 103 = some (.if_icmp .ge 7, 3, 0, 0, 0, 0, 0, 0) from rfl) rfl (t := 110) rfl (cdT (by show _ ≤ _; omega))) ?_
        refine e_then (e_st hT (y := 348) (pc := 110) (q := (yX12_shift, cX12_shift, 8, (some .int), 12)) rfl (show aTab 348 110 = some (.iconst 0, 1, 0, 0, 0, 0, 0, 0) from rfl) (fr' := (348, 111, lv', [.int 0])) (M' := M) rfl) ?_
        refine e_then (e_is2 hT (y := 348) (pc := 111) (q := (yX12_shift, cX12_shift, 8, (some .int), 12)) rfl (show aTab 348 111 = some (.istore 5, 2, 0, 0, 0, 0, 0, 0) from rfl) ⟨rfl, by decide⟩) ?_
        refine e_then (e_il2 hT (y := 348) (pc := 113) (q := (yX12_shift, cX12_shift, 8, (some .int), 12)) rfl (show aTab 348 113 = some (.iload 7, 2, 0, 0, 0, 0, 0, 0) from rfl) rfl (mlg_i g7 (by decide))) ?_
        refine e_then (e_is2 hT (y := 348) (pc := 115) (q := (yX12_shift, cX12_shift, 8, (some .int), 12)) rfl (show aTab 348 115 = some (.istore 4, 2, 0, 0, 0, 0, 0, 0) from rfl) ⟨rfl, by decide⟩) ?_
        refine e_then (e_ii hT (y := 348) (pc := 117) (q := (yX12_shift, cX12_shift, 8, (some .int), 12)) rfl (show aTab 348 117 = some (.iinc 6 1, 3, 0, 0, 0, 0, 0, 0) from rfl) ⟨rfl, by decide⟩ (mlg_i (mlg_i g6 (by decide)) (by decide))) ?_
        refine e_then (e_st hT (y := 348) (pc := 120) (q := (yX12_shift, cX12_shift, 8, (some .int), 12)) rfl (show aTab 348 120 = some (.goto (-76), 3, 0, 0, 0, 0, 0, 0) from rfl) (fr' := (348, 44, (mlp 6 (.int ((Int32.ofNat h) + Int32.ofInt 1)) (mlp 4 (.int (Int32.ofNat w)) (mlp 5 (.int 0) lv'))), [])) (M' := M) rfl) ?_
        rw [os1 (by omega)]
        exact ih _ (by omega) (mlg_r (mlg_r (mlg_r g0 (by decide)) (by decide)) (by decide)) (mlg_i (mlg_i (mlg_i g1 (by decide)) (by decide)) (by decide)) (mlg_i (mlg_i (mlg_i g2 (by decide)) (by decide)) (by decide)) (mlg_i (mlg_eq 4 _ _) (by decide)) (by rw [s2']; exact (mlg_i (mlg_i (mlg_eq 5 _ _) (by decide)) (by decide))) (mlg_eq 6 _ _)
      · have s2' : tw' = 1 := by rw [s2, if_pos ⟨c1, by omega⟩]
        refine e_then (e_il2 hT (y := 348) (pc := 92) (q := (yX12_shift, cX12_shift, 8, (some .int), 12)) rfl (show aTab 348 92 = some (.iload 7, 2, 0, 0, 0, 0, 0, 0) from rfl) rfl g7) ?_
        refine e_then (e_il2 hT (y := 348) (pc := 94) (q := (yX12_shift, cX12_shift, 8, (some .int), 12)) rfl (show aTab 348 94 = some (.iload 4, 2, 0, 0, 0, 0, 0, 0) from rfl) rfl g4) ?_
        refine e_then (e_icF hT (y := 348) (pc := 96) (q := (yX12_shift, cX12_shift, 8, (some .int), 12)) rfl (show aTab 348 96 = some (.if_icmp .ne 14, 3, 0, 0, 0, 0, 0, 0) from rfl) rfl (t := 110) rfl (cdF (by show ¬ ¬ _ = _; omega))) ?_
        refine e_then (e_il2 hT (y := 348) (pc := 99) (q := (yX12_shift, cX12_shift, 8, (some .int), 12)) rfl (show aTab 348 99 = some (.iload 7, 2, 0, 0, 0, 0, 0, 0) from rfl) rfl g7) ?_
        refine e_then (e_st hT (y := 348) (pc := 101) (q := (yX12_shift, cX12_shift, 8, (some .int), 12)) rfl (show aTab 348 101 = some (.bipush 6, 2, 0, 0, 0, 0, 0, 0) from rfl) (fr' := (348, 103, lv', [.int 6, .int (Int32.ofNat w)])) (M' := M) rfl) ?_
        refine e_then (e_icF hT (y := 348) (pc := 103) (q := (yX12_shift, cX12_shift, 8, (some .int), 12)) rfl (show aTab 348 103 = some (.if_icmp .ge 7, 3, 0, 0, 0, 0, 0, 0) from rfl) rfl (t := 110) rfl (cdF (by show ¬ _ ≤ _; omega))) ?_
        refine e_then (e_st hT (y := 348) (pc := 106) (q := (yX12_shift, cX12_shift, 8, (some .int), 12)) rfl (show aTab 348 106 = some (.iconst 1, 1, 0, 0, 0, 0, 0, 0) from rfl) (fr' := (348, 107, lv', [.int 1])) (M' := M) rfl) ?_
        refine e_then (e_st hT (y := 348) (pc := 107) (q := (yX12_shift, cX12_shift, 8, (some .int), 12)) rfl (show aTab 348 107 = some (.goto 4, 3, 0, 0, 0, 0, 0, 0) from rfl) (fr' := (348, 111, lv', [.int 1])) (M' := M) rfl) ?_
        refine e_then (e_is2 hT (y := 348) (pc := 111) (q := (yX12_shift, cX12_shift, 8, (some .int), 12)) rfl (show aTab 348 111 = some (.istore 5, 2, 0, 0, 0, 0, 0, 0) from rfl) ⟨rfl, by decide⟩) ?_
        refine e_then (e_il2 hT (y := 348) (pc := 113) (q := (yX12_shift, cX12_shift, 8, (some .int), 12)) rfl (show aTab 348 113 = some (.iload 7, 2, 0, 0, 0, 0, 0, 0) from rfl) rfl (mlg_i g7 (by decide))) ?_
        refine e_then (e_is2 hT (y := 348) (pc := 115) (q := (yX12_shift, cX12_shift, 8, (some .int), 12)) rfl (show aTab 348 115 = some (.istore 4, 2, 0, 0, 0, 0, 0, 0) from rfl) ⟨rfl, by decide⟩) ?_
        refine e_then (e_ii hT (y := 348) (pc := 117) (q := (yX12_shift, cX12_shift, 8, (some .int), 12)) rfl (show aTab 348 117 = some (.iinc 6 1, 3, 0, 0, 0, 0, 0, 0) from rfl) ⟨rfl, by decide⟩ (mlg_i (mlg_i g6 (by decide)) (by decide))) ?_
        refine e_then (e_st hT (y := 348) (pc := 120) (q := (yX12_shift, cX12_shift, 8, (some .int), 12)) rfl (show aTab 348 120 = some (.goto (-76), 3, 0, 0, 0, 0, 0, 0) from rfl) (fr' := (348, 44, (mlp 6 (.int ((Int32.ofNat h) + Int32.ofInt 1)) (mlp 4 (.int (Int32.ofNat w)) (mlp 5 (.int 1) lv'))), [])) (M' := M) rfl) ?_
        rw [os1 (by omega)]
        exact ih _ (by omega) (mlg_r (mlg_r (mlg_r g0 (by decide)) (by decide)) (by decide)) (mlg_i (mlg_i (mlg_i g1 (by decide)) (by decide)) (by decide)) (mlg_i (mlg_i (mlg_i g2 (by decide)) (by decide)) (by decide)) (mlg_i (mlg_eq 4 _ _) (by decide)) (by rw [s2']; exact (mlg_i (mlg_i (mlg_eq 5 _ _) (by decide)) (by decide))) (mlg_eq 6 _ _)
    · have s2' : tw' = 0 := by rw [s2, if_neg (fun z => c1 z.1)]
      refine e_then (e_il2 hT (y := 348) (pc := 92) (q := (yX12_shift, cX12_shift, 8, (some .int), 12)) rfl (show aTab 348 92 = some (.iload 7, 2, 0, 0, 0, 0, 0, 0) from rfl) rfl g7) ?_
      refine e_then (e_il2 hT (y := 348) (pc := 94) (q := (yX12_shift, cX12_shift, 8, (some .int), 12)) rfl (show aTab 348 94 = some (.iload 4, 2, 0, 0, 0, 0, 0, 0) from rfl) rfl g4) ?_
      refine e_then (e_icT hT (y := 348) (pc := 96) (q := (yX12_shift, cX12_shift, 8, (some .int), 12)) rfl (show aTab 348 96 = some (.if_icmp .ne 14, 3, 0, 0, 0, 0, 0, 0) from rfl) rfl (t := 110) rfl (cdT (by show ¬ _ = _; omega))) ?_
      refine e_then (e_st hT (y := 348) (pc := 110) (q := (yX12_shift, cX12_shift, 8, (some .int), 12)) rfl (show aTab 348 110 = some (.iconst 0, 1, 0, 0, 0, 0, 0, 0) from rfl) (fr' := (348, 111, lv', [.int 0])) (M' := M) rfl) ?_
      refine e_then (e_is2 hT (y := 348) (pc := 111) (q := (yX12_shift, cX12_shift, 8, (some .int), 12)) rfl (show aTab 348 111 = some (.istore 5, 2, 0, 0, 0, 0, 0, 0) from rfl) ⟨rfl, by decide⟩) ?_
      refine e_then (e_il2 hT (y := 348) (pc := 113) (q := (yX12_shift, cX12_shift, 8, (some .int), 12)) rfl (show aTab 348 113 = some (.iload 7, 2, 0, 0, 0, 0, 0, 0) from rfl) rfl (mlg_i g7 (by decide))) ?_
      refine e_then (e_is2 hT (y := 348) (pc := 115) (q := (yX12_shift, cX12_shift, 8, (some .int), 12)) rfl (show aTab 348 115 = some (.istore 4, 2, 0, 0, 0, 0, 0, 0) from rfl) ⟨rfl, by decide⟩) ?_
      refine e_then (e_ii hT (y := 348) (pc := 117) (q := (yX12_shift, cX12_shift, 8, (some .int), 12)) rfl (show aTab 348 117 = some (.iinc 6 1, 3, 0, 0, 0, 0, 0, 0) from rfl) ⟨rfl, by decide⟩ (mlg_i (mlg_i g6 (by decide)) (by decide))) ?_
      refine e_then (e_st hT (y := 348) (pc := 120) (q := (yX12_shift, cX12_shift, 8, (some .int), 12)) rfl (show aTab 348 120 = some (.goto (-76), 3, 0, 0, 0, 0, 0, 0) from rfl) (fr' := (348, 44, (mlp 6 (.int ((Int32.ofNat h) + Int32.ofInt 1)) (mlp 4 (.int (Int32.ofNat w)) (mlp 5 (.int 0) lv'))), [])) (M' := M) rfl) ?_
      rw [os1 (by omega)]
      exact ih _ (by omega) (mlg_r (mlg_r (mlg_r g0 (by decide)) (by decide)) (by decide)) (mlg_i (mlg_i (mlg_i g1 (by decide)) (by decide)) (by decide)) (mlg_i (mlg_i (mlg_i g2 (by decide)) (by decide)) (by decide)) (mlg_i (mlg_eq 4 _ _) (by decide)) (by rw [s2']; exact (mlg_i (mlg_i (mlg_eq 5 _ _) (by decide)) (by decide))) (mlg_eq 6 _ _)
theorem rshift_run (hT : aTabOk) {M : mHe} (hM : yTy M) {g : Nat → Nat → Int32} (hg : rdI M = g) {N : Nat} (hS : rOkS g N) {a b : Int32} {d : Nat} (hd : 40 ≤ d) : ∃ K M' r, mRun none K d (348, 0, lv_args 0 [.ref 128, .int a, .int b], []) M = some (some (.int r), M') ∧ yTy M' ∧ (∀ c k, c ≠ 135 → rdI M' c k = g c k) ∧ (shOk a b → r = shA (rH g N) N a.toInt.toNat b.toInt.toNat) ∧ (¬ shOk a b → r = -1000000001) := by
  have e1 : (1 : Int32).toInt = 1 := rfl
  obtain ⟨K1, q1⟩ := isIn_i hT (M := M) (v := a) (l := Int64.ofNat 1) (h := Int64.ofInt 8) (d := 39) (by decide)
  obtain ⟨K2, q2⟩ := isIn_i hT (M := M) (v := b) (l := Int64.ofNat 0) (h := (a - 1).toInt64) (d := 39) (by decide)
  rw [show (Int64.ofNat 1).toInt = 1 from rfl, show (Int64.ofInt 8).toInt = 8 from rfl] at q1
  rw [show (Int64.ofNat 0).toInt = 0 from rfl, Int32.toInt_toInt64] at q2
  have go : mEv none 40 (348, 0, lv_args 0 [.ref 128, .int a, .int b], []) M (fun r M' => yTy M' ∧ (∀ c k, c ≠ 135 → rdI M' c k = g c k) ∧ ∃ x, r = some (.int x) ∧ (shOk a b → x = shA (rH g N) N a.toInt.toNat b.toInt.toNat) ∧ (¬ shOk a b → x = -1000000001)) := by
    by_cases c1 : 1 ≤ a.toInt ∧ a.toInt ≤ 8
    · have ha1 : (a - 1).toInt = a.toInt - 1 := by rw [i32_sub (by rw [e1]; omega) (by rw [e1]; omega), e1]
      rw [gB_t c1] at q1
      rw [ha1] at q2
      by_cases c2 : 0 ≤ b.toInt ∧ b.toInt ≤ a.toInt - 1
      · rw [gB_t c2] at q2
        obtain ⟨n, hn⟩ : ∃ n : Nat, (n : Int) = a.toInt := ⟨a.toInt.toNat, by omega⟩
        obtain ⟨u, hu⟩ : ∃ u : Nat, (u : Int) = b.toInt := ⟨b.toInt.toNat, by omega⟩
        have ha : a = Int32.ofNat n := i32eq (by rw [i32n (by omega)]; omega)
        have hb : b = Int32.ofNat u := i32eq (by rw [i32n (by omega)]; omega)
        have hok : shOk a b := ⟨c1, c2⟩
        have en : a.toInt.toNat = n := by omega
        have eu : b.toInt.toNat = u := by omega
        rw [en, eu]
        obtain ⟨K3, M2, q3, t2, hB⟩ := rfs_run hT hM hg hS (n := n) (by omega) (d := 39) (by decide)
        rw [ha] at q1 q2 ⊢
        rw [hb] at q2 ⊢
        refine e_then (e_il1 hT (y := 348) (pc := 0) (q := (yX12_shift, cX12_shift, 8, (some .int), 12)) rfl (show aTab 348 0 = some (.iload_n 1, 1, 0, 0, 0, 0, 0, 0) from rfl) rfl rfl) ?_
        refine e_then (e_st hT (y := 348) (pc := 1) (q := (yX12_shift, cX12_shift, 8, (some .int), 12)) rfl (show aTab 348 1 = some (.i2l, 1, 0, 0, 0, 0, 0, 0) from rfl) (fr' := (348, 2, (lv_args 0 [.ref 128, .int (Int32.ofNat n), .int (Int32.ofNat u)]), [.long ((Int32.ofNat n)).toInt64])) (M' := M) rfl) ?_
        refine e_then (e_st hT (y := 348) (pc := 2) (q := (yX12_shift, cX12_shift, 8, (some .int), 12)) rfl (show aTab 348 2 = some (.lconst 1, 1, 0, 0, 0, 0, 0, 0) from rfl) (fr' := (348, 3, (lv_args 0 [.ref 128, .int (Int32.ofNat n), .int (Int32.ofNat u)]), [.long (Int64.ofNat 1), .long ((Int32.ofNat n)).toInt64])) (M' := M) rfl) ?_
        refine e_then (e_st hT (y := 348) (pc := 3) (q := (yX12_shift, cX12_shift, 8, (some .int), 12)) rfl (show aTab 348 3 = some (.ldc2_w 69, 3, 8, 0, 8, 0, 0, 0) from rfl) (fr' := (348, 6, (lv_args 0 [.ref 128, .int (Int32.ofNat n), .int (Int32.ofNat u)]), [.long (Int64.ofInt 8), .long (Int64.ofNat 1), .long ((Int32.ofNat n)).toInt64])) (M' := M) rfl) ?_
        refine e_then (e_calls hT (y := 348) (pc := 6) (q := (yX12_shift, cX12_shift, 8, (some .int), 12)) rfl (show aTab 348 6 = some (.invokestatic 65, 3, 2, 239, 0, 3, 6, 12) from rfl) (Nat.le_of_ble_eq_true rfl) (Nat.le_of_ble_eq_true rfl) (Nat.le_of_ble_eq_true rfl) ⟨by decide, by decide⟩ q1) ?_
        refine e_then (e_ifF hT (y := 348) (pc := 9) (q := (yX12_shift, cX12_shift, 8, (some .int), 12)) rfl (show aTab 348 9 = some (.ifCond .eq 16, 3, 0, 0, 0, 0, 0, 0) from rfl) rfl (t := 25) rfl (cdF (by show ¬ (1 : Int32).toInt = 0; decide))) ?_
        refine e_then (e_il1 hT (y := 348) (pc := 12) (q := (yX12_shift, cX12_shift, 8, (some .int), 12)) rfl (show aTab 348 12 = some (.iload_n 2, 1, 0, 0, 0, 0, 0, 0) from rfl) rfl rfl) ?_
        refine e_then (e_st hT (y := 348) (pc := 13) (q := (yX12_shift, cX12_shift, 8, (some .int), 12)) rfl (show aTab 348 13 = some (.i2l, 1, 0, 0, 0, 0, 0, 0) from rfl) (fr' := (348, 14, (lv_args 0 [.ref 128, .int (Int32.ofNat n), .int (Int32.ofNat u)]), [.long ((Int32.ofNat u)).toInt64])) (M' := M) rfl) ?_
        refine e_then (e_st hT (y := 348) (pc := 14) (q := (yX12_shift, cX12_shift, 8, (some .int), 12)) rfl (show aTab 348 14 = some (.lconst 0, 1, 0, 0, 0, 0, 0, 0) from rfl) (fr' := (348, 15, (lv_args 0 [.ref 128, .int (Int32.ofNat n), .int (Int32.ofNat u)]), [.long (Int64.ofNat 0), .long ((Int32.ofNat u)).toInt64])) (M' := M) rfl) ?_
        refine e_then (e_il1 hT (y := 348) (pc := 15) (q := (yX12_shift, cX12_shift, 8, (some .int), 12)) rfl (show aTab 348 15 = some (.iload_n 1, 1, 0, 0, 0, 0, 0, 0) from rfl) rfl rfl) ?_
        refine e_then (e_st hT (y := 348) (pc := 16) (q := (yX12_shift, cX12_shift, 8, (some .int), 12)) rfl (show aTab 348 16 = some (.iconst 1, 1, 0, 0, 0, 0, 0, 0) from rfl) (fr' := (348, 17, (lv_args 0 [.ref 128, .int (Int32.ofNat n), .int (Int32.ofNat u)]), [.int 1, .int (Int32.ofNat n), .long (Int64.ofNat 0), .long ((Int32.ofNat u)).toInt64])) (M' := M) rfl) ?_
        refine e_then (e_st hT (y := 348) (pc := 17) (q := (yX12_shift, cX12_shift, 8, (some .int), 12)) rfl (show aTab 348 17 = some (.isub, 1, 0, 0, 0, 0, 0, 0) from rfl) (fr' := (348, 18, (lv_args 0 [.ref 128, .int (Int32.ofNat n), .int (Int32.ofNat u)]), [.int ((Int32.ofNat n) - 1), .long (Int64.ofNat 0), .long ((Int32.ofNat u)).toInt64])) (M' := M) rfl) ?_
        refine e_then (e_st hT (y := 348) (pc := 18) (q := (yX12_shift, cX12_shift, 8, (some .int), 12)) rfl (show aTab 348 18 = some (.i2l, 1, 0, 0, 0, 0, 0, 0) from rfl) (fr' := (348, 19, (lv_args 0 [.ref 128, .int (Int32.ofNat n), .int (Int32.ofNat u)]), [.long (((Int32.ofNat n) - 1)).toInt64, .long (Int64.ofNat 0), .long ((Int32.ofNat u)).toInt64])) (M' := M) rfl) ?_
        refine e_then (e_calls hT (y := 348) (pc := 19) (q := (yX12_shift, cX12_shift, 8, (some .int), 12)) rfl (show aTab 348 19 = some (.invokestatic 65, 3, 2, 239, 0, 3, 6, 12) from rfl) (Nat.le_of_ble_eq_true rfl) (Nat.le_of_ble_eq_true rfl) (Nat.le_of_ble_eq_true rfl) ⟨by decide, by decide⟩ q2) ?_
        refine e_then (e_ifT hT (y := 348) (pc := 22) (q := (yX12_shift, cX12_shift, 8, (some .int), 12)) rfl (show aTab 348 22 = some (.ifCond .ne 6, 3, 0, 0, 0, 0, 0, 0) from rfl) rfl (t := 28) rfl (cdT (by show ¬ (1 : Int32).toInt = 0; decide))) ?_
        refine e_then (e_al1 hT (y := 348) (pc := 28) (q := (yX12_shift, cX12_shift, 8, (some .int), 12)) rfl (show aTab 348 28 = some (.aload_n 0, 1, 0, 0, 0, 0, 0, 0) from rfl) rfl rfl) ?_
        refine e_then (e_il1 hT (y := 348) (pc := 29) (q := (yX12_shift, cX12_shift, 8, (some .int), 12)) rfl (show aTab 348 29 = some (.iload_n 1, 1, 0, 0, 0, 0, 0, 0) from rfl) rfl rfl) ?_
        refine e_then (e_call hT (y := 348) (pc := 30) (q := (yX12_shift, cX12_shift, 8, (some .int), 12)) rfl (show aTab 348 30 = some (.invokevirtual 387, 3, 1, 346, 0, 1, 7, 12) from rfl) rfl ⟨by decide, Nat.le_of_ble_eq_true rfl⟩ (ob_at hM (rfl : tTy 119 = some (.inr (12, _)))).choose_spec (Nat.le_of_ble_eq_true rfl) (Nat.le_of_ble_eq_true rfl) ⟨by decide, by decide⟩ q3) ?_
        refine e_then (e_is1 hT (y := 348) (pc := 33) (q := (yX12_shift, cX12_shift, 8, (some .int), 12)) rfl (show aTab 348 33 = some (.istore_n 3, 1, 0, 0, 0, 0, 0, 0) from rfl) ⟨rfl, by decide⟩) ?_
        refine e_then (e_st hT (y := 348) (pc := 34) (q := (yX12_shift, cX12_shift, 8, (some .int), 12)) rfl (show aTab 348 34 = some (.bipush 6, 2, 0, 0, 0, 0, 0, 0) from rfl) (fr' := (348, 36, (mlp 3 (.int (rowV (rH g N) N n n 12)) (lv_args 0 [.ref 128, .int (Int32.ofNat n), .int (Int32.ofNat u)])), [.int 6])) (M' := M2) rfl) ?_
        refine e_then (e_is2 hT (y := 348) (pc := 36) (q := (yX12_shift, cX12_shift, 8, (some .int), 12)) rfl (show aTab 348 36 = some (.istore 4, 2, 0, 0, 0, 0, 0, 0) from rfl) ⟨rfl, by decide⟩) ?_
        refine e_then (e_st hT (y := 348) (pc := 38) (q := (yX12_shift, cX12_shift, 8, (some .int), 12)) rfl (show aTab 348 38 = some (.iconst 0, 1, 0, 0, 0, 0, 0, 0) from rfl) (fr' := (348, 39, (mlp 4 (.int 6) (mlp 3 (.int (rowV (rH g N) N n n 12)) (lv_args 0 [.ref 128, .int (Int32.ofNat n), .int (Int32.ofNat u)]))), [.int 0])) (M' := M2) rfl) ?_
        refine e_then (e_is2 hT (y := 348) (pc := 39) (q := (yX12_shift, cX12_shift, 8, (some .int), 12)) rfl (show aTab 348 39 = some (.istore 5, 2, 0, 0, 0, 0, 0, 0) from rfl) ⟨rfl, by decide⟩) ?_
        refine e_then (e_st hT (y := 348) (pc := 41) (q := (yX12_shift, cX12_shift, 8, (some .int), 12)) rfl (show aTab 348 41 = some (.iconst 0, 1, 0, 0, 0, 0, 0, 0) from rfl) (fr' := (348, 42, (mlp 5 (.int 0) (mlp 4 (.int 6) (mlp 3 (.int (rowV (rH g N) N n n 12)) (lv_args 0 [.ref 128, .int (Int32.ofNat n), .int (Int32.ofNat u)])))), [.int 0])) (M' := M2) rfl) ?_
        refine e_then (e_is2 hT (y := 348) (pc := 42) (q := (yX12_shift, cX12_shift, 8, (some .int), 12)) rfl (show aTab 348 42 = some (.istore 6, 2, 0, 0, 0, 0, 0, 0) from rfl) ⟨rfl, by decide⟩) ?_
        obtain ⟨K4, r4, M4, q4, rfl, rfl⟩ := rso_loop hT t2 (n := n) (u := u) hS (by omega) (by omega) hB (u + 1) 0 (mlp 6 (.int 0) (mlp 5 (.int 0) (mlp 4 (.int 6) (mlp 3 (.int (rowV (rH g N) N n n 12)) (lv_args 0 [.ref 128, .int (Int32.ofNat n), .int (Int32.ofNat u)]))))) (by omega) (mlg_r (mlg_r (mlg_r (mlg_r rfl (by decide)) (by decide)) (by decide)) (by decide)) (mlg_i (mlg_i (mlg_i (mlg_i rfl (by decide)) (by decide)) (by decide)) (by decide)) (mlg_i (mlg_i (mlg_i (mlg_i rfl (by decide)) (by decide)) (by decide)) (by decide)) (mlg_i (mlg_i (mlg_eq 4 _ _) (by decide)) (by decide)) (mlg_i (mlg_eq 5 _ _) (by decide)) (mlg_eq 6 _ _)
        refine ⟨K4, _, _, mRun_dm q4 (by decide), t2, hB.1, _, rfl, fun _ => rfl, fun z => absurd hok (by rw [ha, hb]; exact z)⟩
      · rw [gB_f c2] at q2
        refine e_then (e_il1 hT (y := 348) (pc := 0) (q := (yX12_shift, cX12_shift, 8, (some .int), 12)) rfl (show aTab 348 0 = some (.iload_n 1, 1, 0, 0, 0, 0, 0, 0) from rfl) rfl rfl) ?_
        refine e_then (e_st hT (y := 348) (pc := 1) (q := (yX12_shift, cX12_shift, 8, (some .int), 12)) rfl (show aTab 348 1 = some (.i2l, 1, 0, 0, 0, 0, 0, 0) from rfl) (fr' := (348, 2, (lv_args 0 [.ref 128, .int a, .int b]), [.long (a).toInt64])) (M' := M) rfl) ?_
        refine e_then (e_st hT (y := 348) (pc := 2) (q := (yX12_shift, cX12_shift, 8, (some .int), 12)) rfl (show aTab 348 2 = some (.lconst 1, 1, 0, 0, 0, 0, 0, 0) from rfl) (fr' := (348, 3, (lv_args 0 [.ref 128, .int a, .int b]), [.long (Int64.ofNat 1), .long (a).toInt64])) (M' := M) rfl) ?_
        refine e_then (e_st hT (y := 348) (pc := 3) (q := (yX12_shift, cX12_shift, 8, (some .int), 12)) rfl (show aTab 348 3 = some (.ldc2_w 69, 3, 8, 0, 8, 0, 0, 0) from rfl) (fr' := (348, 6, (lv_args 0 [.ref 128, .int a, .int b]), [.long (Int64.ofInt 8), .long (Int64.ofNat 1), .long (a).toInt64])) (M' := M) rfl) ?_
        refine e_then (e_calls hT (y := 348) (pc := 6) (q := (yX12_shift, cX12_shift, 8, (some .int), 12)) rfl (show aTab 348 6 = some (.invokestatic 65, 3, 2, 239, 0, 3, 6, 12) from rfl) (Nat.le_of_ble_eq_true rfl) (Nat.le_of_ble_eq_true rfl) (Nat.le_of_ble_eq_true rfl) ⟨by decide, by decide⟩ q1) ?_
        refine e_then (e_ifF hT (y := 348) (pc := 9) (q := (yX12_shift, cX12_shift, 8, (some .int), 12)) rfl (show aTab 348 9 = some (.ifCond .eq 16, 3, 0, 0, 0, 0, 0, 0) from rfl) rfl (t := 25) rfl (cdF (by show ¬ (1 : Int32).toInt = 0; decide))) ?_
        refine e_then (e_il1 hT (y := 348) (pc := 12) (q := (yX12_shift, cX12_shift, 8, (some .int), 12)) rfl (show aTab 348 12 = some (.iload_n 2, 1, 0, 0, 0, 0, 0, 0) from rfl) rfl rfl) ?_
        refine e_then (e_st hT (y := 348) (pc := 13) (q := (yX12_shift, cX12_shift, 8, (some .int), 12)) rfl (show aTab 348 13 = some (.i2l, 1, 0, 0, 0, 0, 0, 0) from rfl) (fr' := (348, 14, (lv_args 0 [.ref 128, .int a, .int b]), [.long (b).toInt64])) (M' := M) rfl) ?_
        refine e_then (e_st hT (y := 348) (pc := 14) (q := (yX12_shift, cX12_shift, 8, (some .int), 12)) rfl (show aTab 348 14 = some (.lconst 0, 1, 0, 0, 0, 0, 0, 0) from rfl) (fr' := (348, 15, (lv_args 0 [.ref 128, .int a, .int b]), [.long (Int64.ofNat 0), .long (b).toInt64])) (M' := M) rfl) ?_
        refine e_then (e_il1 hT (y := 348) (pc := 15) (q := (yX12_shift, cX12_shift, 8, (some .int), 12)) rfl (show aTab 348 15 = some (.iload_n 1, 1, 0, 0, 0, 0, 0, 0) from rfl) rfl rfl) ?_
        refine e_then (e_st hT (y := 348) (pc := 16) (q := (yX12_shift, cX12_shift, 8, (some .int), 12)) rfl (show aTab 348 16 = some (.iconst 1, 1, 0, 0, 0, 0, 0, 0) from rfl) (fr' := (348, 17, (lv_args 0 [.ref 128, .int a, .int b]), [.int 1, .int a, .long (Int64.ofNat 0), .long (b).toInt64])) (M' := M) rfl) ?_
        refine e_then (e_st hT (y := 348) (pc := 17) (q := (yX12_shift, cX12_shift, 8, (some .int), 12)) rfl (show aTab 348 17 = some (.isub, 1, 0, 0, 0, 0, 0, 0) from rfl) (fr' := (348, 18, (lv_args 0 [.ref 128, .int a, .int b]), [.int (a - 1), .long (Int64.ofNat 0), .long (b).toInt64])) (M' := M) rfl) ?_
        refine e_then (e_st hT (y := 348) (pc := 18) (q := (yX12_shift, cX12_shift, 8, (some .int), 12)) rfl (show aTab 348 18 = some (.i2l, 1, 0, 0, 0, 0, 0, 0) from rfl) (fr' := (348, 19, (lv_args 0 [.ref 128, .int a, .int b]), [.long ((a - 1)).toInt64, .long (Int64.ofNat 0), .long (b).toInt64])) (M' := M) rfl) ?_
        refine e_then (e_calls hT (y := 348) (pc := 19) (q := (yX12_shift, cX12_shift, 8, (some .int), 12)) rfl (show aTab 348 19 = some (.invokestatic 65, 3, 2, 239, 0, 3, 6, 12) from rfl) (Nat.le_of_ble_eq_true rfl) (Nat.le_of_ble_eq_true rfl) (Nat.le_of_ble_eq_true rfl) ⟨by decide, by decide⟩ q2) ?_
        refine e_then (e_ifF hT (y := 348) (pc := 22) (q := (yX12_shift, cX12_shift, 8, (some .int), 12)) rfl (show aTab 348 22 = some (.ifCond .ne 6, 3, 0, 0, 0, 0, 0, 0) from rfl) rfl (t := 28) rfl (cdF (by show ¬ ¬ (0 : Int32).toInt = 0; decide))) ?_
        refine e_then (e_st hT (y := 348) (pc := 25) (q := (yX12_shift, cX12_shift, 8, (some .int), 12)) rfl (show aTab 348 25 = some (.ldc 89, 2, 7, 0, (-1000000001), 0, 0, 0) from rfl) (fr' := (348, 27, (lv_args 0 [.ref 128, .int a, .int b]), [.int (-1000000001)])) (M' := M) rfl) ?_
        exact e_fin (e_iret hT (y := 348) (pc := 27) (q := (yX12_shift, cX12_shift, 8, (some .int), 12)) rfl (show aTab 348 27 = some (.ireturn, 1, 0, 0, 0, 0, 0, 0) from rfl) ⟨rfl, rfl⟩) ⟨hM, fun c k _ => by rw [hg], _, rfl, fun z => absurd z.2 c2, fun _ => rfl⟩
    · rw [gB_f c1] at q1
      refine e_then (e_il1 hT (y := 348) (pc := 0) (q := (yX12_shift, cX12_shift, 8, (some .int), 12)) rfl (show aTab 348 0 = some (.iload_n 1, 1, 0, 0, 0, 0, 0, 0) from rfl) rfl rfl) ?_
      refine e_then (e_st hT (y := 348) (pc := 1) (q := (yX12_shift, cX12_shift, 8, (some .int), 12)) rfl (show aTab 348 1 = some (.i2l, 1, 0, 0, 0, 0, 0, 0) from rfl) (fr' := (348, 2, (lv_args 0 [.ref 128, .int a, .int b]), [.long (a).toInt64])) (M' := M) rfl) ?_
      refine e_then (e_st hT (y := 348) (pc := 2) (q := (yX12_shift, cX12_shift, 8, (some .int), 12)) rfl (show aTab 348 2 = some (.lconst 1, 1, 0, 0, 0, 0, 0, 0) from rfl) (fr' := (348, 3, (lv_args 0 [.ref 128, .int a, .int b]), [.long (Int64.ofNat 1), .long (a).toInt64])) (M' := M) rfl) ?_
      refine e_then (e_st hT (y := 348) (pc := 3) (q := (yX12_shift, cX12_shift, 8, (some .int), 12)) rfl (show aTab 348 3 = some (.ldc2_w 69, 3, 8, 0, 8, 0, 0, 0) from rfl) (fr' := (348, 6, (lv_args 0 [.ref 128, .int a, .int b]), [.long (Int64.ofInt 8), .long (Int64.ofNat 1), .long (a).toInt64])) (M' := M) rfl) ?_
      refine e_then (e_calls hT (y := 348) (pc := 6) (q := (yX12_shift, cX12_shift, 8, (some .int), 12)) rfl (show aTab 348 6 = some (.invokestatic 65, 3, 2, 239, 0, 3, 6, 12) from rfl) (Nat.le_of_ble_eq_true rfl) (Nat.le_of_ble_eq_true rfl) (Nat.le_of_ble_eq_true rfl) ⟨by decide, by decide⟩ q1) ?_
      refine e_then (e_ifT hT (y := 348) (pc := 9) (q := (yX12_shift, cX12_shift, 8, (some .int), 12)) rfl (show aTab 348 9 = some (.ifCond .eq 16, 3, 0, 0, 0, 0, 0, 0) from rfl) rfl (t := 25) rfl (cdT (by show (0 : Int32).toInt = 0; rfl))) ?_
      refine e_then (e_st hT (y := 348) (pc := 25) (q := (yX12_shift, cX12_shift, 8, (some .int), 12)) rfl (show aTab 348 25 = some (.ldc 89, 2, 7, 0, (-1000000001), 0, 0, 0) from rfl) (fr' := (348, 27, (lv_args 0 [.ref 128, .int a, .int b]), [.int (-1000000001)])) (M' := M) rfl) ?_
      exact e_fin (e_iret hT (y := 348) (pc := 27) (q := (yX12_shift, cX12_shift, 8, (some .int), 12)) rfl (show aTab 348 27 = some (.ireturn, 1, 0, 0, 0, 0, 0, 0) from rfl) ⟨rfl, rfl⟩) ⟨hM, fun c k _ => by rw [hg], _, rfl, fun z => absurd z.1 c1, fun _ => rfl⟩
  obtain ⟨K, r, M', q, q2, q3, x, rfl, q4, q5⟩ := go
  exact ⟨K, M', x, mRun_dm q hd, q2, q3, q4, q5⟩
theorem hb_cg {H H' : Nat → Nat → Int32} {N : Nat} {nx : Nat → Int32} {h : Nat} (hH : ∀ w, w ≤ 6 → (w < N ∨ w = 6) → H h w = H' h w) : ∀ la tw w, w ≤ 6 → hbV H N nx h la tw w = hbV H' N nx h la tw w := fun la tw w hw => by
  unfold hbV
  by_cases c : w < 6 ∧ (N ≤ w ∨ (w = la ∧ tw = 1))
  · rw [if_pos c, if_pos c]
  · rw [if_neg c, if_neg c, hH w hw (by omega)]
theorem mx_cg {v v' : Nat → Int32} : ∀ n : Nat, (∀ w, w < n → v w = v' w) → mxV v n = mxV v' n := by
  intro n
  induction n with
  | zero => intro _; rfl
  | succ n ih =>
    intro h
    show (if mxV v n < v n then v n else mxV v n) = (if mxV v' n < v' n then v' n else mxV v' n)
    rw [ih (fun w hw => h w (by omega)), h n (by omega)]
theorem fs_cg {v v' : Nat → Int32} {x : Int32} : ∀ (j w : Nat), (∀ u, w ≤ u → u < w + j → v u = v' u) → fsV v x j w = fsV v' x j w := by
  intro j
  induction j with
  | zero => intro w _; rfl
  | succ j ih =>
    intro w h
    show (if v w = x then w else fsV v x j (w + 1)) = (if v' w = x then w else fsV v' x j (w + 1))
    rw [h w (by omega) (by omega), ih (w + 1) (fun u h1 h2 => h u (by omega) (by omega))]
theorem row_cg {H H' : Nat → Nat → Int32} {N n : Nat} (hn : n ≤ 8) (hH : ∀ h, h < 8 → ∀ w, w ≤ 6 → (w < N ∨ w = 6) → H h w = H' h w) : ∀ d, d ≤ n → rowV H N n d = rowV H' N n d := by
  intro d
  induction d with
  | zero => intro _; rfl
  | succ d ih =>
    intro hd
    funext k
    show mxV (hbV H N (rowV H N n d) (n - 1 - d) (k / 2) (k % 2)) 7 = mxV (hbV H' N (rowV H' N n d) (n - 1 - d) (k / 2) (k % 2)) 7
    rw [ih (by omega)]
    exact mx_cg 7 (fun w hw => hb_cg (hH _ (by omega)) _ _ _ (by omega))
theorem go_cg {H H' : Nat → Nat → Int32} {N n : Nat} (hn : n ≤ 8) (hH : ∀ h, h < 8 → ∀ w, w ≤ 6 → (w < N ∨ w = 6) → H h w = H' h w) : ∀ h, h ≤ n → goV H N n h = goV H' N n h := by
  intro h
  induction h with
  | zero => intro _; rfl
  | succ h ih =>
    intro hh
    have e1 : (goV H N n (h + 1)).1 = (goV H' N n (h + 1)).1 := by
      rw [(goV_s (by omega)).1, (goV_s (by omega)).1, ih (by omega), row_cg hn hH _ (by omega), row_cg hn hH _ (by omega)]
      exact fs_cg 6 0 (fun u _ hu => hb_cg (hH _ (by omega)) _ _ _ (by omega))
    have e2 : (goV H N n (h + 1)).2 = (goV H' N n (h + 1)).2 := by
      rw [(goV_s (by omega)).2, (goV_s (by omega)).2, e1, ih (by omega)]
    exact Prod.ext e1 e2
