/-! HAND: who hears, the shift -/
/-- how many one hears in an hour -/
def hrF (f : Nat → Int32) (h who : Nat) : Int32 := if (who : Int) < (f 9).toInt ∧ 0 ≤ (f (3740 + 2 * h)).toInt then f (3440 + 49 * (who : Int) + 7 * (f (3740 + 2 * h)).toInt + (f (3740 + 2 * h + 1)).toInt).toNat else 0
def hbF (f g : Nat → Int32) (h la tw who : Nat) : Int32 := if who < 6 ∧ ((f 9).toInt ≤ (who : Int) ∨ (who = la ∧ tw = 1)) then -1 else hrF f h who + g (14 * (h + 1) + 2 * who + (if who = la ∧ who < 6 then 1 else 0))
theorem hbF_upd {f g : Nat → Int32} {h la tw who i : Nat} {x : Int32} (hi : i < 14 * (h + 1)) : hbF f (upd g i x) h la tw who = hbF f g h la tw who := by
  unfold hbF
  rw [upd_ne g x (by omega)]
/-- what the types say of the tongues of the night -/
abbrev shT (M : mHe) (f g : Nat → Int32) : Prop := M[120]? = some (.inl (4000, f)) ∧ M[135]? = some (.inl (126, g)) ∧ (0 ≤ (f 9).toInt ∧ (f 9).toInt ≤ 6) ∧ ∀ i, i < 16 → -1 ≤ (f (3740 + i)).toInt ∧ (f (3740 + i)).toInt ≤ 6
theorem shT.s {M : mHe} {f g : Nat → Int32} (h : shT M f g) : M[120]? = some (.inl (4000, f)) := h.1
theorem shT.m {M : mHe} {f g : Nat → Int32} (h : shT M f g) : M[135]? = some (.inl (126, g)) := h.2.1
theorem shT.n9 {M : mHe} {f g : Nat → Int32} (h : shT M f g) : 0 ≤ (f 9).toInt ∧ (f 9).toInt ≤ 6 := h.2.2.1
theorem shT.sp {M : mHe} {f g : Nat → Int32} (h : shT M f g) : ∀ i, i < 16 → -1 ≤ (f (3740 + i)).toInt ∧ (f (3740 + i)).toInt ≤ 6 := h.2.2.2
theorem shT_of {M : mHe} (hM : yTy M) : ∃ f g, shT M f g := by
  obtain ⟨f, hs, hf, -⟩ := yTy_arr hM tTy_120
  obtain ⟨g, hg, -, -⟩ := yTy_arr hM (rfl : tTy 135 = some (.inl (126, 0, [])))
  refine ⟨f, g, hs, hg, hf (9, 9, 1, [(0, 6)]) (by decide) 9 (by decide) (by decide) (by decide), fun i hi => ?_⟩
  have h1 := hf (3740, 3755, 1, [(-1, 6)]) (by decide) (3740 + i) (by omega) (by show (3740 : Int) ≤ _; omega) (by show _ ≤ (3755 : Int); omega)
  have h2 : tV1 [(-1, 6)] 1 3740 ((3740 + i : Nat) : Int) = (-1, 6) := by
    unfold tV1
    have : ((((3740 + i : Nat) : Int) - 3740) % Int.ofNat 1).toNat = 0 := by show ((((3740 + i : Nat) : Int) - 3740) % 1).toNat = 0; omega
    rw [this]
    rfl
  rw [h2] at h1
  exact h1
theorem hears_run (hT : aTabOk) {d : Nat} {M : mHe} {f g : Nat → Int32} (hM : yTy M) (hS : shT M f g) {h who : Nat} (hh : h ≤ 7) (hw : who ≤ 6) : ∃ N, mRun none N d (344, 0, lv_args 0 [.ref 128, .int (Int32.ofNat h), .int (Int32.ofNat who)], []) M = some (some (.int (hrF f h who)), M) := by
  have eh := i32n (k := h) (by omega)
  have ew := i32n (k := who) (by omega)
  have c1 : Int32.toInt 3740 = 3740 := rfl
  have c2 : Int32.toInt 2 = 2 := rfl
  have c3 : Int32.toInt 3440 = 3440 := rfl
  have c4 : Int32.toInt 49 = 49 := rfl
  have c5 : Int32.toInt 7 = 7 := rfl
  have c6 : Int32.toInt 1 = 1 := rfl
  have c9 : Int32.toInt 9 = 9 := rfl
  have x1 : ((3740 : Int32) + 2 * Int32.ofNat h).toInt = ((3740 + 2 * h : Nat) : Int) := by
    rw [i32_lin (n := (h : Int)) eh (by rw [c2]; omega) (by rw [c2]; omega) (by rw [c1, c2]; omega) (by rw [c1, c2]; omega), c1, c2]; omega
  have x1' : ((3740 : Int32) + 2 * Int32.ofNat h).toInt.toNat = 3740 + 2 * h := by rw [x1]; rfl
  have x2 : ((3740 : Int32) + 2 * Int32.ofNat h + 1).toInt = ((3740 + 2 * h + 1 : Nat) : Int) := i32_p x1 c6 (by omega) (by omega)
  have x2' : ((3740 : Int32) + 2 * Int32.ofNat h + 1).toInt.toNat = 3740 + 2 * h + 1 := by rw [x2]; rfl
  have s1 := hS.sp (2 * h) (by omega)
  have s2 := hS.sp (2 * h + 1) (by omega)
  rw [← Nat.add_assoc] at s2
  have ho : 0 ≤ ((3740 : Int32) + 2 * Int32.ofNat h).toInt ∧ ((3740 : Int32) + 2 * Int32.ofNat h).toInt < (4000 : Nat) := by rw [x1]; omega
  have ho2 : 0 ≤ ((3740 : Int32) + 2 * Int32.ofNat h + 1).toInt ∧ ((3740 : Int32) + 2 * Int32.ofNat h + 1).toInt < (4000 : Nat) := by rw [x2]; omega
  have ho9 : 0 ≤ (9 : Int32).toInt ∧ (9 : Int32).toInt < (4000 : Nat) := by rw [c9]; omega
  have e9 : (9 : Int32).toInt.toNat = 9 := rfl
  have main : mEv none d (344, 0, lv_args 0 [.ref 128, .int (Int32.ofNat h), .int (Int32.ofNat who)], []) M (fun r M' => r = some (.int (hrF f h who)) ∧ M' = M) := by
    refine e_then (e_al1 hT (y := 344) (pc := 0) (q := (yX12_hears, cX12_hears, 4, (some .int), 12)) rfl (show aTab 344 0 = some (.aload_n 0, 1, 0, 0, 0, 0, 0, 0) from rfl) rfl rfl) ?_
    refine e_then (e_getR hT (y := 344) (pc := 1) (q := (yX12_hears, cX12_hears, 4, (some .int), 12)) rfl (show aTab 344 1 = some (.getfield 7, 3, 0, 12, 0, 0, 0, 0) from rfl) rfl (by decide) (by decide) hM rfl rfl) ?_
    refine e_then (e_st hT (y := 344) (pc := 4) (q := (yX12_hears, cX12_hears, 4, (some .int), 12)) rfl (show aTab 344 4 = some (.sipush 3740, 3, 0, 0, 0, 0, 0, 0) from rfl) (fr' := (344, 7, (lv_args 0 [.ref 128, .int (Int32.ofNat h), .int (Int32.ofNat who)]), [.int 3740, .ref 129])) (M' := M) rfl) ?_
    refine e_then (e_st hT (y := 344) (pc := 7) (q := (yX12_hears, cX12_hears, 4, (some .int), 12)) rfl (show aTab 344 7 = some (.iconst 2, 1, 0, 0, 0, 0, 0, 0) from rfl) (fr' := (344, 8, (lv_args 0 [.ref 128, .int (Int32.ofNat h), .int (Int32.ofNat who)]), [.int 2, .int 3740, .ref 129])) (M' := M) rfl) ?_
    refine e_then (e_il1 hT (y := 344) (pc := 8) (q := (yX12_hears, cX12_hears, 4, (some .int), 12)) rfl (show aTab 344 8 = some (.iload_n 1, 1, 0, 0, 0, 0, 0, 0) from rfl) rfl rfl) ?_
    refine e_then (e_st hT (y := 344) (pc := 9) (q := (yX12_hears, cX12_hears, 4, (some .int), 12)) rfl (show aTab 344 9 = some (.imul, 1, 0, 0, 0, 0, 0, 0) from rfl) (fr' := (344, 10, (lv_args 0 [.ref 128, .int (Int32.ofNat h), .int (Int32.ofNat who)]), [.int (2 * (Int32.ofNat h)), .int 3740, .ref 129])) (M' := M) rfl) ?_
    refine e_then (e_st hT (y := 344) (pc := 10) (q := (yX12_hears, cX12_hears, 4, (some .int), 12)) rfl (show aTab 344 10 = some (.iadd, 1, 0, 0, 0, 0, 0, 0) from rfl) (fr' := (344, 11, (lv_args 0 [.ref 128, .int (Int32.ofNat h), .int (Int32.ofNat who)]), [.int (3740 + (2 * (Int32.ofNat h))), .ref 129])) (M' := M) rfl) ?_
    refine e_then (e_ald hT (y := 344) (pc := 11) (q := (yX12_hears, cX12_hears, 4, (some .int), 12)) rfl (show aTab 344 11 = some (.iaload, 1, 0, 0, 0, 0, 0, 0) from rfl) ⟨rfl, by omega⟩ hS.s ho) ?_
    rw [x1']
    refine e_then (e_is1 hT (y := 344) (pc := 12) (q := (yX12_hears, cX12_hears, 4, (some .int), 12)) rfl (show aTab 344 12 = some (.istore_n 3, 1, 0, 0, 0, 0, 0, 0) from rfl) ⟨rfl, by decide⟩) ?_
    refine e_then (e_il1 hT (y := 344) (pc := 13) (q := (yX12_hears, cX12_hears, 4, (some .int), 12)) rfl (show aTab 344 13 = some (.iload_n 2, 1, 0, 0, 0, 0, 0, 0) from rfl) rfl (mlg_i rfl (by decide))) ?_
    refine e_then (e_al1 hT (y := 344) (pc := 14) (q := (yX12_hears, cX12_hears, 4, (some .int), 12)) rfl (show aTab 344 14 = some (.aload_n 0, 1, 0, 0, 0, 0, 0, 0) from rfl) rfl (mlg_r rfl (by decide))) ?_
    refine e_then (e_getR hT (y := 344) (pc := 15) (q := (yX12_hears, cX12_hears, 4, (some .int), 12)) rfl (show aTab 344 15 = some (.getfield 7, 3, 0, 12, 0, 0, 0, 0) from rfl) rfl (by decide) (by decide) hM rfl rfl) ?_
    refine e_then (e_st hT (y := 344) (pc := 18) (q := (yX12_hears, cX12_hears, 4, (some .int), 12)) rfl (show aTab 344 18 = some (.bipush 9, 2, 0, 0, 0, 0, 0, 0) from rfl) (fr' := (344, 20, (mlp 3 (.int (f (3740 + 2 * h))) (lv_args 0 [.ref 128, .int (Int32.ofNat h), .int (Int32.ofNat who)])), [.int 9, .ref 129, .int (Int32.ofNat who)])) (M' := M) rfl) ?_
    refine e_then (e_ald hT (y := 344) (pc := 20) (q := (yX12_hears, cX12_hears, 4, (some .int), 12)) rfl (show aTab 344 20 = some (.iaload, 1, 0, 0, 0, 0, 0, 0) from rfl) ⟨rfl, by omega⟩ hS.s ho9) ?_
    rw [e9]
    by_cases hc : (who : Int) < (f 9).toInt
    · refine e_then (e_icF hT (y := 344) (pc := 21) (q := (yX12_hears, cX12_hears, 4, (some .int), 12)) rfl (show aTab 344 21 = some (.if_icmp .ge 43, 3, 0, 0, 0, 0, 0, 0) from rfl) rfl (t := 64) rfl (cdF (by rw [ew]; show ¬ (f 9).toInt ≤ (who : Int); omega))) ?_
      refine e_then (e_il1 hT (y := 344) (pc := 24) (q := (yX12_hears, cX12_hears, 4, (some .int), 12)) rfl (show aTab 344 24 = some (.iload_n 3, 1, 0, 0, 0, 0, 0, 0) from rfl) rfl (mlg_eq 3 _ _)) ?_
      by_cases hc2 : 0 ≤ (f (3740 + 2 * h)).toInt
      · refine e_then (e_ifF hT (y := 344) (pc := 25) (q := (yX12_hears, cX12_hears, 4, (some .int), 12)) rfl (show aTab 344 25 = some (.ifCond .lt 39, 3, 0, 0, 0, 0, 0, 0) from rfl) rfl (t := 64) rfl (cdF (by show ¬ (f (3740 + 2 * h)).toInt < 0; omega))) ?_
        refine e_then (e_al1 hT (y := 344) (pc := 28) (q := (yX12_hears, cX12_hears, 4, (some .int), 12)) rfl (show aTab 344 28 = some (.aload_n 0, 1, 0, 0, 0, 0, 0, 0) from rfl) rfl (mlg_r rfl (by decide))) ?_
        refine e_then (e_getR hT (y := 344) (pc := 29) (q := (yX12_hears, cX12_hears, 4, (some .int), 12)) rfl (show aTab 344 29 = some (.getfield 7, 3, 0, 12, 0, 0, 0, 0) from rfl) rfl (by decide) (by decide) hM rfl rfl) ?_
        refine e_then (e_st hT (y := 344) (pc := 32) (q := (yX12_hears, cX12_hears, 4, (some .int), 12)) rfl (show aTab 344 32 = some (.sipush 3440, 3, 0, 0, 0, 0, 0, 0) from rfl) (fr' := (344, 35, (mlp 3 (.int (f (3740 + 2 * h))) (lv_args 0 [.ref 128, .int (Int32.ofNat h), .int (Int32.ofNat who)])), [.int 3440, .ref 129])) (M' := M) rfl) ?_
        refine e_then (e_st hT (y := 344) (pc := 35) (q := (yX12_hears, cX12_hears, 4, (some .int), 12)) rfl (show aTab 344 35 = some (.bipush 49, 2, 0, 0, 0, 0, 0, 0) from rfl) (fr' := (344, 37, (mlp 3 (.int (f (3740 + 2 * h))) (lv_args 0 [.ref 128, .int (Int32.ofNat h), .int (Int32.ofNat who)])), [.int 49, .int 3440, .ref 129])) (M' := M) rfl) ?_
        refine e_then (e_il1 hT (y := 344) (pc := 37) (q := (yX12_hears, cX12_hears, 4, (some .int), 12)) rfl (show aTab 344 37 = some (.iload_n 2, 1, 0, 0, 0, 0, 0, 0) from rfl) rfl (mlg_i rfl (by decide))) ?_
        refine e_then (e_st hT (y := 344) (pc := 38) (q := (yX12_hears, cX12_hears, 4, (some .int), 12)) rfl (show aTab 344 38 = some (.imul, 1, 0, 0, 0, 0, 0, 0) from rfl) (fr' := (344, 39, (mlp 3 (.int (f (3740 + 2 * h))) (lv_args 0 [.ref 128, .int (Int32.ofNat h), .int (Int32.ofNat who)])), [.int (49 * (Int32.ofNat who)), .int 3440, .ref 129])) (M' := M) rfl) ?_
        refine e_then (e_st hT (y := 344) (pc := 39) (q := (yX12_hears, cX12_hears, 4, (some .int), 12)) rfl (show aTab 344 39 = some (.iadd, 1, 0, 0, 0, 0, 0, 0) from rfl) (fr' := (344, 40, (mlp 3 (.int (f (3740 + 2 * h))) (lv_args 0 [.ref 128, .int (Int32.ofNat h), .int (Int32.ofNat who)])), [.int (3440 + (49 * (Int32.ofNat who))), .ref 129])) (M' := M) rfl) ?_
        refine e_then (e_st hT (y := 344) (pc := 40) (q := (yX12_hears, cX12_hears, 4, (some .int), 12)) rfl (show aTab 344 40 = some (.bipush 7, 2, 0, 0, 0, 0, 0, 0) from rfl) (fr' := (344, 42, (mlp 3 (.int (f (3740 + 2 * h))) (lv_args 0 [.ref 128, .int (Int32.ofNat h), .int (Int32.ofNat who)])), [.int 7, .int (3440 + (49 * (Int32.ofNat who))), .ref 129])) (M' := M) rfl) ?_
        refine e_then (e_il1 hT (y := 344) (pc := 42) (q := (yX12_hears, cX12_hears, 4, (some .int), 12)) rfl (show aTab 344 42 = some (.iload_n 3, 1, 0, 0, 0, 0, 0, 0) from rfl) rfl (mlg_eq 3 _ _)) ?_
        refine e_then (e_st hT (y := 344) (pc := 43) (q := (yX12_hears, cX12_hears, 4, (some .int), 12)) rfl (show aTab 344 43 = some (.imul, 1, 0, 0, 0, 0, 0, 0) from rfl) (fr' := (344, 44, (mlp 3 (.int (f (3740 + 2 * h))) (lv_args 0 [.ref 128, .int (Int32.ofNat h), .int (Int32.ofNat who)])), [.int (7 * (f (3740 + 2 * h))), .int (3440 + (49 * (Int32.ofNat who))), .ref 129])) (M' := M) rfl) ?_
        refine e_then (e_st hT (y := 344) (pc := 44) (q := (yX12_hears, cX12_hears, 4, (some .int), 12)) rfl (show aTab 344 44 = some (.iadd, 1, 0, 0, 0, 0, 0, 0) from rfl) (fr' := (344, 45, (mlp 3 (.int (f (3740 + 2 * h))) (lv_args 0 [.ref 128, .int (Int32.ofNat h), .int (Int32.ofNat who)])), [.int ((3440 + (49 * (Int32.ofNat who))) + (7 * (f (3740 + 2 * h)))), .ref 129])) (M' := M) rfl) ?_
        refine e_then (e_al1 hT (y := 344) (pc := 45) (q := (yX12_hears, cX12_hears, 4, (some .int), 12)) rfl (show aTab 344 45 = some (.aload_n 0, 1, 0, 0, 0, 0, 0, 0) from rfl) rfl (mlg_r rfl (by decide))) ?_
        refine e_then (e_getR hT (y := 344) (pc := 46) (q := (yX12_hears, cX12_hears, 4, (some .int), 12)) rfl (show aTab 344 46 = some (.getfield 7, 3, 0, 12, 0, 0, 0, 0) from rfl) rfl (by decide) (by decide) hM rfl rfl) ?_
        refine e_then (e_st hT (y := 344) (pc := 49) (q := (yX12_hears, cX12_hears, 4, (some .int), 12)) rfl (show aTab 344 49 = some (.sipush 3740, 3, 0, 0, 0, 0, 0, 0) from rfl) (fr' := (344, 52, (mlp 3 (.int (f (3740 + 2 * h))) (lv_args 0 [.ref 128, .int (Int32.ofNat h), .int (Int32.ofNat who)])), [.int 3740, .ref 129, .int ((3440 + (49 * (Int32.ofNat who))) + (7 * (f (3740 + 2 * h)))), .ref 129])) (M' := M) rfl) ?_
        refine e_then (e_st hT (y := 344) (pc := 52) (q := (yX12_hears, cX12_hears, 4, (some .int), 12)) rfl (show aTab 344 52 = some (.iconst 2, 1, 0, 0, 0, 0, 0, 0) from rfl) (fr' := (344, 53, (mlp 3 (.int (f (3740 + 2 * h))) (lv_args 0 [.ref 128, .int (Int32.ofNat h), .int (Int32.ofNat who)])), [.int 2, .int 3740, .ref 129, .int ((3440 + (49 * (Int32.ofNat who))) + (7 * (f (3740 + 2 * h)))), .ref 129])) (M' := M) rfl) ?_
        refine e_then (e_il1 hT (y := 344) (pc := 53) (q := (yX12_hears, cX12_hears, 4, (some .int), 12)) rfl (show aTab 344 53 = some (.iload_n 1, 1, 0, 0, 0, 0, 0, 0) from rfl) rfl (mlg_i rfl (by decide))) ?_
        refine e_then (e_st hT (y := 344) (pc := 54) (q := (yX12_hears, cX12_hears, 4, (some .int), 12)) rfl (show aTab 344 54 = some (.imul, 1, 0, 0, 0, 0, 0, 0) from rfl) (fr' := (344, 55, (mlp 3 (.int (f (3740 + 2 * h))) (lv_args 0 [.ref 128, .int (Int32.ofNat h), .int (Int32.ofNat who)])), [.int (2 * (Int32.ofNat h)), .int 3740, .ref 129, .int ((3440 + (49 * (Int32.ofNat who))) + (7 * (f (3740 + 2 * h)))), .ref 129])) (M' := M) rfl) ?_
        refine e_then (e_st hT (y := 344) (pc := 55) (q := (yX12_hears, cX12_hears, 4, (some .int), 12)) rfl (show aTab 344 55 = some (.iadd, 1, 0, 0, 0, 0, 0, 0) from rfl) (fr' := (344, 56, (mlp 3 (.int (f (3740 + 2 * h))) (lv_args 0 [.ref 128, .int (Int32.ofNat h), .int (Int32.ofNat who)])), [.int (3740 + (2 * (Int32.ofNat h))), .ref 129, .int ((3440 + (49 * (Int32.ofNat who))) + (7 * (f (3740 + 2 * h)))), .ref 129])) (M' := M) rfl) ?_
        refine e_then (e_st hT (y := 344) (pc := 56) (q := (yX12_hears, cX12_hears, 4, (some .int), 12)) rfl (show aTab 344 56 = some (.iconst 1, 1, 0, 0, 0, 0, 0, 0) from rfl) (fr' := (344, 57, (mlp 3 (.int (f (3740 + 2 * h))) (lv_args 0 [.ref 128, .int (Int32.ofNat h), .int (Int32.ofNat who)])), [.int 1, .int (3740 + (2 * (Int32.ofNat h))), .ref 129, .int ((3440 + (49 * (Int32.ofNat who))) + (7 * (f (3740 + 2 * h)))), .ref 129])) (M' := M) rfl) ?_
        refine e_then (e_st hT (y := 344) (pc := 57) (q := (yX12_hears, cX12_hears, 4, (some .int), 12)) rfl (show aTab 344 57 = some (.iadd, 1, 0, 0, 0, 0, 0, 0) from rfl) (fr' := (344, 58, (mlp 3 (.int (f (3740 + 2 * h))) (lv_args 0 [.ref 128, .int (Int32.ofNat h), .int (Int32.ofNat who)])), [.int ((3740 + (2 * (Int32.ofNat h))) + 1), .ref 129, .int ((3440 + (49 * (Int32.ofNat who))) + (7 * (f (3740 + 2 * h)))), .ref 129])) (M' := M) rfl) ?_
        refine e_then (e_ald hT (y := 344) (pc := 58) (q := (yX12_hears, cX12_hears, 4, (some .int), 12)) rfl (show aTab 344 58 = some (.iaload, 1, 0, 0, 0, 0, 0, 0) from rfl) ⟨rfl, by omega⟩ hS.s ho2) ?_
        rw [x2']
        have y1 : ((3440 : Int32) + 49 * Int32.ofNat who).toInt = 3440 + 49 * (who : Int) := by
          rw [i32_lin (n := (who : Int)) ew (by rw [c4]; omega) (by rw [c4]; omega) (by rw [c3, c4]; omega) (by rw [c3, c4]; omega), c3, c4]
        have y2 : ((3440 : Int32) + 49 * Int32.ofNat who + 7 * f (3740 + 2 * h)).toInt = 3440 + 49 * (who : Int) + 7 * (f (3740 + 2 * h)).toInt := by
          rw [i32_lin (n := (f (3740 + 2 * h)).toInt) rfl (by rw [c5]; omega) (by rw [c5]; omega) (by rw [y1, c5]; omega) (by rw [y1, c5]; omega), y1, c5]
        have y3 : ((3440 : Int32) + 49 * Int32.ofNat who + 7 * f (3740 + 2 * h) + f (3740 + 2 * h + 1)).toInt = 3440 + 49 * (who : Int) + 7 * (f (3740 + 2 * h)).toInt + (f (3740 + 2 * h + 1)).toInt := i32_p y2 rfl rfl (by omega)
        have ho3 : 0 ≤ ((3440 : Int32) + 49 * Int32.ofNat who + 7 * f (3740 + 2 * h) + f (3740 + 2 * h + 1)).toInt ∧ ((3440 : Int32) + 49 * Int32.ofNat who + 7 * f (3740 + 2 * h) + f (3740 + 2 * h + 1)).toInt < (4000 : Nat) := by rw [y3]; omega
        refine e_then (e_st hT (y := 344) (pc := 59) (q := (yX12_hears, cX12_hears, 4, (some .int), 12)) rfl (show aTab 344 59 = some (.iadd, 1, 0, 0, 0, 0, 0, 0) from rfl) (fr' := (344, 60, (mlp 3 (.int (f (3740 + 2 * h))) (lv_args 0 [.ref 128, .int (Int32.ofNat h), .int (Int32.ofNat who)])), [.int (((3440 + (49 * (Int32.ofNat who))) + (7 * (f (3740 + 2 * h)))) + (f (3740 + 2 * h + 1))), .ref 129])) (M' := M) rfl) ?_
        refine e_then (e_ald hT (y := 344) (pc := 60) (q := (yX12_hears, cX12_hears, 4, (some .int), 12)) rfl (show aTab 344 60 = some (.iaload, 1, 0, 0, 0, 0, 0, 0) from rfl) ⟨rfl, by omega⟩ hS.s ho3) ?_
        refine e_then (e_st hT (y := 344) (pc := 61) (q := (yX12_hears, cX12_hears, 4, (some .int), 12)) rfl (show aTab 344 61 = some (.goto 4, 3, 0, 0, 0, 0, 0, 0) from rfl) (fr' := (344, 65, (mlp 3 (.int (f (3740 + 2 * h))) (lv_args 0 [.ref 128, .int (Int32.ofNat h), .int (Int32.ofNat who)])), [.int (f ((3440 : Int32) + 49 * Int32.ofNat who + 7 * f (3740 + 2 * h) + f (3740 + 2 * h + 1)).toInt.toNat)])) (M' := M) rfl) ?_
        refine e_fin (e_iret hT (y := 344) (pc := 65) (q := (yX12_hears, cX12_hears, 4, (some .int), 12)) rfl (show aTab 344 65 = some (.ireturn, 1, 0, 0, 0, 0, 0, 0) from rfl) ⟨rfl, rfl⟩) ⟨?_, rfl⟩
        unfold hrF
        rw [if_pos ⟨hc, hc2⟩, y3]
      · refine e_then (e_ifT hT (y := 344) (pc := 25) (q := (yX12_hears, cX12_hears, 4, (some .int), 12)) rfl (show aTab 344 25 = some (.ifCond .lt 39, 3, 0, 0, 0, 0, 0, 0) from rfl) rfl (t := 64) rfl (cdT (by show (f (3740 + 2 * h)).toInt < 0; omega))) ?_
        refine e_then (e_st hT (y := 344) (pc := 64) (q := (yX12_hears, cX12_hears, 4, (some .int), 12)) rfl (show aTab 344 64 = some (.iconst 0, 1, 0, 0, 0, 0, 0, 0) from rfl) (fr' := (344, 65, (mlp 3 (.int (f (3740 + 2 * h))) (lv_args 0 [.ref 128, .int (Int32.ofNat h), .int (Int32.ofNat who)])), [.int 0])) (M' := M) rfl) ?_
        refine e_fin (e_iret hT (y := 344) (pc := 65) (q := (yX12_hears, cX12_hears, 4, (some .int), 12)) rfl (show aTab 344 65 = some (.ireturn, 1, 0, 0, 0, 0, 0, 0) from rfl) ⟨rfl, rfl⟩) ⟨?_, rfl⟩
        unfold hrF
        rw [if_neg (fun z => hc2 z.2)]
    · refine e_then (e_icT hT (y := 344) (pc := 21) (q := (yX12_hears, cX12_hears, 4, (some .int), 12)) rfl (show aTab 344 21 = some (.if_icmp .ge 43, 3, 0, 0, 0, 0, 0, 0) from rfl) rfl (t := 64) rfl (cdT (by rw [ew]; show (f 9).toInt ≤ (who : Int); omega))) ?_
      refine e_then (e_st hT (y := 344) (pc := 64) (q := (yX12_hears, cX12_hears, 4, (some .int), 12)) rfl (show aTab 344 64 = some (.iconst 0, 1, 0, 0, 0, 0, 0, 0) from rfl) (fr' := (344, 65, (mlp 3 (.int (f (3740 + 2 * h))) (lv_args 0 [.ref 128, .int (Int32.ofNat h), .int (Int32.ofNat who)])), [.int 0])) (M' := M) rfl) ?_
      refine e_fin (e_iret hT (y := 344) (pc := 65) (q := (yX12_hears, cX12_hears, 4, (some .int), 12)) rfl (show aTab 344 65 = some (.ireturn, 1, 0, 0, 0, 0, 0, 0) from rfl) ⟨rfl, rfl⟩) ⟨?_, rfl⟩
      unfold hrF
      rw [if_neg (fun z => hc z.1)]
  obtain ⟨N, r, M', h1, rfl, rfl⟩ := main
  exact ⟨N, h1⟩
theorem ofNat_inj32 {a b : Nat} (ha : a < 2147483648) (hb : b < 2147483648) : Int32.ofNat a = Int32.ofNat b ↔ a = b := by
  constructor
  · intro h
    have := i32n ha
    have h2 := i32n hb
    rw [h] at this
    omega
  · intro h
    rw [h]
theorem heardBy_run (hT : aTabOk) {d : Nat} {M : mHe} {f g : Nat → Int32} (hM : yTy M) (hS : shT M f g) {h la tw who : Nat} (hh : h ≤ 7) (hl : la ≤ 6) (ht : tw ≤ 1) (hw : who ≤ 6) : ∃ N, mRun none N (d + 1) (345, 0, lv_args 0 [.ref 128, .int (Int32.ofNat h), .int (Int32.ofNat la), .int (Int32.ofNat tw), .int (Int32.ofNat who)], []) M = some (some (.int (hbF f g h la tw who)), M) := by
  have eh := i32n (k := h) (by omega)
  have ew := i32n (k := who) (by omega)
  have el := i32n (k := la) (by omega)
  have et := i32n (k := tw) (by omega)
  have c1 : Int32.toInt 1 = 1 := rfl
  have c2 : Int32.toInt 2 = 2 := rfl
  have c6 : Int32.toInt 6 = 6 := rfl
  have c9 : Int32.toInt 9 = 9 := rfl
  have c14 : Int32.toInt 14 = 14 := rfl
  have ho9 : 0 ≤ (9 : Int32).toInt ∧ (9 : Int32).toInt < (4000 : Nat) := by rw [c9]; omega
  have e9 : (9 : Int32).toInt.toNat = 9 := rfl
  obtain ⟨N1, hr1⟩ := hears_run hT (d := d) hM hS hh hw
  obtain ⟨fo, hmo, -⟩ := yTy_obj hM (rfl : tTy 119 = some (.inr (12, _)))
  have z1 : (Int32.ofNat h + 1).toInt = (h : Int) + 1 := i32_p eh c1 rfl (by omega)
  have z2 : (14 * (Int32.ofNat h + 1)).toInt = 14 * ((h : Int) + 1) := by rw [i32_mul (by rw [c14, z1]; omega) (by rw [c14, z1]; omega), c14, z1]
  have z3 : (14 * (Int32.ofNat h + 1) + 2 * Int32.ofNat who).toInt = 14 * ((h : Int) + 1) + 2 * (who : Int) := by
    rw [i32_lin (n := (who : Int)) ew (by rw [c2]; omega) (by rw [c2]; omega) (by rw [z2, c2]; omega) (by rw [z2, c2]; omega), z2, c2]
  have z4 : ∀ (b : Int32) (k : Nat), b.toInt = (k : Int) → k ≤ 1 → (14 * (Int32.ofNat h + 1) + 2 * Int32.ofNat who + b).toInt = ((14 * (h + 1) + 2 * who + k : Nat) : Int) := fun b k hb hk => i32_p z3 hb (by omega) (by omega)
  have main : mEv none (d + 1) (345, 0, lv_args 0 [.ref 128, .int (Int32.ofNat h), .int (Int32.ofNat la), .int (Int32.ofNat tw), .int (Int32.ofNat who)], []) M (fun r M' => r = some (.int (hbF f g h la tw who)) ∧ M' = M) := by
    have tail : ∀ (k : Nat), k = (if who = la ∧ who < 6 then 1 else 0) → ¬ (who < 6 ∧ ((f 9).toInt ≤ (who : Int) ∨ (who = la ∧ tw = 1))) → ∀ lv : List (Nat × Value), mlg 0 lv = some (.ref 128) → mlg 1 lv = some (.int (Int32.ofNat h)) → mlg 4 lv = some (.int (Int32.ofNat who)) → mlg 5 lv = some (.int (Int32.ofNat k)) → mEv none (d + 1) (345, 52, lv, []) M (fun r M' => r = some (.int (hbF f g h la tw who)) ∧ M' = M) := by
      intro k hk hn lv l0 l1 l4 l5
      have hk1 : k ≤ 1 := by rw [hk]; split <;> omega
      have z5 := z4 (Int32.ofNat k) k (i32n (by omega)) hk1
      have ho : 0 ≤ (14 * (Int32.ofNat h + 1) + 2 * Int32.ofNat who + Int32.ofNat k).toInt ∧ (14 * (Int32.ofNat h + 1) + 2 * Int32.ofNat who + Int32.ofNat k).toInt < (126 : Nat) := by rw [z5]; omega
      refine e_then (e_al1 hT (y := 345) (pc := 52) (q := (yX12_heardBy, cX12_heardBy, 6, (some .int), 12)) rfl (show aTab 345 52 = some (.aload_n 0, 1, 0, 0, 0, 0, 0, 0) from rfl) rfl l0) ?_
      refine e_then (e_il1 hT (y := 345) (pc := 53) (q := (yX12_heardBy, cX12_heardBy, 6, (some .int), 12)) rfl (show aTab 345 53 = some (.iload_n 1, 1, 0, 0, 0, 0, 0, 0) from rfl) rfl l1) ?_
      refine e_then (e_il2 hT (y := 345) (pc := 54) (q := (yX12_heardBy, cX12_heardBy, 6, (some .int), 12)) rfl (show aTab 345 54 = some (.iload 4, 2, 0, 0, 0, 0, 0, 0) from rfl) rfl l4) ?_
      refine e_then (e_call hT (y := 345) (pc := 56) (q := (yX12_heardBy, cX12_heardBy, 6, (some .int), 12)) rfl (show aTab 345 56 = some (.invokevirtual 380, 3, 1, 344, 0, 2, 4, 12) from rfl) rfl ⟨by decide, Nat.le_of_ble_eq_true rfl⟩ hmo (Nat.le_of_ble_eq_true rfl) (Nat.le_of_ble_eq_true rfl) ⟨by decide, by decide⟩ hr1) ?_
      refine e_then (e_al1 hT (y := 345) (pc := 59) (q := (yX12_heardBy, cX12_heardBy, 6, (some .int), 12)) rfl (show aTab 345 59 = some (.aload_n 0, 1, 0, 0, 0, 0, 0, 0) from rfl) rfl l0) ?_
      refine e_then (e_getR hT (y := 345) (pc := 60) (q := (yX12_heardBy, cX12_heardBy, 6, (some .int), 12)) rfl (show aTab 345 60 = some (.getfield 55, 3, 0, 12, 30, 0, 0, 0) from rfl) rfl (by decide) (by decide) hM rfl rfl) ?_
      refine e_then (e_st hT (y := 345) (pc := 63) (q := (yX12_heardBy, cX12_heardBy, 6, (some .int), 12)) rfl (show aTab 345 63 = some (.bipush 14, 2, 0, 0, 0, 0, 0, 0) from rfl) (fr' := (345, 65, lv, [.int 14, .ref 144, .int (hrF f h who)])) (M' := M) rfl) ?_
      refine e_then (e_il1 hT (y := 345) (pc := 65) (q := (yX12_heardBy, cX12_heardBy, 6, (some .int), 12)) rfl (show aTab 345 65 = some (.iload_n 1, 1, 0, 0, 0, 0, 0, 0) from rfl) rfl l1) ?_
      refine e_then (e_st hT (y := 345) (pc := 66) (q := (yX12_heardBy, cX12_heardBy, 6, (some .int), 12)) rfl (show aTab 345 66 = some (.iconst 1, 1, 0, 0, 0, 0, 0, 0) from rfl) (fr' := (345, 67, lv, [.int 1, .int (Int32.ofNat h), .int 14, .ref 144, .int (hrF f h who)])) (M' := M) rfl) ?_
      refine e_then (e_st hT (y := 345) (pc := 67) (q := (yX12_heardBy, cX12_heardBy, 6, (some .int), 12)) rfl (show aTab 345 67 = some (.iadd, 1, 0, 0, 0, 0, 0, 0) from rfl) (fr' := (345, 68, lv, [.int ((Int32.ofNat h) + 1), .int 14, .ref 144, .int (hrF f h who)])) (M' := M) rfl) ?_
      refine e_then (e_st hT (y := 345) (pc := 68) (q := (yX12_heardBy, cX12_heardBy, 6, (some .int), 12)) rfl (show aTab 345 68 = some (.imul, 1, 0, 0, 0, 0, 0, 0) from rfl) (fr' := (345, 69, lv, [.int (14 * ((Int32.ofNat h) + 1)), .ref 144, .int (hrF f h who)])) (M' := M) rfl) ?_
      refine e_then (e_st hT (y := 345) (pc := 69) (q := (yX12_heardBy, cX12_heardBy, 6, (some .int), 12)) rfl (show aTab 345 69 = some (.iconst 2, 1, 0, 0, 0, 0, 0, 0) from rfl) (fr' := (345, 70, lv, [.int 2, .int (14 * ((Int32.ofNat h) + 1)), .ref 144, .int (hrF f h who)])) (M' := M) rfl) ?_
      refine e_then (e_il2 hT (y := 345) (pc := 70) (q := (yX12_heardBy, cX12_heardBy, 6, (some .int), 12)) rfl (show aTab 345 70 = some (.iload 4, 2, 0, 0, 0, 0, 0, 0) from rfl) rfl l4) ?_
      refine e_then (e_st hT (y := 345) (pc := 72) (q := (yX12_heardBy, cX12_heardBy, 6, (some .int), 12)) rfl (show aTab 345 72 = some (.imul, 1, 0, 0, 0, 0, 0, 0) from rfl) (fr' := (345, 73, lv, [.int (2 * (Int32.ofNat who)), .int (14 * ((Int32.ofNat h) + 1)), .ref 144, .int (hrF f h who)])) (M' := M) rfl) ?_
      refine e_then (e_st hT (y := 345) (pc := 73) (q := (yX12_heardBy, cX12_heardBy, 6, (some .int), 12)) rfl (show aTab 345 73 = some (.iadd, 1, 0, 0, 0, 0, 0, 0) from rfl) (fr' := (345, 74, lv, [.int ((14 * ((Int32.ofNat h) + 1)) + (2 * (Int32.ofNat who))), .ref 144, .int (hrF f h who)])) (M' := M) rfl) ?_
      refine e_then (e_il2 hT (y := 345) (pc := 74) (q := (yX12_heardBy, cX12_heardBy, 6, (some .int), 12)) rfl (show aTab 345 74 = some (.iload 5, 2, 0, 0, 0, 0, 0, 0) from rfl) rfl l5) ?_
      refine e_then (e_st hT (y := 345) (pc := 76) (q := (yX12_heardBy, cX12_heardBy, 6, (some .int), 12)) rfl (show aTab 345 76 = some (.iadd, 1, 0, 0, 0, 0, 0, 0) from rfl) (fr' := (345, 77, lv, [.int (((14 * ((Int32.ofNat h) + 1)) + (2 * (Int32.ofNat who))) + (Int32.ofNat k)), .ref 144, .int (hrF f h who)])) (M' := M) rfl) ?_
      refine e_then (e_ald hT (y := 345) (pc := 77) (q := (yX12_heardBy, cX12_heardBy, 6, (some .int), 12)) rfl (show aTab 345 77 = some (.iaload, 1, 0, 0, 0, 0, 0, 0) from rfl) ⟨rfl, by omega⟩ hS.m ho) ?_
      refine e_then (e_st hT (y := 345) (pc := 78) (q := (yX12_heardBy, cX12_heardBy, 6, (some .int), 12)) rfl (show aTab 345 78 = some (.iadd, 1, 0, 0, 0, 0, 0, 0) from rfl) (fr' := (345, 79, lv, [.int ((hrF f h who) + (g (14 * (Int32.ofNat h + 1) + 2 * Int32.ofNat who + Int32.ofNat k).toInt.toNat))])) (M' := M) rfl) ?_
      refine e_fin (e_iret hT (y := 345) (pc := 79) (q := (yX12_heardBy, cX12_heardBy, 6, (some .int), 12)) rfl (show aTab 345 79 = some (.ireturn, 1, 0, 0, 0, 0, 0, 0) from rfl) ⟨rfl, rfl⟩) ⟨?_, rfl⟩
      unfold hbF
      rw [if_neg hn, z5, ← hk]
      rfl
    refine e_then (e_il2 hT (y := 345) (pc := 0) (q := (yX12_heardBy, cX12_heardBy, 6, (some .int), 12)) rfl (show aTab 345 0 = some (.iload 4, 2, 0, 0, 0, 0, 0, 0) from rfl) rfl rfl) ?_
    refine e_then (e_st hT (y := 345) (pc := 2) (q := (yX12_heardBy, cX12_heardBy, 6, (some .int), 12)) rfl (show aTab 345 2 = some (.bipush 6, 2, 0, 0, 0, 0, 0, 0) from rfl) (fr' := (345, 4, (lv_args 0 [.ref 128, .int (Int32.ofNat h), .int (Int32.ofNat la), .int (Int32.ofNat tw), .int (Int32.ofNat who)]), [.int 6, .int (Int32.ofNat who)])) (M' := M) rfl) ?_
    by_cases ha : who < 6
    · refine e_then (e_icF hT (y := 345) (pc := 4) (q := (yX12_heardBy, cX12_heardBy, 6, (some .int), 12)) rfl (show aTab 345 4 = some (.if_icmp .ge 28, 3, 0, 0, 0, 0, 0, 0) from rfl) rfl (t := 32) rfl (cdF (by rw [ew, c6]; show ¬ ((6 : Int) ≤ (who : Int)); omega))) ?_
      refine e_then (e_il2 hT (y := 345) (pc := 7) (q := (yX12_heardBy, cX12_heardBy, 6, (some .int), 12)) rfl (show aTab 345 7 = some (.iload 4, 2, 0, 0, 0, 0, 0, 0) from rfl) rfl rfl) ?_
      refine e_then (e_al1 hT (y := 345) (pc := 9) (q := (yX12_heardBy, cX12_heardBy, 6, (some .int), 12)) rfl (show aTab 345 9 = some (.aload_n 0, 1, 0, 0, 0, 0, 0, 0) from rfl) rfl rfl) ?_
      refine e_then (e_getR hT (y := 345) (pc := 10) (q := (yX12_heardBy, cX12_heardBy, 6, (some .int), 12)) rfl (show aTab 345 10 = some (.getfield 7, 3, 0, 12, 0, 0, 0, 0) from rfl) rfl (by decide) (by decide) hM rfl rfl) ?_
      refine e_then (e_st hT (y := 345) (pc := 13) (q := (yX12_heardBy, cX12_heardBy, 6, (some .int), 12)) rfl (show aTab 345 13 = some (.bipush 9, 2, 0, 0, 0, 0, 0, 0) from rfl) (fr' := (345, 15, (lv_args 0 [.ref 128, .int (Int32.ofNat h), .int (Int32.ofNat la), .int (Int32.ofNat tw), .int (Int32.ofNat who)]), [.int 9, .ref 129, .int (Int32.ofNat who)])) (M' := M) rfl) ?_
      refine e_then (e_ald hT (y := 345) (pc := 15) (q := (yX12_heardBy, cX12_heardBy, 6, (some .int), 12)) rfl (show aTab 345 15 = some (.iaload, 1, 0, 0, 0, 0, 0, 0) from rfl) ⟨rfl, by omega⟩ hS.s ho9) ?_
      rw [e9]
      by_cases hb : (f 9).toInt ≤ (who : Int)
      · refine e_then (e_icT hT (y := 345) (pc := 16) (q := (yX12_heardBy, cX12_heardBy, 6, (some .int), 12)) rfl (show aTab 345 16 = some (.if_icmp .ge 14, 3, 0, 0, 0, 0, 0, 0) from rfl) rfl (t := 30) rfl (cdT (by rw [ew]; exact hb))) ?_
        refine e_then (e_st hT (y := 345) (pc := 30) (q := (yX12_heardBy, cX12_heardBy, 6, (some .int), 12)) rfl (show aTab 345 30 = some (.iconst (-1), 1, 0, 0, 0, 0, 0, 0) from rfl) (fr' := (345, 31, (lv_args 0 [.ref 128, .int (Int32.ofNat h), .int (Int32.ofNat la), .int (Int32.ofNat tw), .int (Int32.ofNat who)]), [.int (-1)])) (M' := M) rfl) ?_
        refine e_fin (e_iret hT (y := 345) (pc := 31) (q := (yX12_heardBy, cX12_heardBy, 6, (some .int), 12)) rfl (show aTab 345 31 = some (.ireturn, 1, 0, 0, 0, 0, 0, 0) from rfl) ⟨rfl, rfl⟩) ⟨?_, rfl⟩
        unfold hbF
        rw [if_pos ⟨ha, Or.inl hb⟩]
      · refine e_then (e_icF hT (y := 345) (pc := 16) (q := (yX12_heardBy, cX12_heardBy, 6, (some .int), 12)) rfl (show aTab 345 16 = some (.if_icmp .ge 14, 3, 0, 0, 0, 0, 0, 0) from rfl) rfl (t := 30) rfl (cdF (by rw [ew]; exact hb))) ?_
        refine e_then (e_il2 hT (y := 345) (pc := 19) (q := (yX12_heardBy, cX12_heardBy, 6, (some .int), 12)) rfl (show aTab 345 19 = some (.iload 4, 2, 0, 0, 0, 0, 0, 0) from rfl) rfl rfl) ?_
        refine e_then (e_il1 hT (y := 345) (pc := 21) (q := (yX12_heardBy, cX12_heardBy, 6, (some .int), 12)) rfl (show aTab 345 21 = some (.iload_n 2, 1, 0, 0, 0, 0, 0, 0) from rfl) rfl rfl) ?_
        by_cases hd : who = la
        · refine e_then (e_icF hT (y := 345) (pc := 22) (q := (yX12_heardBy, cX12_heardBy, 6, (some .int), 12)) rfl (show aTab 345 22 = some (.if_icmp .ne 10, 3, 0, 0, 0, 0, 0, 0) from rfl) rfl (t := 32) rfl (cdF (by rw [ew, el]; show ¬ ((who : Int) ≠ (la : Int)); omega))) ?_
          refine e_then (e_il1 hT (y := 345) (pc := 25) (q := (yX12_heardBy, cX12_heardBy, 6, (some .int), 12)) rfl (show aTab 345 25 = some (.iload_n 3, 1, 0, 0, 0, 0, 0, 0) from rfl) rfl rfl) ?_
          refine e_then (e_st hT (y := 345) (pc := 26) (q := (yX12_heardBy, cX12_heardBy, 6, (some .int), 12)) rfl (show aTab 345 26 = some (.iconst 1, 1, 0, 0, 0, 0, 0, 0) from rfl) (fr' := (345, 27, (lv_args 0 [.ref 128, .int (Int32.ofNat h), .int (Int32.ofNat la), .int (Int32.ofNat tw), .int (Int32.ofNat who)]), [.int 1, .int (Int32.ofNat tw)])) (M' := M) rfl) ?_
          by_cases h1 : tw = 1
          · refine e_then (e_icF hT (y := 345) (pc := 27) (q := (yX12_heardBy, cX12_heardBy, 6, (some .int), 12)) rfl (show aTab 345 27 = some (.if_icmp .ne 5, 3, 0, 0, 0, 0, 0, 0) from rfl) rfl (t := 32) rfl (cdF (by rw [et, c1]; show ¬ ((tw : Int) ≠ 1); omega))) ?_
            refine e_then (e_st hT (y := 345) (pc := 30) (q := (yX12_heardBy, cX12_heardBy, 6, (some .int), 12)) rfl (show aTab 345 30 = some (.iconst (-1), 1, 0, 0, 0, 0, 0, 0) from rfl) (fr' := (345, 31, (lv_args 0 [.ref 128, .int (Int32.ofNat h), .int (Int32.ofNat la), .int (Int32.ofNat tw), .int (Int32.ofNat who)]), [.int (-1)])) (M' := M) rfl) ?_
            refine e_fin (e_iret hT (y := 345) (pc := 31) (q := (yX12_heardBy, cX12_heardBy, 6, (some .int), 12)) rfl (show aTab 345 31 = some (.ireturn, 1, 0, 0, 0, 0, 0, 0) from rfl) ⟨rfl, rfl⟩) ⟨?_, rfl⟩
            unfold hbF
            rw [if_pos ⟨ha, Or.inr ⟨hd, h1⟩⟩]
          · refine e_then (e_icT hT (y := 345) (pc := 27) (q := (yX12_heardBy, cX12_heardBy, 6, (some .int), 12)) rfl (show aTab 345 27 = some (.if_icmp .ne 5, 3, 0, 0, 0, 0, 0, 0) from rfl) rfl (t := 32) rfl (cdT (by rw [et, c1]; show ((tw : Int) ≠ 1); omega))) ?_
            refine e_then (e_il2 hT (y := 345) (pc := 32) (q := (yX12_heardBy, cX12_heardBy, 6, (some .int), 12)) rfl (show aTab 345 32 = some (.iload 4, 2, 0, 0, 0, 0, 0, 0) from rfl) rfl rfl) ?_
            refine e_then (e_il1 hT (y := 345) (pc := 34) (q := (yX12_heardBy, cX12_heardBy, 6, (some .int), 12)) rfl (show aTab 345 34 = some (.iload_n 2, 1, 0, 0, 0, 0, 0, 0) from rfl) rfl rfl) ?_
            by_cases hd2 : who = la
            · refine e_then (e_icF hT (y := 345) (pc := 35) (q := (yX12_heardBy, cX12_heardBy, 6, (some .int), 12)) rfl (show aTab 345 35 = some (.if_icmp .ne 14, 3, 0, 0, 0, 0, 0, 0) from rfl) rfl (t := 49) rfl (cdF (by rw [ew, el]; show ¬ ((who : Int) ≠ (la : Int)); omega))) ?_
              refine e_then (e_il2 hT (y := 345) (pc := 38) (q := (yX12_heardBy, cX12_heardBy, 6, (some .int), 12)) rfl (show aTab 345 38 = some (.iload 4, 2, 0, 0, 0, 0, 0, 0) from rfl) rfl rfl) ?_
              refine e_then (e_st hT (y := 345) (pc := 40) (q := (yX12_heardBy, cX12_heardBy, 6, (some .int), 12)) rfl (show aTab 345 40 = some (.bipush 6, 2, 0, 0, 0, 0, 0, 0) from rfl) (fr' := (345, 42, (lv_args 0 [.ref 128, .int (Int32.ofNat h), .int (Int32.ofNat la), .int (Int32.ofNat tw), .int (Int32.ofNat who)]), [.int 6, .int (Int32.ofNat who)])) (M' := M) rfl) ?_
              by_cases h6 : who < 6
              · refine e_then (e_icF hT (y := 345) (pc := 42) (q := (yX12_heardBy, cX12_heardBy, 6, (some .int), 12)) rfl (show aTab 345 42 = some (.if_icmp .ge 7, 3, 0, 0, 0, 0, 0, 0) from rfl) rfl (t := 49) rfl (cdF (by rw [ew, c6]; show ¬ ((6 : Int) ≤ (who : Int)); omega))) ?_
                refine e_then (e_st hT (y := 345) (pc := 45) (q := (yX12_heardBy, cX12_heardBy, 6, (some .int), 12)) rfl (show aTab 345 45 = some (.iconst 1, 1, 0, 0, 0, 0, 0, 0) from rfl) (fr' := (345, 46, (lv_args 0 [.ref 128, .int (Int32.ofNat h), .int (Int32.ofNat la), .int (Int32.ofNat tw), .int (Int32.ofNat who)]), [.int 1])) (M' := M) rfl) ?_
                refine e_then (e_st hT (y := 345) (pc := 46) (q := (yX12_heardBy, cX12_heardBy, 6, (some .int), 12)) rfl (show aTab 345 46 = some (.goto 4, 3, 0, 0, 0, 0, 0, 0) from rfl) (fr' := (345, 50, (lv_args 0 [.ref 128, .int (Int32.ofNat h), .int (Int32.ofNat la), .int (Int32.ofNat tw), .int (Int32.ofNat who)]), [.int 1])) (M' := M) rfl) ?_
                refine e_then (e_is2 hT (y := 345) (pc := 50) (q := (yX12_heardBy, cX12_heardBy, 6, (some .int), 12)) rfl (show aTab 345 50 = some (.istore 5, 2, 0, 0, 0, 0, 0, 0) from rfl) ⟨rfl, by decide⟩) ?_
                exact tail 1 (by rw [if_pos ⟨hd2, h6⟩]) (fun z => z.2.elim hb (fun q => h1 q.2)) _ (mlg_r rfl (by decide)) (mlg_i rfl (by decide)) (mlg_i rfl (by decide)) (mlg_eq 5 _ _)
              · refine e_then (e_icT hT (y := 345) (pc := 42) (q := (yX12_heardBy, cX12_heardBy, 6, (some .int), 12)) rfl (show aTab 345 42 = some (.if_icmp .ge 7, 3, 0, 0, 0, 0, 0, 0) from rfl) rfl (t := 49) rfl (cdT (by rw [ew, c6]; show (6 : Int) ≤ (who : Int); omega))) ?_
                refine e_then (e_st hT (y := 345) (pc := 49) (q := (yX12_heardBy, cX12_heardBy, 6, (some .int), 12)) rfl (show aTab 345 49 = some (.iconst 0, 1, 0, 0, 0, 0, 0, 0) from rfl) (fr' := (345, 50, (lv_args 0 [.ref 128, .int (Int32.ofNat h), .int (Int32.ofNat la), .int (Int32.ofNat tw), .int (Int32.ofNat who)]), [.int 0])) (M' := M) rfl) ?_
                refine e_then (e_is2 hT (y := 345) (pc := 50) (q := (yX12_heardBy, cX12_heardBy, 6, (some .int), 12)) rfl (show aTab 345 50 = some (.istore 5, 2, 0, 0, 0, 0, 0, 0) from rfl) ⟨rfl, by decide⟩) ?_
                exact tail 0 (by rw [if_neg (fun z => h6 z.2)]) (fun z => z.2.elim hb (fun q => h1 q.2)) _ (mlg_r rfl (by decide)) (mlg_i rfl (by decide)) (mlg_i rfl (by decide)) (mlg_eq 5 _ _)
            · refine e_then (e_icT hT (y := 345) (pc := 35) (q := (yX12_heardBy, cX12_heardBy, 6, (some .int), 12)) rfl (show aTab 345 35 = some (.if_icmp .ne 14, 3, 0, 0, 0, 0, 0, 0) from rfl) rfl (t := 49) rfl (cdT (by rw [ew, el]; show ((who : Int) ≠ (la : Int)); omega))) ?_
              refine e_then (e_st hT (y := 345) (pc := 49) (q := (yX12_heardBy, cX12_heardBy, 6, (some .int), 12)) rfl (show aTab 345 49 = some (.iconst 0, 1, 0, 0, 0, 0, 0, 0) from rfl) (fr' := (345, 50, (lv_args 0 [.ref 128, .int (Int32.ofNat h), .int (Int32.ofNat la), .int (Int32.ofNat tw), .int (Int32.ofNat who)]), [.int 0])) (M' := M) rfl) ?_
              refine e_then (e_is2 hT (y := 345) (pc := 50) (q := (yX12_heardBy, cX12_heardBy, 6, (some .int), 12)) rfl (show aTab 345 50 = some (.istore 5, 2, 0, 0, 0, 0, 0, 0) from rfl) ⟨rfl, by decide⟩) ?_
              exact tail 0 (by rw [if_neg (fun z => hd2 z.1)]) (fun z => z.2.elim hb (fun q => h1 q.2)) _ (mlg_r rfl (by decide)) (mlg_i rfl (by decide)) (mlg_i rfl (by decide)) (mlg_eq 5 _ _)
        · refine e_then (e_icT hT (y := 345) (pc := 22) (q := (yX12_heardBy, cX12_heardBy, 6, (some .int), 12)) rfl (show aTab 345 22 = some (.if_icmp .ne 10, 3, 0, 0, 0, 0, 0, 0) from rfl) rfl (t := 32) rfl (cdT (by rw [ew, el]; show ((who : Int) ≠ (la : Int)); omega))) ?_
          refine e_then (e_il2 hT (y := 345) (pc := 32) (q := (yX12_heardBy, cX12_heardBy, 6, (some .int), 12)) rfl (show aTab 345 32 = some (.iload 4, 2, 0, 0, 0, 0, 0, 0) from rfl) rfl rfl) ?_
          refine e_then (e_il1 hT (y := 345) (pc := 34) (q := (yX12_heardBy, cX12_heardBy, 6, (some .int), 12)) rfl (show aTab 345 34 = some (.iload_n 2, 1, 0, 0, 0, 0, 0, 0) from rfl) rfl rfl) ?_
          by_cases hd2 : who = la
          · refine e_then (e_icF hT (y := 345) (pc := 35) (q := (yX12_heardBy, cX12_heardBy, 6, (some .int), 12)) rfl (show aTab 345 35 = some (.if_icmp .ne 14, 3, 0, 0, 0, 0, 0, 0) from rfl) rfl (t := 49) rfl (cdF (by rw [ew, el]; show ¬ ((who : Int) ≠ (la : Int)); omega))) ?_
            refine e_then (e_il2 hT (y := 345) (pc := 38) (q := (yX12_heardBy, cX12_heardBy, 6, (some .int), 12)) rfl (show aTab 345 38 = some (.iload 4, 2, 0, 0, 0, 0, 0, 0) from rfl) rfl rfl) ?_
            refine e_then (e_st hT (y := 345) (pc := 40) (q := (yX12_heardBy, cX12_heardBy, 6, (some .int), 12)) rfl (show aTab 345 40 = some (.bipush 6, 2, 0, 0, 0, 0, 0, 0) from rfl) (fr' := (345, 42, (lv_args 0 [.ref 128, .int (Int32.ofNat h), .int (Int32.ofNat la), .int (Int32.ofNat tw), .int (Int32.ofNat who)]), [.int 6, .int (Int32.ofNat who)])) (M' := M) rfl) ?_
            by_cases h6 : who < 6
            · refine e_then (e_icF hT (y := 345) (pc := 42) (q := (yX12_heardBy, cX12_heardBy, 6, (some .int), 12)) rfl (show aTab 345 42 = some (.if_icmp .ge 7, 3, 0, 0, 0, 0, 0, 0) from rfl) rfl (t := 49) rfl (cdF (by rw [ew, c6]; show ¬ ((6 : Int) ≤ (who : Int)); omega))) ?_
              refine e_then (e_st hT (y := 345) (pc := 45) (q := (yX12_heardBy, cX12_heardBy, 6, (some .int), 12)) rfl (show aTab 345 45 = some (.iconst 1, 1, 0, 0, 0, 0, 0, 0) from rfl) (fr' := (345, 46, (lv_args 0 [.ref 128, .int (Int32.ofNat h), .int (Int32.ofNat la), .int (Int32.ofNat tw), .int (Int32.ofNat who)]), [.int 1])) (M' := M) rfl) ?_
              refine e_then (e_st hT (y := 345) (pc := 46) (q := (yX12_heardBy, cX12_heardBy, 6, (some .int), 12)) rfl (show aTab 345 46 = some (.goto 4, 3, 0, 0, 0, 0, 0, 0) from rfl) (fr' := (345, 50, (lv_args 0 [.ref 128, .int (Int32.ofNat h), .int (Int32.ofNat la), .int (Int32.ofNat tw), .int (Int32.ofNat who)]), [.int 1])) (M' := M) rfl) ?_
              refine e_then (e_is2 hT (y := 345) (pc := 50) (q := (yX12_heardBy, cX12_heardBy, 6, (some .int), 12)) rfl (show aTab 345 50 = some (.istore 5, 2, 0, 0, 0, 0, 0, 0) from rfl) ⟨rfl, by decide⟩) ?_
              exact tail 1 (by rw [if_pos ⟨hd2, h6⟩]) (fun z => z.2.elim hb (fun q => hd q.1)) _ (mlg_r rfl (by decide)) (mlg_i rfl (by decide)) (mlg_i rfl (by decide)) (mlg_eq 5 _ _)
            · refine e_then (e_icT hT (y := 345) (pc := 42) (q := (yX12_heardBy, cX12_heardBy, 6, (some .int), 12)) rfl (show aTab 345 42 = some (.if_icmp .ge 7, 3, 0, 0, 0, 0, 0, 0) from rfl) rfl (t := 49) rfl (cdT (by rw [ew, c6]; show (6 : Int) ≤ (who : Int); omega))) ?_
              refine e_then (e_st hT (y := 345) (pc := 49) (q := (yX12_heardBy, cX12_heardBy, 6, (some .int), 12)) rfl (show aTab 345 49 = some (.iconst 0, 1, 0, 0, 0, 0, 0, 0) from rfl) (fr' := (345, 50, (lv_args 0 [.ref 128, .int (Int32.ofNat h), .int (Int32.ofNat la), .int (Int32.ofNat tw), .int (Int32.ofNat who)]), [.int 0])) (M' := M) rfl) ?_
              refine e_then (e_is2 hT (y := 345) (pc := 50) (q := (yX12_heardBy, cX12_heardBy, 6, (some .int), 12)) rfl (show aTab 345 50 = some (.istore 5, 2, 0, 0, 0, 0, 0, 0) from rfl) ⟨rfl, by decide⟩) ?_
              exact tail 0 (by rw [if_neg (fun z => h6 z.2)]) (fun z => z.2.elim hb (fun q => hd q.1)) _ (mlg_r rfl (by decide)) (mlg_i rfl (by decide)) (mlg_i rfl (by decide)) (mlg_eq 5 _ _)
          · refine e_then (e_icT hT (y := 345) (pc := 35) (q := (yX12_heardBy, cX12_heardBy, 6, (some .int), 12)) rfl (show aTab 345 35 = some (.if_icmp .ne 14, 3, 0, 0, 0, 0, 0, 0) from rfl) rfl (t := 49) rfl (cdT (by rw [ew, el]; show ((who : Int) ≠ (la : Int)); omega))) ?_
            refine e_then (e_st hT (y := 345) (pc := 49) (q := (yX12_heardBy, cX12_heardBy, 6, (some .int), 12)) rfl (show aTab 345 49 = some (.iconst 0, 1, 0, 0, 0, 0, 0, 0) from rfl) (fr' := (345, 50, (lv_args 0 [.ref 128, .int (Int32.ofNat h), .int (Int32.ofNat la), .int (Int32.ofNat tw), .int (Int32.ofNat who)]), [.int 0])) (M' := M) rfl) ?_
            refine e_then (e_is2 hT (y := 345) (pc := 50) (q := (yX12_heardBy, cX12_heardBy, 6, (some .int), 12)) rfl (show aTab 345 50 = some (.istore 5, 2, 0, 0, 0, 0, 0, 0) from rfl) ⟨rfl, by decide⟩) ?_
            exact tail 0 (by rw [if_neg (fun z => hd2 z.1)]) (fun z => z.2.elim hb (fun q => hd q.1)) _ (mlg_r rfl (by decide)) (mlg_i rfl (by decide)) (mlg_i rfl (by decide)) (mlg_eq 5 _ _)
    · refine e_then (e_icT hT (y := 345) (pc := 4) (q := (yX12_heardBy, cX12_heardBy, 6, (some .int), 12)) rfl (show aTab 345 4 = some (.if_icmp .ge 28, 3, 0, 0, 0, 0, 0, 0) from rfl) rfl (t := 32) rfl (cdT (by rw [ew, c6]; show ((6 : Int) ≤ (who : Int)); omega))) ?_
      refine e_then (e_il2 hT (y := 345) (pc := 32) (q := (yX12_heardBy, cX12_heardBy, 6, (some .int), 12)) rfl (show aTab 345 32 = some (.iload 4, 2, 0, 0, 0, 0, 0, 0) from rfl) rfl rfl) ?_
      refine e_then (e_il1 hT (y := 345) (pc := 34) (q := (yX12_heardBy, cX12_heardBy, 6, (some .int), 12)) rfl (show aTab 345 34 = some (.iload_n 2, 1, 0, 0, 0, 0, 0, 0) from rfl) rfl rfl) ?_
      by_cases hd2 : who = la
      · refine e_then (e_icF hT (y := 345) (pc := 35) (q := (yX12_heardBy, cX12_heardBy, 6, (some .int), 12)) rfl (show aTab 345 35 = some (.if_icmp .ne 14, 3, 0, 0, 0, 0, 0, 0) from rfl) rfl (t := 49) rfl (cdF (by rw [ew, el]; show ¬ ((who : Int) ≠ (la : Int)); omega))) ?_
        refine e_then (e_il2 hT (y := 345) (pc := 38) (q := (yX12_heardBy, cX12_heardBy, 6, (some .int), 12)) rfl (show aTab 345 38 = some (.iload 4, 2, 0, 0, 0, 0, 0, 0) from rfl) rfl rfl) ?_
        refine e_then (e_st hT (y := 345) (pc := 40) (q := (yX12_heardBy, cX12_heardBy, 6, (some .int), 12)) rfl (show aTab 345 40 = some (.bipush 6, 2, 0, 0, 0, 0, 0, 0) from rfl) (fr' := (345, 42, (lv_args 0 [.ref 128, .int (Int32.ofNat h), .int (Int32.ofNat la), .int (Int32.ofNat tw), .int (Int32.ofNat who)]), [.int 6, .int (Int32.ofNat who)])) (M' := M) rfl) ?_
        by_cases h6 : who < 6
        · refine e_then (e_icF hT (y := 345) (pc := 42) (q := (yX12_heardBy, cX12_heardBy, 6, (some .int), 12)) rfl (show aTab 345 42 = some (.if_icmp .ge 7, 3, 0, 0, 0, 0, 0, 0) from rfl) rfl (t := 49) rfl (cdF (by rw [ew, c6]; show ¬ ((6 : Int) ≤ (who : Int)); omega))) ?_
          refine e_then (e_st hT (y := 345) (pc := 45) (q := (yX12_heardBy, cX12_heardBy, 6, (some .int), 12)) rfl (show aTab 345 45 = some (.iconst 1, 1, 0, 0, 0, 0, 0, 0) from rfl) (fr' := (345, 46, (lv_args 0 [.ref 128, .int (Int32.ofNat h), .int (Int32.ofNat la), .int (Int32.ofNat tw), .int (Int32.ofNat who)]), [.int 1])) (M' := M) rfl) ?_
          refine e_then (e_st hT (y := 345) (pc := 46) (q := (yX12_heardBy, cX12_heardBy, 6, (some .int), 12)) rfl (show aTab 345 46 = some (.goto 4, 3, 0, 0, 0, 0, 0, 0) from rfl) (fr' := (345, 50, (lv_args 0 [.ref 128, .int (Int32.ofNat h), .int (Int32.ofNat la), .int (Int32.ofNat tw), .int (Int32.ofNat who)]), [.int 1])) (M' := M) rfl) ?_
          refine e_then (e_is2 hT (y := 345) (pc := 50) (q := (yX12_heardBy, cX12_heardBy, 6, (some .int), 12)) rfl (show aTab 345 50 = some (.istore 5, 2, 0, 0, 0, 0, 0, 0) from rfl) ⟨rfl, by decide⟩) ?_
          exact tail 1 (by rw [if_pos ⟨hd2, h6⟩]) (fun z => ha z.1) _ (mlg_r rfl (by decide)) (mlg_i rfl (by decide)) (mlg_i rfl (by decide)) (mlg_eq 5 _ _)
        · refine e_then (e_icT hT (y := 345) (pc := 42) (q := (yX12_heardBy, cX12_heardBy, 6, (some .int), 12)) rfl (show aTab 345 42 = some (.if_icmp .ge 7, 3, 0, 0, 0, 0, 0, 0) from rfl) rfl (t := 49) rfl (cdT (by rw [ew, c6]; show (6 : Int) ≤ (who : Int); omega))) ?_
          refine e_then (e_st hT (y := 345) (pc := 49) (q := (yX12_heardBy, cX12_heardBy, 6, (some .int), 12)) rfl (show aTab 345 49 = some (.iconst 0, 1, 0, 0, 0, 0, 0, 0) from rfl) (fr' := (345, 50, (lv_args 0 [.ref 128, .int (Int32.ofNat h), .int (Int32.ofNat la), .int (Int32.ofNat tw), .int (Int32.ofNat who)]), [.int 0])) (M' := M) rfl) ?_
          refine e_then (e_is2 hT (y := 345) (pc := 50) (q := (yX12_heardBy, cX12_heardBy, 6, (some .int), 12)) rfl (show aTab 345 50 = some (.istore 5, 2, 0, 0, 0, 0, 0, 0) from rfl) ⟨rfl, by decide⟩) ?_
          exact tail 0 (by rw [if_neg (fun z => h6 z.2)]) (fun z => ha z.1) _ (mlg_r rfl (by decide)) (mlg_i rfl (by decide)) (mlg_i rfl (by decide)) (mlg_eq 5 _ _)
      · refine e_then (e_icT hT (y := 345) (pc := 35) (q := (yX12_heardBy, cX12_heardBy, 6, (some .int), 12)) rfl (show aTab 345 35 = some (.if_icmp .ne 14, 3, 0, 0, 0, 0, 0, 0) from rfl) rfl (t := 49) rfl (cdT (by rw [ew, el]; show ((who : Int) ≠ (la : Int)); omega))) ?_
        refine e_then (e_st hT (y := 345) (pc := 49) (q := (yX12_heardBy, cX12_heardBy, 6, (some .int), 12)) rfl (show aTab 345 49 = some (.iconst 0, 1, 0, 0, 0, 0, 0, 0) from rfl) (fr' := (345, 50, (lv_args 0 [.ref 128, .int (Int32.ofNat h), .int (Int32.ofNat la), .int (Int32.ofNat tw), .int (Int32.ofNat who)]), [.int 0])) (M' := M) rfl) ?_
        refine e_then (e_is2 hT (y := 345) (pc := 50) (q := (yX12_heardBy, cX12_heardBy, 6, (some .int), 12)) rfl (show aTab 345 50 = some (.istore 5, 2, 0, 0, 0, 0, 0, 0) from rfl) ⟨rfl, by decide⟩) ?_
        exact tail 0 (by rw [if_neg (fun z => hd2 z.1)]) (fun z => ha z.1) _ (mlg_r rfl (by decide)) (mlg_i rfl (by decide)) (mlg_i rfl (by decide)) (mlg_eq 5 _ _)
  obtain ⟨N, r, M', h1, rfl, rfl⟩ := main
  exact ⟨N, h1⟩
/-! HAND: the shift's loops -/
abbrev shW : List tG := [(135, 0, 125, 1, 0)]
theorem sh_store {M0 M : mHe} {f g : Nat → Int32} {i : Nat} {x : Int32} (hM : yTy M) (hS : shT M f g) (hfr : yFr shW M0 M) (hi : i < 126) : yTy (M.set 135 (.inl (126, upd g i x))) ∧ shT (M.set 135 (.inl (126, upd g i x))) f (upd g i x) ∧ yFr shW M0 (M.set 135 (.inl (126, upd g i x))) := by
  have ei := i32n (k := i) (by omega)
  obtain ⟨n1, g1, s1, s2, s3⟩ := yTy_sa (c := 135) (l := 0) (h := 125) (vl := -2147483648) (vh := 2147483647) (x := Int32.ofNat i) (y := x) hM (by decide +kernel) (by omega) ⟨i32_lo _, i32_hi _⟩
  rw [hS.m] at s1
  cases s1
  have e2 : (Int32.ofNat i).toInt.toNat = i := by rw [ei]; omega
  rw [e2] at s3
  refine ⟨s3, ⟨by rw [List.getElem?_set_ne (by decide)]; exact hS.s, List.getElem?_set_self (List.getElem?_eq_some_iff.mp hS.m).1, hS.n9, hS.sp⟩, yFr_upd hfr hS.m ⟨(135, 0, 125, 1, 0), by simp, rfl, by show (0 : Int) ≤ _; omega, by show _ ≤ (125 : Int); omega, by show _ % (1 : Int) = 0; omega⟩⟩
/-- a row done -/
def shK (f g : Nat → Int32) (h k : Nat) : Prop := (∃ who, who ≤ 6 ∧ hbF f g h (k / 2) (k % 2) who = g (14 * h + k)) ∧ 0 ≤ (g (14 * h + k)).toInt
def shR (f g : Nat → Int32) (n h : Nat) : Prop := (∀ h', h ≤ h' → h' < n → ∀ k, k < 14 → shK f g h' k) ∧ ∀ k, k < 14 → 0 ≤ (g (14 * n + k)).toInt
theorem shK_upd {f g : Nat → Int32} {h k i : Nat} {x : Int32} (hi : i < 14 * h + k) (hk : k < 14) (hs : shK f g h k) : shK f (upd g i x) h k := by
  obtain ⟨⟨w, w1, w2⟩, w3⟩ := hs
  unfold shK
  rw [upd_ne g x (by omega)]
  exact ⟨⟨w, w1, by rw [hbF_upd (by omega)]; exact w2⟩, w3⟩
theorem shR_upd {f g : Nat → Int32} {n h i : Nat} {x : Int32} (hi : i < 14 * h) (hn : h ≤ n) (hs : shR f g n h) : shR f (upd g i x) n h := by
  refine ⟨fun h' h1 h2 k hk => shK_upd (by omega) hk (hs.1 h' h1 h2 k hk), fun k hk => ?_⟩
  rw [upd_ne g x (by omega)]
  exact hs.2 k hk
theorem ix14 {a b : Int32} {h k : Nat} (ha : a.toInt = (h : Int)) (hb : b.toInt = (k : Int)) (hh : h ≤ 8) (hk : k < 14) : (14 * a + b).toInt = ((14 * h + k : Nat) : Int) := by
  have c14 : Int32.toInt 14 = 14 := rfl
  have q1 : (14 * a).toInt = 14 * (h : Int) := by rw [i32_mul (by rw [c14]; omega) (by rw [c14]; omega), c14, ha]
  exact i32_p q1 hb (by omega) (by omega)
theorem sh_z (hT : aTabOk) {M0 : mHe} {f : Nat → Int32} {n : Nat} (hn : n ≤ 8) {Q : Option Value → mHe → Prop} : ∀ (j k : Nat) (M : mHe) (g : Nat → Int32) (lv : List (Nat × Value)), k + j = 14 → yTy M → shT M f g → yFr shW M0 M → (∀ i, i < k → g (14 * n + i) = 0) → mlg 0 lv = some (.ref 128) → mlg 1 lv = some (.int (Int32.ofNat n)) → mlg 2 lv = some (.int (Int32.ofNat k)) → (∀ M' g' lv', yTy M' → shT M' f g' → yFr shW M0 M' → (∀ i, i < 14 → g' (14 * n + i) = 0) → mlg 0 lv' = some (.ref 128) → mlg 1 lv' = some (.int (Int32.ofNat n)) → mEv none 5 (346, 26, lv', []) M' Q) → mEv none 5 (346, 2, lv, []) M Q := by
  have en := i32n (k := n) (by omega)
  have c14 : Int32.toInt 14 = 14 := rfl
  have e1 : (Int32.ofInt 1).toInt = 1 := rfl
  intro j
  induction j with
  | zero =>
    intro k M g lv hj hM hS hfr hz l0 l1 l2 hQ
    have ek := i32n (k := k) (by omega)
    refine e_then (e_il1 hT (y := 346) (pc := 2) (q := (yX12_findShift, cX12_findShift, 7, (some .int), 12)) rfl (show aTab 346 2 = some (.iload_n 2, 1, 0, 0, 0, 0, 0, 0) from rfl) rfl l2) ?_
    refine e_then (e_st hT (y := 346) (pc := 3) (q := (yX12_findShift, cX12_findShift, 7, (some .int), 12)) rfl (show aTab 346 3 = some (.bipush 14, 2, 0, 0, 0, 0, 0, 0) from rfl) (fr' := (346, 5, lv, [.int 14, .int (Int32.ofNat k)])) (M' := M) rfl) ?_
    refine e_then (e_icT hT (y := 346) (pc := 5) (q := (yX12_findShift, cX12_findShift, 7, (some .int), 12)) rfl (show aTab 346 5 = some (.if_icmp .ge 21, 3, 0, 0, 0, 0, 0, 0) from rfl) rfl (t := 26) rfl (cdT (by rw [ek, c14]; show (14 : Int) ≤ (k : Int); omega))) ?_
    exact hQ M g lv hM hS hfr (fun i hi => hz i (by omega)) l0 l1
  | succ j ih =>
    intro k M g lv hj hM hS hfr hz l0 l1 l2 hQ
    have ek := i32n (k := k) (by omega)
    have hix := ix14 en ek hn (by omega)
    have hix2 : (14 * Int32.ofNat n + Int32.ofNat k).toInt.toNat = 14 * n + k := by rw [hix]; rfl
    have ho : 0 ≤ (14 * Int32.ofNat n + Int32.ofNat k).toInt ∧ (14 * Int32.ofNat n + Int32.ofNat k).toInt < (126 : Nat) := by rw [hix]; omega
    have es : Int32.ofNat k + Int32.ofInt 1 = Int32.ofNat (k + 1) := i32eq (by rw [i32_add (by rw [ek, e1]; omega) (by rw [ek, e1]; omega), ek, e1, i32n (by omega)]; omega)
    obtain ⟨p1, p2, p3⟩ := sh_store (x := 0) hM hS hfr (i := 14 * n + k) (by omega)
    refine e_then (e_il1 hT (y := 346) (pc := 2) (q := (yX12_findShift, cX12_findShift, 7, (some .int), 12)) rfl (show aTab 346 2 = some (.iload_n 2, 1, 0, 0, 0, 0, 0, 0) from rfl) rfl l2) ?_
    refine e_then (e_st hT (y := 346) (pc := 3) (q := (yX12_findShift, cX12_findShift, 7, (some .int), 12)) rfl (show aTab 346 3 = some (.bipush 14, 2, 0, 0, 0, 0, 0, 0) from rfl) (fr' := (346, 5, lv, [.int 14, .int (Int32.ofNat k)])) (M' := M) rfl) ?_
    refine e_then (e_icF hT (y := 346) (pc := 5) (q := (yX12_findShift, cX12_findShift, 7, (some .int), 12)) rfl (show aTab 346 5 = some (.if_icmp .ge 21, 3, 0, 0, 0, 0, 0, 0) from rfl) rfl (t := 26) rfl (cdF (by rw [ek, c14]; show ¬ (14 : Int) ≤ (k : Int); omega))) ?_
    refine e_then (e_al1 hT (y := 346) (pc := 8) (q := (yX12_findShift, cX12_findShift, 7, (some .int), 12)) rfl (show aTab 346 8 = some (.aload_n 0, 1, 0, 0, 0, 0, 0, 0) from rfl) rfl l0) ?_
    refine e_then (e_getR hT (y := 346) (pc := 9) (q := (yX12_findShift, cX12_findShift, 7, (some .int), 12)) rfl (show aTab 346 9 = some (.getfield 55, 3, 0, 12, 30, 0, 0, 0) from rfl) rfl (by decide) (by decide) hM rfl rfl) ?_
    refine e_then (e_st hT (y := 346) (pc := 12) (q := (yX12_findShift, cX12_findShift, 7, (some .int), 12)) rfl (show aTab 346 12 = some (.bipush 14, 2, 0, 0, 0, 0, 0, 0) from rfl) (fr' := (346, 14, lv, [.int 14, .ref 144])) (M' := M) rfl) ?_
    refine e_then (e_il1 hT (y := 346) (pc := 14) (q := (yX12_findShift, cX12_findShift, 7, (some .int), 12)) rfl (show aTab 346 14 = some (.iload_n 1, 1, 0, 0, 0, 0, 0, 0) from rfl) rfl l1) ?_
    refine e_then (e_st hT (y := 346) (pc := 15) (q := (yX12_findShift, cX12_findShift, 7, (some .int), 12)) rfl (show aTab 346 15 = some (.imul, 1, 0, 0, 0, 0, 0, 0) from rfl) (fr' := (346, 16, lv, [.int (14 * (Int32.ofNat n)), .ref 144])) (M' := M) rfl) ?_
    refine e_then (e_il1 hT (y := 346) (pc := 16) (q := (yX12_findShift, cX12_findShift, 7, (some .int), 12)) rfl (show aTab 346 16 = some (.iload_n 2, 1, 0, 0, 0, 0, 0, 0) from rfl) rfl l2) ?_
    refine e_then (e_st hT (y := 346) (pc := 17) (q := (yX12_findShift, cX12_findShift, 7, (some .int), 12)) rfl (show aTab 346 17 = some (.iadd, 1, 0, 0, 0, 0, 0, 0) from rfl) (fr' := (346, 18, lv, [.int ((14 * (Int32.ofNat n)) + (Int32.ofNat k)), .ref 144])) (M' := M) rfl) ?_
    refine e_then (e_st hT (y := 346) (pc := 18) (q := (yX12_findShift, cX12_findShift, 7, (some .int), 12)) rfl (show aTab 346 18 = some (.iconst 0, 1, 0, 0, 0, 0, 0, 0) from rfl) (fr' := (346, 19, lv, [.int 0, .int ((14 * (Int32.ofNat n)) + (Int32.ofNat k)), .ref 144])) (M' := M) rfl) ?_
    refine e_then (e_ast hT (y := 346) (pc := 19) (q := (yX12_findShift, cX12_findShift, 7, (some .int), 12)) rfl (show aTab 346 19 = some (.iastore, 1, 0, 0, 0, 0, 0, 0) from rfl) ⟨rfl, by omega⟩ hS.m ho) ?_
    refine e_then (e_ii hT (y := 346) (pc := 20) (q := (yX12_findShift, cX12_findShift, 7, (some .int), 12)) rfl (show aTab 346 20 = some (.iinc 2 1, 3, 0, 0, 0, 0, 0, 0) from rfl) ⟨rfl, by decide⟩ l2) ?_
    refine e_then (e_st hT (y := 346) (pc := 23) (q := (yX12_findShift, cX12_findShift, 7, (some .int), 12)) rfl (show aTab 346 23 = some (.goto (-21), 3, 0, 0, 0, 0, 0, 0) from rfl) (fr' := (346, 2, _, [])) (M' := _) rfl) ?_
    rw [es, hix2]
    refine ih (k + 1) _ _ _ (by omega) p1 p2 p3 (fun i hi => ?_) (mlg_r l0 (by decide)) (mlg_i l1 (by decide)) (mlg_eq 2 _ _) hQ
    by_cases e : i = k
    · rw [e, upd_same]
    · rw [upd_ne g 0 (by omega)]
      exact hz i (by omega)
/-- the best so far -/
def shB (f g : Nat → Int32) (h k who : Nat) (b : Int32) : Prop := 0 ≤ b.toInt ∧ (b = 0 ∨ ∃ w, w < who ∧ hbF f g h (k / 2) (k % 2) w = b) ∧ ∀ w, w < who → (hbF f g h (k / 2) (k % 2) w).toInt ≤ b.toInt
theorem kd_all : ∀ k : Fin 14, Int32.ofNat k / 2 = Int32.ofNat (k / 2) ∧ Int32.ofNat k - Int32.ofNat k / 2 * 2 = Int32.ofNat (k % 2) := by decide +kernel
theorem sh_w (hT : aTabOk) {M : mHe} {f g : Nat → Int32} (hM : yTy M) (hS : shT M f g) {n h k : Nat} (hh : h ≤ 7) (hk : k < 14) {Q : Option Value → mHe → Prop} : ∀ (j who : Nat) (b : Int32) (lv : List (Nat × Value)), who + j = 7 → shB f g h k who b → mlg 0 lv = some (.ref 128) → mlg 1 lv = some (.int (Int32.ofNat n)) → mlg 2 lv = some (.int (Int32.ofNat h)) → mlg 3 lv = some (.int (Int32.ofNat k)) → mlg 4 lv = some (.int b) → mlg 5 lv = some (.int (Int32.ofNat who)) → (∀ b lv', shB f g h k 7 b → mlg 0 lv' = some (.ref 128) → mlg 1 lv' = some (.int (Int32.ofNat n)) → mlg 2 lv' = some (.int (Int32.ofNat h)) → mlg 3 lv' = some (.int (Int32.ofNat k)) → mlg 4 lv' = some (.int b) → mEv none 5 (346, 92, lv', []) M Q) → mEv none 5 (346, 48, lv, []) M Q := by
  have c7 : Int32.toInt 7 = 7 := rfl
  have e1 : (Int32.ofInt 1).toInt = 1 := rfl
  obtain ⟨k1, k2⟩ := kd_all ⟨k, hk⟩
  simp only at k1 k2
  obtain ⟨fo, hmo, -⟩ := yTy_obj hM (rfl : tTy 119 = some (.inr (12, _)))
  intro j
  induction j with
  | zero =>
    intro who b lv hj hB l0 l1 l2 l3 l4 l5 hQ
    have ew := i32n (k := who) (by omega)
    have : who = 7 := by omega
    subst this
    refine e_then (e_il2 hT (y := 346) (pc := 48) (q := (yX12_findShift, cX12_findShift, 7, (some .int), 12)) rfl (show aTab 346 48 = some (.iload 5, 2, 0, 0, 0, 0, 0, 0) from rfl) rfl l5) ?_
    refine e_then (e_st hT (y := 346) (pc := 50) (q := (yX12_findShift, cX12_findShift, 7, (some .int), 12)) rfl (show aTab 346 50 = some (.bipush 7, 2, 0, 0, 0, 0, 0, 0) from rfl) (fr' := (346, 52, lv, [.int 7, .int (Int32.ofNat 7)])) (M' := M) rfl) ?_
    refine e_then (e_icT hT (y := 346) (pc := 52) (q := (yX12_findShift, cX12_findShift, 7, (some .int), 12)) rfl (show aTab 346 52 = some (.if_icmp .ge 40, 3, 0, 0, 0, 0, 0, 0) from rfl) rfl (t := 92) rfl (cdT (by rw [ew, c7]; show (7 : Int) ≤ 7; omega))) ?_
    exact hQ b lv hB l0 l1 l2 l3 l4
  | succ j ih =>
    intro who b lv hj hB l0 l1 l2 l3 l4 l5 hQ
    have ew := i32n (k := who) (by omega)
    have es : Int32.ofNat who + Int32.ofInt 1 = Int32.ofNat (who + 1) := i32eq (by rw [i32_add (by rw [ew, e1]; omega) (by rw [ew, e1]; omega), ew, e1, i32n (by omega)]; omega)
    obtain ⟨N1, hr⟩ := heardBy_run hT (d := 3) hM hS hh (la := k / 2) (tw := k % 2) (who := who) (by omega) (by omega) (by omega)
    refine e_then (e_il2 hT (y := 346) (pc := 48) (q := (yX12_findShift, cX12_findShift, 7, (some .int), 12)) rfl (show aTab 346 48 = some (.iload 5, 2, 0, 0, 0, 0, 0, 0) from rfl) rfl l5) ?_
    refine e_then (e_st hT (y := 346) (pc := 50) (q := (yX12_findShift, cX12_findShift, 7, (some .int), 12)) rfl (show aTab 346 50 = some (.bipush 7, 2, 0, 0, 0, 0, 0, 0) from rfl) (fr' := (346, 52, lv, [.int 7, .int (Int32.ofNat who)])) (M' := M) rfl) ?_
    refine e_then (e_icF hT (y := 346) (pc := 52) (q := (yX12_findShift, cX12_findShift, 7, (some .int), 12)) rfl (show aTab 346 52 = some (.if_icmp .ge 40, 3, 0, 0, 0, 0, 0, 0) from rfl) rfl (t := 92) rfl (cdF (by rw [ew, c7]; show ¬ (7 : Int) ≤ (who : Int); omega))) ?_
    refine e_then (e_al1 hT (y := 346) (pc := 55) (q := (yX12_findShift, cX12_findShift, 7, (some .int), 12)) rfl (show aTab 346 55 = some (.aload_n 0, 1, 0, 0, 0, 0, 0, 0) from rfl) rfl l0) ?_
    refine e_then (e_il1 hT (y := 346) (pc := 56) (q := (yX12_findShift, cX12_findShift, 7, (some .int), 12)) rfl (show aTab 346 56 = some (.iload_n 2, 1, 0, 0, 0, 0, 0, 0) from rfl) rfl l2) ?_
    refine e_then (e_il1 hT (y := 346) (pc := 57) (q := (yX12_findShift, cX12_findShift, 7, (some .int), 12)) rfl (show aTab 346 57 = some (.iload_n 3, 1, 0, 0, 0, 0, 0, 0) from rfl) rfl l3) ?_
    refine e_then (e_st hT (y := 346) (pc := 58) (q := (yX12_findShift, cX12_findShift, 7, (some .int), 12)) rfl (show aTab 346 58 = some (.iconst 2, 1, 0, 0, 0, 0, 0, 0) from rfl) (fr' := (346, 59, lv, [.int 2, .int (Int32.ofNat k), .int (Int32.ofNat h), .ref 128])) (M' := M) rfl) ?_
    refine e_then (e_st hT (y := 346) (pc := 59) (q := (yX12_findShift, cX12_findShift, 7, (some .int), 12)) rfl (show aTab 346 59 = some (.idiv, 1, 0, 0, 0, 0, 0, 0) from rfl) (fr' := (346, 60, lv, [.int ((Int32.ofNat k) / 2), .int (Int32.ofNat h), .ref 128])) (M' := M) rfl) ?_
    refine e_then (e_il1 hT (y := 346) (pc := 60) (q := (yX12_findShift, cX12_findShift, 7, (some .int), 12)) rfl (show aTab 346 60 = some (.iload_n 3, 1, 0, 0, 0, 0, 0, 0) from rfl) rfl l3) ?_
    refine e_then (e_st hT (y := 346) (pc := 61) (q := (yX12_findShift, cX12_findShift, 7, (some .int), 12)) rfl (show aTab 346 61 = some (.iconst 2, 1, 0, 0, 0, 0, 0, 0) from rfl) (fr' := (346, 62, lv, [.int 2, .int (Int32.ofNat k), .int ((Int32.ofNat k) / 2), .int (Int32.ofNat h), .ref 128])) (M' := M) rfl) ?_
    refine e_then (e_st hT (y := 346) (pc := 62) (q := (yX12_findShift, cX12_findShift, 7, (some .int), 12)) rfl (show aTab 346 62 = some (.irem, 1, 0, 0, 0, 0, 0, 0) from rfl) (fr' := (346, 63, lv, [.int ((Int32.ofNat k) - (Int32.ofNat k) / 2 * 2), .int ((Int32.ofNat k) / 2), .int (Int32.ofNat h), .ref 128])) (M' := M) rfl) ?_
    refine e_then (e_il2 hT (y := 346) (pc := 63) (q := (yX12_findShift, cX12_findShift, 7, (some .int), 12)) rfl (show aTab 346 63 = some (.iload 5, 2, 0, 0, 0, 0, 0, 0) from rfl) rfl l5) ?_
    rw [k1]
    rw [← k1, k2, k1]
    refine e_then (e_call hT (y := 346) (pc := 65) (q := (yX12_findShift, cX12_findShift, 7, (some .int), 12)) rfl (show aTab 346 65 = some (.invokevirtual 383, 3, 1, 345, 0, 4, 6, 12) from rfl) rfl ⟨by decide, Nat.le_of_ble_eq_true rfl⟩ hmo (Nat.le_of_ble_eq_true rfl) (Nat.le_of_ble_eq_true rfl) ⟨by decide, by decide⟩ hr) ?_
    refine e_then (e_is2 hT (y := 346) (pc := 68) (q := (yX12_findShift, cX12_findShift, 7, (some .int), 12)) rfl (show aTab 346 68 = some (.istore 6, 2, 0, 0, 0, 0, 0, 0) from rfl) ⟨rfl, by decide⟩) ?_
    refine e_then (e_il2 hT (y := 346) (pc := 70) (q := (yX12_findShift, cX12_findShift, 7, (some .int), 12)) rfl (show aTab 346 70 = some (.iload 6, 2, 0, 0, 0, 0, 0, 0) from rfl) rfl (mlg_eq 6 _ _)) ?_
    refine e_then (e_il2 hT (y := 346) (pc := 72) (q := (yX12_findShift, cX12_findShift, 7, (some .int), 12)) rfl (show aTab 346 72 = some (.iload 4, 2, 0, 0, 0, 0, 0, 0) from rfl) rfl (mlg_i l4 (by decide))) ?_
    by_cases hc : (hbF f g h (k / 2) (k % 2) who).toInt ≤ b.toInt
    · refine e_then (e_icT hT (y := 346) (pc := 74) (q := (yX12_findShift, cX12_findShift, 7, (some .int), 12)) rfl (show aTab 346 74 = some (.if_icmp .le 8, 3, 0, 0, 0, 0, 0, 0) from rfl) rfl (t := 82) rfl (cdT (by exact hc))) ?_
      refine e_then (e_il2 hT (y := 346) (pc := 82) (q := (yX12_findShift, cX12_findShift, 7, (some .int), 12)) rfl (show aTab 346 82 = some (.iload 4, 2, 0, 0, 0, 0, 0, 0) from rfl) rfl (mlg_i l4 (by decide))) ?_
      refine e_then (e_is2 hT (y := 346) (pc := 84) (q := (yX12_findShift, cX12_findShift, 7, (some .int), 12)) rfl (show aTab 346 84 = some (.istore 4, 2, 0, 0, 0, 0, 0, 0) from rfl) ⟨rfl, by decide⟩) ?_
      refine e_then (e_ii hT (y := 346) (pc := 86) (q := (yX12_findShift, cX12_findShift, 7, (some .int), 12)) rfl (show aTab 346 86 = some (.iinc 5 1, 3, 0, 0, 0, 0, 0, 0) from rfl) ⟨rfl, by decide⟩ (mlg_i (mlg_i l5 (by decide)) (by decide))) ?_
      refine e_then (e_st hT (y := 346) (pc := 89) (q := (yX12_findShift, cX12_findShift, 7, (some .int), 12)) rfl (show aTab 346 89 = some (.goto (-41), 3, 0, 0, 0, 0, 0, 0) from rfl) (fr' := (346, 48, _, [])) (M' := _) rfl) ?_
      rw [es]
      refine ih (who + 1) (b) _ (by omega) ⟨hB.1, hB.2.1.imp id (fun ⟨w, w1, w2⟩ => ⟨w, by omega, w2⟩), fun w hw => by by_cases e : w = who; (rw [e]; exact hc); exact hB.2.2 w (by omega)⟩ (mlg_r (mlg_r (mlg_r l0 (by decide)) (by decide)) (by decide)) (mlg_i (mlg_i (mlg_i l1 (by decide)) (by decide)) (by decide)) (mlg_i (mlg_i (mlg_i l2 (by decide)) (by decide)) (by decide)) (mlg_i (mlg_i (mlg_i l3 (by decide)) (by decide)) (by decide)) (mlg_i (mlg_eq 4 _ _) (by decide)) (mlg_eq 5 _ _) hQ
    · refine e_then (e_icF hT (y := 346) (pc := 74) (q := (yX12_findShift, cX12_findShift, 7, (some .int), 12)) rfl (show aTab 346 74 = some (.if_icmp .le 8, 3, 0, 0, 0, 0, 0, 0) from rfl) rfl (t := 82) rfl (cdF (by exact hc))) ?_
      refine e_then (e_il2 hT (y := 346) (pc := 77) (q := (yX12_findShift, cX12_findShift, 7, (some .int), 12)) rfl (show aTab 346 77 = some (.iload 6, 2, 0, 0, 0, 0, 0, 0) from rfl) rfl (mlg_eq 6 _ _)) ?_
      refine e_then (e_st hT (y := 346) (pc := 79) (q := (yX12_findShift, cX12_findShift, 7, (some .int), 12)) rfl (show aTab 346 79 = some (.goto 5, 3, 0, 0, 0, 0, 0, 0) from rfl) (fr' := (346, 84, (mlp 6 (.int (hbF f g h (k / 2) (k % 2) who)) lv), [.int (hbF f g h (k / 2) (k % 2) who)])) (M' := M) rfl) ?_
      refine e_then (e_is2 hT (y := 346) (pc := 84) (q := (yX12_findShift, cX12_findShift, 7, (some .int), 12)) rfl (show aTab 346 84 = some (.istore 4, 2, 0, 0, 0, 0, 0, 0) from rfl) ⟨rfl, by decide⟩) ?_
      refine e_then (e_ii hT (y := 346) (pc := 86) (q := (yX12_findShift, cX12_findShift, 7, (some .int), 12)) rfl (show aTab 346 86 = some (.iinc 5 1, 3, 0, 0, 0, 0, 0, 0) from rfl) ⟨rfl, by decide⟩ (mlg_i (mlg_i l5 (by decide)) (by decide))) ?_
      refine e_then (e_st hT (y := 346) (pc := 89) (q := (yX12_findShift, cX12_findShift, 7, (some .int), 12)) rfl (show aTab 346 89 = some (.goto (-41), 3, 0, 0, 0, 0, 0, 0) from rfl) (fr' := (346, 48, _, [])) (M' := _) rfl) ?_
      rw [es]
      refine ih (who + 1) (hbF f g h (k / 2) (k % 2) who) _ (by omega) ⟨by have := hB.1; omega, Or.inr ⟨who, by omega, rfl⟩, fun w hw => by by_cases e : w = who; (rw [e]; exact Int.le_refl _); (have := hB.2.2 w (by omega); omega)⟩ (mlg_r (mlg_r (mlg_r l0 (by decide)) (by decide)) (by decide)) (mlg_i (mlg_i (mlg_i l1 (by decide)) (by decide)) (by decide)) (mlg_i (mlg_i (mlg_i l2 (by decide)) (by decide)) (by decide)) (mlg_i (mlg_i (mlg_i l3 (by decide)) (by decide)) (by decide)) (mlg_i (mlg_eq 4 _ _) (by decide)) (mlg_eq 5 _ _) hQ
theorem shB_end {f g : Nat → Int32} {h k : Nat} {b : Int32} (hn9 : (f 9).toInt ≤ 6) (h0 : 0 ≤ (g (14 * (h + 1) + 12)).toInt) (hB : shB f g h k 7 b) : ∃ who, who ≤ 6 ∧ hbF f g h (k / 2) (k % 2) who = b := by
  rcases hB.2.1 with hb | ⟨w, w1, w2⟩
  · refine ⟨6, Nat.le_refl 6, ?_⟩
    have h6 := hB.2.2 6 (by omega)
    have e6 : hbF f g h (k / 2) (k % 2) 6 = g (14 * (h + 1) + 12) := by
      unfold hbF hrF
      rw [if_neg (fun z => by have := z.1; omega), if_neg (fun z => by have := z.1; omega), if_neg (fun z => by have := z.2; omega)]
      exact Int32.zero_add _
    rw [e6] at h6 ⊢
    refine i32eq ?_
    have e0 : (0 : Int32).toInt = 0 := rfl
    rw [hb, e0] at h6 ⊢
    omega
  · exact ⟨w, by omega, w2⟩
theorem sh_k (hT : aTabOk) {M0 : mHe} {f : Nat → Int32} {n h : Nat} (hh : h < n) (hn : n ≤ 8) {Q : Option Value → mHe → Prop} : ∀ (j k : Nat) (M : mHe) (g : Nat → Int32) (lv : List (Nat × Value)), k + j = 14 → yTy M → shT M f g → yFr shW M0 M → shR f g n (h + 1) → (∀ i, i < k → shK f g h i) → mlg 0 lv = some (.ref 128) → mlg 1 lv = some (.int (Int32.ofNat n)) → mlg 2 lv = some (.int (Int32.ofNat h)) → mlg 3 lv = some (.int (Int32.ofNat k)) → (∀ M' g' lv', yTy M' → shT M' f g' → yFr shW M0 M' → shR f g' n h → mlg 0 lv' = some (.ref 128) → mlg 1 lv' = some (.int (Int32.ofNat n)) → mlg 2 lv' = some (.int (Int32.ofNat h)) → mEv none 5 (346, 111, lv', []) M' Q) → mEv none 5 (346, 36, lv, []) M Q := by
  have eh := i32n (k := h) (by omega)
  have c14 : Int32.toInt 14 = 14 := rfl
  have e1 : (Int32.ofInt 1).toInt = 1 := rfl
  intro j
  induction j with
  | zero =>
    intro k M g lv hj hM hS hfr hR hK l0 l1 l2 l3 hQ
    have ek := i32n (k := k) (by omega)
    refine e_then (e_il1 hT (y := 346) (pc := 36) (q := (yX12_findShift, cX12_findShift, 7, (some .int), 12)) rfl (show aTab 346 36 = some (.iload_n 3, 1, 0, 0, 0, 0, 0, 0) from rfl) rfl l3) ?_
    refine e_then (e_st hT (y := 346) (pc := 37) (q := (yX12_findShift, cX12_findShift, 7, (some .int), 12)) rfl (show aTab 346 37 = some (.bipush 14, 2, 0, 0, 0, 0, 0, 0) from rfl) (fr' := (346, 39, lv, [.int 14, .int (Int32.ofNat k)])) (M' := M) rfl) ?_
    refine e_then (e_icT hT (y := 346) (pc := 39) (q := (yX12_findShift, cX12_findShift, 7, (some .int), 12)) rfl (show aTab 346 39 = some (.if_icmp .ge 72, 3, 0, 0, 0, 0, 0, 0) from rfl) rfl (t := 111) rfl (cdT (by rw [ek, c14]; show (14 : Int) ≤ (k : Int); omega))) ?_
    refine hQ M g lv hM hS hfr ⟨fun h' h1 h2 i hi => ?_, hR.2⟩ l0 l1 l2
    by_cases e : h' = h
    · rw [e]
      exact hK i (by omega)
    · exact hR.1 h' (by omega) h2 i hi
  | succ j ih =>
    intro k M g lv hj hM hS hfr hR hK l0 l1 l2 l3 hQ
    have ek := i32n (k := k) (by omega)
    refine e_then (e_il1 hT (y := 346) (pc := 36) (q := (yX12_findShift, cX12_findShift, 7, (some .int), 12)) rfl (show aTab 346 36 = some (.iload_n 3, 1, 0, 0, 0, 0, 0, 0) from rfl) rfl l3) ?_
    refine e_then (e_st hT (y := 346) (pc := 37) (q := (yX12_findShift, cX12_findShift, 7, (some .int), 12)) rfl (show aTab 346 37 = some (.bipush 14, 2, 0, 0, 0, 0, 0, 0) from rfl) (fr' := (346, 39, lv, [.int 14, .int (Int32.ofNat k)])) (M' := M) rfl) ?_
    refine e_then (e_icF hT (y := 346) (pc := 39) (q := (yX12_findShift, cX12_findShift, 7, (some .int), 12)) rfl (show aTab 346 39 = some (.if_icmp .ge 72, 3, 0, 0, 0, 0, 0, 0) from rfl) rfl (t := 111) rfl (cdF (by rw [ek, c14]; show ¬ (14 : Int) ≤ (k : Int); omega))) ?_
    refine e_then (e_st hT (y := 346) (pc := 42) (q := (yX12_findShift, cX12_findShift, 7, (some .int), 12)) rfl (show aTab 346 42 = some (.iconst 0, 1, 0, 0, 0, 0, 0, 0) from rfl) (fr' := (346, 43, lv, [.int 0])) (M' := M) rfl) ?_
    refine e_then (e_is2 hT (y := 346) (pc := 43) (q := (yX12_findShift, cX12_findShift, 7, (some .int), 12)) rfl (show aTab 346 43 = some (.istore 4, 2, 0, 0, 0, 0, 0, 0) from rfl) ⟨rfl, by decide⟩) ?_
    refine e_then (e_st hT (y := 346) (pc := 45) (q := (yX12_findShift, cX12_findShift, 7, (some .int), 12)) rfl (show aTab 346 45 = some (.iconst 0, 1, 0, 0, 0, 0, 0, 0) from rfl) (fr' := (346, 46, (mlp 4 (.int 0) lv), [.int 0])) (M' := M) rfl) ?_
    refine e_then (e_is2 hT (y := 346) (pc := 46) (q := (yX12_findShift, cX12_findShift, 7, (some .int), 12)) rfl (show aTab 346 46 = some (.istore 5, 2, 0, 0, 0, 0, 0, 0) from rfl) ⟨rfl, by decide⟩) ?_
    refine sh_w hT hM hS (n := n) (by omega) (by omega) 7 0 0 _ (by omega) ⟨by decide, Or.inl rfl, fun w hw => absurd hw (by omega)⟩ (mlg_r (mlg_r l0 (by decide)) (by decide)) (mlg_i (mlg_i l1 (by decide)) (by decide)) (mlg_i (mlg_i l2 (by decide)) (by decide)) (mlg_i (mlg_i l3 (by decide)) (by decide)) (mlg_i (mlg_eq 4 _ _) (by decide)) (mlg_eq 5 _ _) ?_
    intro b lv1 hB q0 q1 q2 q3 q4
    have hix := ix14 eh ek (by omega) (by omega)
    have hix2 : (14 * Int32.ofNat h + Int32.ofNat k).toInt.toNat = 14 * h + k := by rw [hix]; rfl
    have ho : 0 ≤ (14 * Int32.ofNat h + Int32.ofNat k).toInt ∧ (14 * Int32.ofNat h + Int32.ofNat k).toInt < (126 : Nat) := by rw [hix]; omega
    have es : Int32.ofNat k + Int32.ofInt 1 = Int32.ofNat (k + 1) := i32eq (by rw [i32_add (by rw [ek, e1]; omega) (by rw [ek, e1]; omega), ek, e1, i32n (by omega)]; omega)
    obtain ⟨p1, p2, p3⟩ := sh_store (x := b) hM hS hfr (i := 14 * h + k) (by omega)
    refine e_then (e_al1 hT (y := 346) (pc := 92) (q := (yX12_findShift, cX12_findShift, 7, (some .int), 12)) rfl (show aTab 346 92 = some (.aload_n 0, 1, 0, 0, 0, 0, 0, 0) from rfl) rfl q0) ?_
    refine e_then (e_getR hT (y := 346) (pc := 93) (q := (yX12_findShift, cX12_findShift, 7, (some .int), 12)) rfl (show aTab 346 93 = some (.getfield 55, 3, 0, 12, 30, 0, 0, 0) from rfl) rfl (by decide) (by decide) hM rfl rfl) ?_
    refine e_then (e_st hT (y := 346) (pc := 96) (q := (yX12_findShift, cX12_findShift, 7, (some .int), 12)) rfl (show aTab 346 96 = some (.bipush 14, 2, 0, 0, 0, 0, 0, 0) from rfl) (fr' := (346, 98, lv1, [.int 14, .ref 144])) (M' := M) rfl) ?_
    refine e_then (e_il1 hT (y := 346) (pc := 98) (q := (yX12_findShift, cX12_findShift, 7, (some .int), 12)) rfl (show aTab 346 98 = some (.iload_n 2, 1, 0, 0, 0, 0, 0, 0) from rfl) rfl q2) ?_
    refine e_then (e_st hT (y := 346) (pc := 99) (q := (yX12_findShift, cX12_findShift, 7, (some .int), 12)) rfl (show aTab 346 99 = some (.imul, 1, 0, 0, 0, 0, 0, 0) from rfl) (fr' := (346, 100, lv1, [.int (14 * (Int32.ofNat h)), .ref 144])) (M' := M) rfl) ?_
    refine e_then (e_il1 hT (y := 346) (pc := 100) (q := (yX12_findShift, cX12_findShift, 7, (some .int), 12)) rfl (show aTab 346 100 = some (.iload_n 3, 1, 0, 0, 0, 0, 0, 0) from rfl) rfl q3) ?_
    refine e_then (e_st hT (y := 346) (pc := 101) (q := (yX12_findShift, cX12_findShift, 7, (some .int), 12)) rfl (show aTab 346 101 = some (.iadd, 1, 0, 0, 0, 0, 0, 0) from rfl) (fr' := (346, 102, lv1, [.int ((14 * (Int32.ofNat h)) + (Int32.ofNat k)), .ref 144])) (M' := M) rfl) ?_
    refine e_then (e_il2 hT (y := 346) (pc := 102) (q := (yX12_findShift, cX12_findShift, 7, (some .int), 12)) rfl (show aTab 346 102 = some (.iload 4, 2, 0, 0, 0, 0, 0, 0) from rfl) rfl q4) ?_
    refine e_then (e_ast hT (y := 346) (pc := 104) (q := (yX12_findShift, cX12_findShift, 7, (some .int), 12)) rfl (show aTab 346 104 = some (.iastore, 1, 0, 0, 0, 0, 0, 0) from rfl) ⟨rfl, by omega⟩ hS.m ho) ?_
    refine e_then (e_ii hT (y := 346) (pc := 105) (q := (yX12_findShift, cX12_findShift, 7, (some .int), 12)) rfl (show aTab 346 105 = some (.iinc 3 1, 3, 0, 0, 0, 0, 0, 0) from rfl) ⟨rfl, by decide⟩ q3) ?_
    refine e_then (e_st hT (y := 346) (pc := 108) (q := (yX12_findShift, cX12_findShift, 7, (some .int), 12)) rfl (show aTab 346 108 = some (.goto (-72), 3, 0, 0, 0, 0, 0, 0) from rfl) (fr' := (346, 36, _, [])) (M' := _) rfl) ?_
    rw [es, hix2]
    have h0 : 0 ≤ (g (14 * (h + 1) + 12)).toInt := by
      by_cases e : h + 1 = n
      · rw [e]; exact hR.2 12 (by omega)
      · exact (hR.1 (h + 1) (by omega) (by omega) 12 (by omega)).2
    obtain ⟨who, u1, u2⟩ := shB_end hS.n9.2 h0 hB
    refine ih (k + 1) _ _ _ (by omega) p1 p2 p3 (shR_upd (by omega) (by omega) hR) (fun i hi => ?_) (mlg_r q0 (by decide)) (mlg_i q1 (by decide)) (mlg_i q2 (by decide)) (mlg_eq 3 _ _) hQ
    by_cases e : i = k
    · subst e
      refine ⟨⟨who, u1, ?_⟩, ?_⟩
      · rw [hbF_upd (by omega), upd_same]
        exact u2
      · rw [upd_same]
        exact hB.1
    · obtain ⟨⟨w, w1, w2⟩, w3⟩ := hK i (by omega)
      unfold shK
      rw [upd_ne g b (by omega)]
      exact ⟨⟨w, w1, by rw [hbF_upd (by omega)]; exact w2⟩, w3⟩
theorem sh_h (hT : aTabOk) {M0 : mHe} {f : Nat → Int32} {n : Nat} (hn : n ≤ 8) : ∀ (j : Nat) (M : mHe) (g : Nat → Int32) (lv : List (Nat × Value)) (z : Int32), j ≤ n → z.toInt = (j : Int) - 1 → yTy M → shT M f g → yFr shW M0 M → shR f g n j → mlg 0 lv = some (.ref 128) → mlg 1 lv = some (.int (Int32.ofNat n)) → mlg 2 lv = some (.int z) → mEv none 5 (346, 30, lv, []) M (fun r M' => ∃ x g', r = some (.int x) ∧ yTy M' ∧ shT M' f g' ∧ yFr shW M0 M' ∧ shR f g' n 0) := by
  intro j
  induction j with
  | zero =>
    intro M g lv z hj hz hM hS hfr hR l0 l1 l2
    have ho : 0 ≤ (12 : Int32).toInt ∧ (12 : Int32).toInt < (126 : Nat) := by decide
    refine e_then (e_il1 hT (y := 346) (pc := 30) (q := (yX12_findShift, cX12_findShift, 7, (some .int), 12)) rfl (show aTab 346 30 = some (.iload_n 2, 1, 0, 0, 0, 0, 0, 0) from rfl) rfl l2) ?_
    refine e_then (e_ifT hT (y := 346) (pc := 31) (q := (yX12_findShift, cX12_findShift, 7, (some .int), 12)) rfl (show aTab 346 31 = some (.ifCond .lt 86, 3, 0, 0, 0, 0, 0, 0) from rfl) rfl (t := 117) rfl (cdT (by show z.toInt < 0; omega))) ?_
    refine e_then (e_al1 hT (y := 346) (pc := 117) (q := (yX12_findShift, cX12_findShift, 7, (some .int), 12)) rfl (show aTab 346 117 = some (.aload_n 0, 1, 0, 0, 0, 0, 0, 0) from rfl) rfl l0) ?_
    refine e_then (e_getR hT (y := 346) (pc := 118) (q := (yX12_findShift, cX12_findShift, 7, (some .int), 12)) rfl (show aTab 346 118 = some (.getfield 55, 3, 0, 12, 30, 0, 0, 0) from rfl) rfl (by decide) (by decide) hM rfl rfl) ?_
    refine e_then (e_st hT (y := 346) (pc := 121) (q := (yX12_findShift, cX12_findShift, 7, (some .int), 12)) rfl (show aTab 346 121 = some (.bipush 12, 2, 0, 0, 0, 0, 0, 0) from rfl) (fr' := (346, 123, lv, [.int 12, .ref 144])) (M' := M) rfl) ?_
    refine e_then (e_ald hT (y := 346) (pc := 123) (q := (yX12_findShift, cX12_findShift, 7, (some .int), 12)) rfl (show aTab 346 123 = some (.iaload, 1, 0, 0, 0, 0, 0, 0) from rfl) ⟨rfl, by omega⟩ hS.m ho) ?_
    exact e_fin (e_iret hT (y := 346) (pc := 124) (q := (yX12_findShift, cX12_findShift, 7, (some .int), 12)) rfl (show aTab 346 124 = some (.ireturn, 1, 0, 0, 0, 0, 0, 0) from rfl) ⟨rfl, rfl⟩) ⟨_, g, rfl, hM, hS, hfr, hR⟩
  | succ h ih =>
    intro M g lv z hj hz hM hS hfr hR l0 l1 l2
    have ez : z = Int32.ofNat h := i32eq (by rw [i32n (by omega)]; omega)
    subst ez
    refine e_then (e_il1 hT (y := 346) (pc := 30) (q := (yX12_findShift, cX12_findShift, 7, (some .int), 12)) rfl (show aTab 346 30 = some (.iload_n 2, 1, 0, 0, 0, 0, 0, 0) from rfl) rfl l2) ?_
    refine e_then (e_ifF hT (y := 346) (pc := 31) (q := (yX12_findShift, cX12_findShift, 7, (some .int), 12)) rfl (show aTab 346 31 = some (.ifCond .lt 86, 3, 0, 0, 0, 0, 0, 0) from rfl) rfl (t := 117) rfl (cdF (by show ¬ (Int32.ofNat h).toInt < 0; omega))) ?_
    refine e_then (e_st hT (y := 346) (pc := 34) (q := (yX12_findShift, cX12_findShift, 7, (some .int), 12)) rfl (show aTab 346 34 = some (.iconst 0, 1, 0, 0, 0, 0, 0, 0) from rfl) (fr' := (346, 35, lv, [.int 0])) (M' := M) rfl) ?_
    refine e_then (e_is1 hT (y := 346) (pc := 35) (q := (yX12_findShift, cX12_findShift, 7, (some .int), 12)) rfl (show aTab 346 35 = some (.istore_n 3, 1, 0, 0, 0, 0, 0, 0) from rfl) ⟨rfl, by decide⟩) ?_
    refine sh_k hT (h := h) (by omega) hn 14 0 M g _ (by omega) hM hS hfr hR (fun i hi => absurd hi (by omega)) (mlg_r l0 (by decide)) (mlg_i l1 (by decide)) (mlg_i l2 (by decide)) (mlg_eq 3 _ _) ?_
    intro M' g' lv' p1 p2 p3 p4 p5 p6 p7
    refine e_then (e_ii hT (y := 346) (pc := 111) (q := (yX12_findShift, cX12_findShift, 7, (some .int), 12)) rfl (show aTab 346 111 = some (.iinc 2 (-1), 3, 0, 0, 0, 0, 0, 0) from rfl) ⟨rfl, by decide⟩ p7) ?_
    refine e_then (e_st hT (y := 346) (pc := 114) (q := (yX12_findShift, cX12_findShift, 7, (some .int), 12)) rfl (show aTab 346 114 = some (.goto (-84), 3, 0, 0, 0, 0, 0, 0) from rfl) (fr' := (346, 30, _, [])) (M' := _) rfl) ?_
    have e1 : (Int32.ofInt (-1)).toInt = -1 := rfl
    exact ih M' g' _ _ (by omega) (by rw [i32_add (by rw [e1]; omega) (by rw [e1]; omega), e1]; omega) p1 p2 p3 p4 (mlg_r p5 (by decide)) (mlg_i p6 (by decide)) (mlg_eq 2 _ _)
theorem findShift_run (hT : aTabOk) {M : mHe} {f g : Nat → Int32} {n : Nat} (hM : yTy M) (hS : shT M f g) (h1 : 1 ≤ n) (hn : n ≤ 8) : mEv none 5 (346, 0, lv_args 0 [.ref 128, .int (Int32.ofNat n)], []) M (fun r M' => ∃ x g', r = some (.int x) ∧ yTy M' ∧ shT M' f g' ∧ yFr shW M M' ∧ shR f g' n 0) := by
  have en := i32n (k := n) (by omega)
  have c1 : Int32.toInt 1 = 1 := rfl
  refine e_then (e_st hT (y := 346) (pc := 0) (q := (yX12_findShift, cX12_findShift, 7, (some .int), 12)) rfl (show aTab 346 0 = some (.iconst 0, 1, 0, 0, 0, 0, 0, 0) from rfl) (fr' := (346, 1, (lv_args 0 [.ref 128, .int (Int32.ofNat n)]), [.int 0])) (M' := M) rfl) ?_
  refine e_then (e_is1 hT (y := 346) (pc := 1) (q := (yX12_findShift, cX12_findShift, 7, (some .int), 12)) rfl (show aTab 346 1 = some (.istore_n 2, 1, 0, 0, 0, 0, 0, 0) from rfl) ⟨rfl, by decide⟩) ?_
  refine sh_z hT hn 14 0 M g _ (by omega) hM hS (yFr_rf _ _) (fun i hi => absurd hi (by omega)) (mlg_r rfl (by decide)) (mlg_i rfl (by decide)) (mlg_eq 2 _ _) ?_
  intro M' g' lv' p1 p2 p3 p4 p5 p6
  refine e_then (e_il1 hT (y := 346) (pc := 26) (q := (yX12_findShift, cX12_findShift, 7, (some .int), 12)) rfl (show aTab 346 26 = some (.iload_n 1, 1, 0, 0, 0, 0, 0, 0) from rfl) rfl p6) ?_
  refine e_then (e_st hT (y := 346) (pc := 27) (q := (yX12_findShift, cX12_findShift, 7, (some .int), 12)) rfl (show aTab 346 27 = some (.iconst 1, 1, 0, 0, 0, 0, 0, 0) from rfl) (fr' := (346, 28, lv', [.int 1, .int (Int32.ofNat n)])) (M' := M') rfl) ?_
  refine e_then (e_st hT (y := 346) (pc := 28) (q := (yX12_findShift, cX12_findShift, 7, (some .int), 12)) rfl (show aTab 346 28 = some (.isub, 1, 0, 0, 0, 0, 0, 0) from rfl) (fr' := (346, 29, lv', [.int ((Int32.ofNat n) - 1)])) (M' := M') rfl) ?_
  refine e_then (e_is1 hT (y := 346) (pc := 29) (q := (yX12_findShift, cX12_findShift, 7, (some .int), 12)) rfl (show aTab 346 29 = some (.istore_n 2, 1, 0, 0, 0, 0, 0, 0) from rfl) ⟨rfl, by decide⟩) ?_
  exact sh_h hT hn n M' g' _ _ (Nat.le_refl n) (by rw [i32_sub (by rw [en, c1]; omega) (by rw [en, c1]; omega), en, c1]) p1 p2 p3 ⟨fun h' q1 q2 => absurd q1 (by omega), fun k hk => by rw [p4 k hk]; decide⟩ (mlg_r p5 (by decide)) (mlg_i p6 (by decide)) (mlg_eq 2 _ _)
/-! HAND: the shift -/
/-- who it is that hears most -/
theorem sf_in (hT : aTabOk) {M : mHe} {f g : Nat → Int32} (hM : yTy M) (hS : shT M f g) {n h la tw u w : Nat} (hh : h ≤ 7) (hl : la ≤ 6) (ht : tw ≤ 1) (hw : w ≤ 6) (hwv : hbF f g h la tw w = g (14 * h + (2 * la + tw))) {Q : Option Value → mHe → Prop} : ∀ (j who : Nat) (lv : List (Nat × Value)), who + j = w → mlg 0 lv = some (.ref 128) → mlg 1 lv = some (.int (Int32.ofNat n)) → mlg 2 lv = some (.int (Int32.ofNat u)) → mlg 4 lv = some (.int (Int32.ofNat la)) → mlg 5 lv = some (.int (Int32.ofNat tw)) → mlg 6 lv = some (.int (Int32.ofNat h)) → mlg 7 lv = some (.int (Int32.ofNat who)) → (∀ who' lv', who' ≤ 6 → mlg 0 lv' = some (.ref 128) → mlg 1 lv' = some (.int (Int32.ofNat n)) → mlg 2 lv' = some (.int (Int32.ofNat u)) → mlg 4 lv' = some (.int (Int32.ofNat la)) → mlg 5 lv' = some (.int (Int32.ofNat tw)) → mlg 6 lv' = some (.int (Int32.ofNat h)) → mlg 7 lv' = some (.int (Int32.ofNat who')) → mEv none 6 (348, 92, lv', []) M Q) → mEv none 6 (348, 53, lv, []) M Q := by
  have eh := i32n (k := h) (by omega)
  have el := i32n (k := la) (by omega)
  have et := i32n (k := tw) (by omega)
  have c2 : Int32.toInt 2 = 2 := rfl
  have c14 : Int32.toInt 14 = 14 := rfl
  have e1 : (Int32.ofInt 1).toInt = 1 := rfl
  have x1 : (14 * Int32.ofNat h).toInt = 14 * (h : Int) := by rw [i32_mul (by rw [c14]; omega) (by rw [c14]; omega), c14, eh]
  have x2 : (14 * Int32.ofNat h + 2 * Int32.ofNat la).toInt = 14 * (h : Int) + 2 * (la : Int) := by
    rw [i32_lin (n := (la : Int)) el (by rw [c2]; omega) (by rw [c2]; omega) (by rw [x1, c2]; omega) (by rw [x1, c2]; omega), x1, c2]
  have x3 : (14 * Int32.ofNat h + 2 * Int32.ofNat la + Int32.ofNat tw).toInt = ((14 * h + (2 * la + tw) : Nat) : Int) := i32_p x2 et (by omega) (by omega)
  have x4 : (14 * Int32.ofNat h + 2 * Int32.ofNat la + Int32.ofNat tw).toInt.toNat = 14 * h + (2 * la + tw) := by rw [x3]; rfl
  have ho : 0 ≤ (14 * Int32.ofNat h + 2 * Int32.ofNat la + Int32.ofNat tw).toInt ∧ (14 * Int32.ofNat h + 2 * Int32.ofNat la + Int32.ofNat tw).toInt < (126 : Nat) := by rw [x3]; omega
  obtain ⟨fo, hmo, -⟩ := yTy_obj hM (rfl : tTy 119 = some (.inr (12, _)))
  intro j
  induction j with
  | zero => ?_
  | succ j ih => ?_
  all_goals
    intro who lv hj l0 l1 l2 l4 l5 l6 l7 hQ
    have ew := i32n (k := who) (by omega)
    obtain ⟨N1, hr⟩ := heardBy_run hT (d := 4) hM hS hh (la := la) (tw := tw) (who := who) hl ht (by omega)
    refine e_then (e_al1 hT (y := 348) (pc := 53) (q := (yX12_shift, cX12_shift, 8, (some .int), 12)) rfl (show aTab 348 53 = some (.aload_n 0, 1, 0, 0, 0, 0, 0, 0) from rfl) rfl l0) ?_
    refine e_then (e_il2 hT (y := 348) (pc := 54) (q := (yX12_shift, cX12_shift, 8, (some .int), 12)) rfl (show aTab 348 54 = some (.iload 6, 2, 0, 0, 0, 0, 0, 0) from rfl) rfl l6) ?_
    refine e_then (e_il2 hT (y := 348) (pc := 56) (q := (yX12_shift, cX12_shift, 8, (some .int), 12)) rfl (show aTab 348 56 = some (.iload 4, 2, 0, 0, 0, 0, 0, 0) from rfl) rfl l4) ?_
    refine e_then (e_il2 hT (y := 348) (pc := 58) (q := (yX12_shift, cX12_shift, 8, (some .int), 12)) rfl (show aTab 348 58 = some (.iload 5, 2, 0, 0, 0, 0, 0, 0) from rfl) rfl l5) ?_
    refine e_then (e_il2 hT (y := 348) (pc := 60) (q := (yX12_shift, cX12_shift, 8, (some .int), 12)) rfl (show aTab 348 60 = some (.iload 7, 2, 0, 0, 0, 0, 0, 0) from rfl) rfl l7) ?_
    refine e_then (e_call hT (y := 348) (pc := 62) (q := (yX12_shift, cX12_shift, 8, (some .int), 12)) rfl (show aTab 348 62 = some (.invokevirtual 383, 3, 1, 345, 0, 4, 6, 12) from rfl) rfl ⟨by decide, Nat.le_of_ble_eq_true rfl⟩ hmo (Nat.le_of_ble_eq_true rfl) (Nat.le_of_ble_eq_true rfl) ⟨by decide, by decide⟩ hr) ?_
    refine e_then (e_al1 hT (y := 348) (pc := 65) (q := (yX12_shift, cX12_shift, 8, (some .int), 12)) rfl (show aTab 348 65 = some (.aload_n 0, 1, 0, 0, 0, 0, 0, 0) from rfl) rfl l0) ?_
    refine e_then (e_getR hT (y := 348) (pc := 66) (q := (yX12_shift, cX12_shift, 8, (some .int), 12)) rfl (show aTab 348 66 = some (.getfield 55, 3, 0, 12, 30, 0, 0, 0) from rfl) rfl (by decide) (by decide) hM rfl rfl) ?_
    refine e_then (e_st hT (y := 348) (pc := 69) (q := (yX12_shift, cX12_shift, 8, (some .int), 12)) rfl (show aTab 348 69 = some (.bipush 14, 2, 0, 0, 0, 0, 0, 0) from rfl) (fr' := (348, 71, lv, [.int 14, .ref 144, .int (hbF f g h la tw who)])) (M' := M) rfl) ?_
    refine e_then (e_il2 hT (y := 348) (pc := 71) (q := (yX12_shift, cX12_shift, 8, (some .int), 12)) rfl (show aTab 348 71 = some (.iload 6, 2, 0, 0, 0, 0, 0, 0) from rfl) rfl l6) ?_
    refine e_then (e_st hT (y := 348) (pc := 73) (q := (yX12_shift, cX12_shift, 8, (some .int), 12)) rfl (show aTab 348 73 = some (.imul, 1, 0, 0, 0, 0, 0, 0) from rfl) (fr' := (348, 74, lv, [.int (14 * (Int32.ofNat h)), .ref 144, .int (hbF f g h la tw who)])) (M' := M) rfl) ?_
    refine e_then (e_st hT (y := 348) (pc := 74) (q := (yX12_shift, cX12_shift, 8, (some .int), 12)) rfl (show aTab 348 74 = some (.iconst 2, 1, 0, 0, 0, 0, 0, 0) from rfl) (fr' := (348, 75, lv, [.int 2, .int (14 * (Int32.ofNat h)), .ref 144, .int (hbF f g h la tw who)])) (M' := M) rfl) ?_
    refine e_then (e_il2 hT (y := 348) (pc := 75) (q := (yX12_shift, cX12_shift, 8, (some .int), 12)) rfl (show aTab 348 75 = some (.iload 4, 2, 0, 0, 0, 0, 0, 0) from rfl) rfl l4) ?_
    refine e_then (e_st hT (y := 348) (pc := 77) (q := (yX12_shift, cX12_shift, 8, (some .int), 12)) rfl (show aTab 348 77 = some (.imul, 1, 0, 0, 0, 0, 0, 0) from rfl) (fr' := (348, 78, lv, [.int (2 * (Int32.ofNat la)), .int (14 * (Int32.ofNat h)), .ref 144, .int (hbF f g h la tw who)])) (M' := M) rfl) ?_
    refine e_then (e_st hT (y := 348) (pc := 78) (q := (yX12_shift, cX12_shift, 8, (some .int), 12)) rfl (show aTab 348 78 = some (.iadd, 1, 0, 0, 0, 0, 0, 0) from rfl) (fr' := (348, 79, lv, [.int ((14 * (Int32.ofNat h)) + (2 * (Int32.ofNat la))), .ref 144, .int (hbF f g h la tw who)])) (M' := M) rfl) ?_
    refine e_then (e_il2 hT (y := 348) (pc := 79) (q := (yX12_shift, cX12_shift, 8, (some .int), 12)) rfl (show aTab 348 79 = some (.iload 5, 2, 0, 0, 0, 0, 0, 0) from rfl) rfl l5) ?_
    refine e_then (e_st hT (y := 348) (pc := 81) (q := (yX12_shift, cX12_shift, 8, (some .int), 12)) rfl (show aTab 348 81 = some (.iadd, 1, 0, 0, 0, 0, 0, 0) from rfl) (fr' := (348, 82, lv, [.int (((14 * (Int32.ofNat h)) + (2 * (Int32.ofNat la))) + (Int32.ofNat tw)), .ref 144, .int (hbF f g h la tw who)])) (M' := M) rfl) ?_
    refine e_then (e_ald hT (y := 348) (pc := 82) (q := (yX12_shift, cX12_shift, 8, (some .int), 12)) rfl (show aTab 348 82 = some (.iaload, 1, 0, 0, 0, 0, 0, 0) from rfl) ⟨rfl, by omega⟩ hS.m ho) ?_
    rw [x4]
  · have : who = w := by omega
    subst this
    refine e_then (e_icT hT (y := 348) (pc := 83) (q := (yX12_shift, cX12_shift, 8, (some .int), 12)) rfl (show aTab 348 83 = some (.if_icmp .eq 9, 3, 0, 0, 0, 0, 0, 0) from rfl) rfl (t := 92) rfl (cdT (by rw [hwv]; show _ = _; rfl))) ?_
    exact hQ who lv hw l0 l1 l2 l4 l5 l6 l7
  · by_cases hc : (hbF f g h la tw who).toInt = (g (14 * h + (2 * la + tw))).toInt
    · refine e_then (e_icT hT (y := 348) (pc := 83) (q := (yX12_shift, cX12_shift, 8, (some .int), 12)) rfl (show aTab 348 83 = some (.if_icmp .eq 9, 3, 0, 0, 0, 0, 0, 0) from rfl) rfl (t := 92) rfl (cdT (by exact hc))) ?_
      exact hQ who lv (by omega) l0 l1 l2 l4 l5 l6 l7
    · refine e_then (e_icF hT (y := 348) (pc := 83) (q := (yX12_shift, cX12_shift, 8, (some .int), 12)) rfl (show aTab 348 83 = some (.if_icmp .eq 9, 3, 0, 0, 0, 0, 0, 0) from rfl) rfl (t := 92) rfl (cdF (by exact hc))) ?_
      refine e_then (e_ii hT (y := 348) (pc := 86) (q := (yX12_shift, cX12_shift, 8, (some .int), 12)) rfl (show aTab 348 86 = some (.iinc 7 1, 3, 0, 0, 0, 0, 0, 0) from rfl) ⟨rfl, by decide⟩ l7) ?_
      refine e_then (e_st hT (y := 348) (pc := 89) (q := (yX12_shift, cX12_shift, 8, (some .int), 12)) rfl (show aTab 348 89 = some (.goto (-36), 3, 0, 0, 0, 0, 0, 0) from rfl) (fr' := (348, 53, _, [])) (M' := _) rfl) ?_
      have es : Int32.ofNat who + Int32.ofInt 1 = Int32.ofNat (who + 1) := i32eq (by rw [i32_add (by rw [ew, e1]; omega) (by rw [ew, e1]; omega), ew, e1, i32n (by omega)]; omega)
      rw [es]
      exact ih (who + 1) _ (by omega) (mlg_r l0 (by decide)) (mlg_i l1 (by decide)) (mlg_i l2 (by decide)) (mlg_i l4 (by decide)) (mlg_i l5 (by decide)) (mlg_i l6 (by decide)) (mlg_eq 7 _ _) hQ
theorem sf_out (hT : aTabOk) {M : mHe} {f g : Nat → Int32} (hM : yTy M) (hS : shT M f g) {n u : Nat} (hn : n ≤ 8) (hu : u < n) (hR : shR f g n 0) : ∀ (j h la tw : Nat) (lv : List (Nat × Value)), h + j = u + 1 → la ≤ 6 → tw ≤ 1 → mlg 0 lv = some (.ref 128) → mlg 1 lv = some (.int (Int32.ofNat n)) → mlg 2 lv = some (.int (Int32.ofNat u)) → mlg 4 lv = some (.int (Int32.ofNat la)) → mlg 5 lv = some (.int (Int32.ofNat tw)) → mlg 6 lv = some (.int (Int32.ofNat h)) → mEv none 6 (348, 44, lv, []) M (fun r M' => ∃ x, r = some (.int x) ∧ M' = M) := by
  have eu := i32n (k := u) (by omega)
  have c6 : Int32.toInt 6 = 6 := rfl
  have e1 : (Int32.ofInt 1).toInt = 1 := rfl
  intro j
  induction j with
  | zero =>
    intro h la tw lv hj hl ht l0 l1 l2 l4 l5 l6
    have eh := i32n (k := h) (by omega)
    have el := i32n (k := la) (by omega)
    refine e_then (e_il2 hT (y := 348) (pc := 44) (q := (yX12_shift, cX12_shift, 8, (some .int), 12)) rfl (show aTab 348 44 = some (.iload 6, 2, 0, 0, 0, 0, 0, 0) from rfl) rfl l6) ?_
    refine e_then (e_il1 hT (y := 348) (pc := 46) (q := (yX12_shift, cX12_shift, 8, (some .int), 12)) rfl (show aTab 348 46 = some (.iload_n 2, 1, 0, 0, 0, 0, 0, 0) from rfl) rfl l2) ?_
    refine e_then (e_icT hT (y := 348) (pc := 47) (q := (yX12_shift, cX12_shift, 8, (some .int), 12)) rfl (show aTab 348 47 = some (.if_icmp .gt 76, 3, 0, 0, 0, 0, 0, 0) from rfl) rfl (t := 123) rfl (cdT (by rw [eh, eu]; show (u : Int) < (h : Int); omega))) ?_
    refine e_then (e_il2 hT (y := 348) (pc := 123) (q := (yX12_shift, cX12_shift, 8, (some .int), 12)) rfl (show aTab 348 123 = some (.iload 4, 2, 0, 0, 0, 0, 0, 0) from rfl) rfl l4) ?_
    refine e_then (e_st hT (y := 348) (pc := 125) (q := (yX12_shift, cX12_shift, 8, (some .int), 12)) rfl (show aTab 348 125 = some (.bipush 6, 2, 0, 0, 0, 0, 0, 0) from rfl) (fr' := (348, 127, lv, [.int 6, .int (Int32.ofNat la)])) (M' := M) rfl) ?_
    by_cases hc : la = 6
    · refine e_then (e_icF hT (y := 348) (pc := 127) (q := (yX12_shift, cX12_shift, 8, (some .int), 12)) rfl (show aTab 348 127 = some (.if_icmp .ne 8, 3, 0, 0, 0, 0, 0, 0) from rfl) rfl (t := 135) rfl (cdF (by rw [el, c6]; show ¬ ((la : Int) ≠ 6); omega))) ?_
      refine e_then (e_st hT (y := 348) (pc := 130) (q := (yX12_shift, cX12_shift, 8, (some .int), 12)) rfl (show aTab 348 130 = some (.ldc 64, 2, 7, 0, (-1000000005), 0, 0, 0) from rfl) (fr' := (348, 132, lv, [.int (-1000000005)])) (M' := M) rfl) ?_
      refine e_then (e_st hT (y := 348) (pc := 132) (q := (yX12_shift, cX12_shift, 8, (some .int), 12)) rfl (show aTab 348 132 = some (.goto 5, 3, 0, 0, 0, 0, 0, 0) from rfl) (fr' := (348, 137, lv, [.int (-1000000005)])) (M' := M) rfl) ?_
      exact e_fin (e_iret hT (y := 348) (pc := 137) (q := (yX12_shift, cX12_shift, 8, (some .int), 12)) rfl (show aTab 348 137 = some (.ireturn, 1, 0, 0, 0, 0, 0, 0) from rfl) ⟨rfl, rfl⟩) ⟨_, rfl, rfl⟩
    · refine e_then (e_icT hT (y := 348) (pc := 127) (q := (yX12_shift, cX12_shift, 8, (some .int), 12)) rfl (show aTab 348 127 = some (.if_icmp .ne 8, 3, 0, 0, 0, 0, 0, 0) from rfl) rfl (t := 135) rfl (cdT (by rw [el, c6]; show ((la : Int) ≠ 6); omega))) ?_
      refine e_then (e_il2 hT (y := 348) (pc := 135) (q := (yX12_shift, cX12_shift, 8, (some .int), 12)) rfl (show aTab 348 135 = some (.iload 4, 2, 0, 0, 0, 0, 0, 0) from rfl) rfl l4) ?_
      exact e_fin (e_iret hT (y := 348) (pc := 137) (q := (yX12_shift, cX12_shift, 8, (some .int), 12)) rfl (show aTab 348 137 = some (.ireturn, 1, 0, 0, 0, 0, 0, 0) from rfl) ⟨rfl, rfl⟩) ⟨_, rfl, rfl⟩
  | succ j ih =>
    intro h la tw lv hj hl ht l0 l1 l2 l4 l5 l6
    have eh := i32n (k := h) (by omega)
    have el := i32n (k := la) (by omega)
    refine e_then (e_il2 hT (y := 348) (pc := 44) (q := (yX12_shift, cX12_shift, 8, (some .int), 12)) rfl (show aTab 348 44 = some (.iload 6, 2, 0, 0, 0, 0, 0, 0) from rfl) rfl l6) ?_
    refine e_then (e_il1 hT (y := 348) (pc := 46) (q := (yX12_shift, cX12_shift, 8, (some .int), 12)) rfl (show aTab 348 46 = some (.iload_n 2, 1, 0, 0, 0, 0, 0, 0) from rfl) rfl l2) ?_
    refine e_then (e_icF hT (y := 348) (pc := 47) (q := (yX12_shift, cX12_shift, 8, (some .int), 12)) rfl (show aTab 348 47 = some (.if_icmp .gt 76, 3, 0, 0, 0, 0, 0, 0) from rfl) rfl (t := 123) rfl (cdF (by rw [eh, eu]; show ¬ (u : Int) < (h : Int); omega))) ?_
    refine e_then (e_st hT (y := 348) (pc := 50) (q := (yX12_shift, cX12_shift, 8, (some .int), 12)) rfl (show aTab 348 50 = some (.iconst 0, 1, 0, 0, 0, 0, 0, 0) from rfl) (fr' := (348, 51, lv, [.int 0])) (M' := M) rfl) ?_
    refine e_then (e_is2 hT (y := 348) (pc := 51) (q := (yX12_shift, cX12_shift, 8, (some .int), 12)) rfl (show aTab 348 51 = some (.istore 7, 2, 0, 0, 0, 0, 0, 0) from rfl) ⟨rfl, by decide⟩) ?_
    obtain ⟨⟨w, w1, w2⟩, -⟩ := hR.1 h (by omega) (by omega) (2 * la + tw) (by omega)
    have d1 : (2 * la + tw) / 2 = la := by omega
    have d2 : (2 * la + tw) % 2 = tw := by omega
    rw [d1, d2] at w2
    refine sf_in hT hM hS (n := n) (u := u) (by omega) hl ht w1 w2 w 0 _ (by omega) (mlg_r l0 (by decide)) (mlg_i l1 (by decide)) (mlg_i l2 (by decide)) (mlg_i l4 (by decide)) (mlg_i l5 (by decide)) (mlg_i l6 (by decide)) (mlg_eq 7 _ _) ?_
    intro who lv1 hw q0 q1 q2 q4 q5 q6 q7
    have ew := i32n (k := who) (by omega)
    have es : Int32.ofNat h + Int32.ofInt 1 = Int32.ofNat (h + 1) := i32eq (by rw [i32_add (by rw [eh, e1]; omega) (by rw [eh, e1]; omega), eh, e1, i32n (by omega)]; omega)
    refine e_then (e_il2 hT (y := 348) (pc := 92) (q := (yX12_shift, cX12_shift, 8, (some .int), 12)) rfl (show aTab 348 92 = some (.iload 7, 2, 0, 0, 0, 0, 0, 0) from rfl) rfl q7) ?_
    refine e_then (e_il2 hT (y := 348) (pc := 94) (q := (yX12_shift, cX12_shift, 8, (some .int), 12)) rfl (show aTab 348 94 = some (.iload 4, 2, 0, 0, 0, 0, 0, 0) from rfl) rfl q4) ?_
    by_cases hc : who = la
    · refine e_then (e_icF hT (y := 348) (pc := 96) (q := (yX12_shift, cX12_shift, 8, (some .int), 12)) rfl (show aTab 348 96 = some (.if_icmp .ne 14, 3, 0, 0, 0, 0, 0, 0) from rfl) rfl (t := 110) rfl (cdF (by rw [ew, el]; show ¬ ((who : Int) ≠ (la : Int)); omega))) ?_
      refine e_then (e_il2 hT (y := 348) (pc := 99) (q := (yX12_shift, cX12_shift, 8, (some .int), 12)) rfl (show aTab 348 99 = some (.iload 7, 2, 0, 0, 0, 0, 0, 0) from rfl) rfl q7) ?_
      refine e_then (e_st hT (y := 348) (pc := 101) (q := (yX12_shift, cX12_shift, 8, (some .int), 12)) rfl (show aTab 348 101 = some (.bipush 6, 2, 0, 0, 0, 0, 0, 0) from rfl) (fr' := (348, 103, lv1, [.int 6, .int (Int32.ofNat who)])) (M' := M) rfl) ?_
      by_cases h6 : who < 6
      · refine e_then (e_icF hT (y := 348) (pc := 103) (q := (yX12_shift, cX12_shift, 8, (some .int), 12)) rfl (show aTab 348 103 = some (.if_icmp .ge 7, 3, 0, 0, 0, 0, 0, 0) from rfl) rfl (t := 110) rfl (cdF (by rw [ew, c6]; show ¬ ((6 : Int) ≤ (who : Int)); omega))) ?_
        refine e_then (e_st hT (y := 348) (pc := 106) (q := (yX12_shift, cX12_shift, 8, (some .int), 12)) rfl (show aTab 348 106 = some (.iconst 1, 1, 0, 0, 0, 0, 0, 0) from rfl) (fr' := (348, 107, lv1, [.int 1])) (M' := M) rfl) ?_
        refine e_then (e_st hT (y := 348) (pc := 107) (q := (yX12_shift, cX12_shift, 8, (some .int), 12)) rfl (show aTab 348 107 = some (.goto 4, 3, 0, 0, 0, 0, 0, 0) from rfl) (fr' := (348, 111, lv1, [.int 1])) (M' := M) rfl) ?_
        refine e_then (e_is2 hT (y := 348) (pc := 111) (q := (yX12_shift, cX12_shift, 8, (some .int), 12)) rfl (show aTab 348 111 = some (.istore 5, 2, 0, 0, 0, 0, 0, 0) from rfl) ⟨rfl, by decide⟩) ?_
        refine e_then (e_il2 hT (y := 348) (pc := 113) (q := (yX12_shift, cX12_shift, 8, (some .int), 12)) rfl (show aTab 348 113 = some (.iload 7, 2, 0, 0, 0, 0, 0, 0) from rfl) rfl (mlg_i q7 (by decide))) ?_
        refine e_then (e_is2 hT (y := 348) (pc := 115) (q := (yX12_shift, cX12_shift, 8, (some .int), 12)) rfl (show aTab 348 115 = some (.istore 4, 2, 0, 0, 0, 0, 0, 0) from rfl) ⟨rfl, by decide⟩) ?_
        refine e_then (e_ii hT (y := 348) (pc := 117) (q := (yX12_shift, cX12_shift, 8, (some .int), 12)) rfl (show aTab 348 117 = some (.iinc 6 1, 3, 0, 0, 0, 0, 0, 0) from rfl) ⟨rfl, by decide⟩ (mlg_i (mlg_i q6 (by decide)) (by decide))) ?_
        refine e_then (e_st hT (y := 348) (pc := 120) (q := (yX12_shift, cX12_shift, 8, (some .int), 12)) rfl (show aTab 348 120 = some (.goto (-76), 3, 0, 0, 0, 0, 0, 0) from rfl) (fr' := (348, 44, _, [])) (M' := _) rfl) ?_
        rw [es]
        exact ih (h + 1) who 1 _ (by omega) hw (by omega) (mlg_r (mlg_r (mlg_r q0 (by decide)) (by decide)) (by decide)) (mlg_i (mlg_i (mlg_i q1 (by decide)) (by decide)) (by decide)) (mlg_i (mlg_i (mlg_i q2 (by decide)) (by decide)) (by decide)) (mlg_i (mlg_eq 4 _ _) (by decide)) (mlg_i (mlg_i (mlg_eq 5 _ _) (by decide)) (by decide)) (mlg_eq 6 _ _)
      · refine e_then (e_icT hT (y := 348) (pc := 103) (q := (yX12_shift, cX12_shift, 8, (some .int), 12)) rfl (show aTab 348 103 = some (.if_icmp .ge 7, 3, 0, 0, 0, 0, 0, 0) from rfl) rfl (t := 110) rfl (cdT (by rw [ew, c6]; show ((6 : Int) ≤ (who : Int)); omega))) ?_
        refine e_then (e_st hT (y := 348) (pc := 110) (q := (yX12_shift, cX12_shift, 8, (some .int), 12)) rfl (show aTab 348 110 = some (.iconst 0, 1, 0, 0, 0, 0, 0, 0) from rfl) (fr' := (348, 111, lv1, [.int 0])) (M' := M) rfl) ?_
        refine e_then (e_is2 hT (y := 348) (pc := 111) (q := (yX12_shift, cX12_shift, 8, (some .int), 12)) rfl (show aTab 348 111 = some (.istore 5, 2, 0, 0, 0, 0, 0, 0) from rfl) ⟨rfl, by decide⟩) ?_
        refine e_then (e_il2 hT (y := 348) (pc := 113) (q := (yX12_shift, cX12_shift, 8, (some .int), 12)) rfl (show aTab 348 113 = some (.iload 7, 2, 0, 0, 0, 0, 0, 0) from rfl) rfl (mlg_i q7 (by decide))) ?_
        refine e_then (e_is2 hT (y := 348) (pc := 115) (q := (yX12_shift, cX12_shift, 8, (some .int), 12)) rfl (show aTab 348 115 = some (.istore 4, 2, 0, 0, 0, 0, 0, 0) from rfl) ⟨rfl, by decide⟩) ?_
        refine e_then (e_ii hT (y := 348) (pc := 117) (q := (yX12_shift, cX12_shift, 8, (some .int), 12)) rfl (show aTab 348 117 = some (.iinc 6 1, 3, 0, 0, 0, 0, 0, 0) from rfl) ⟨rfl, by decide⟩ (mlg_i (mlg_i q6 (by decide)) (by decide))) ?_
        refine e_then (e_st hT (y := 348) (pc := 120) (q := (yX12_shift, cX12_shift, 8, (some .int), 12)) rfl (show aTab 348 120 = some (.goto (-76), 3, 0, 0, 0, 0, 0, 0) from rfl) (fr' := (348, 44, _, [])) (M' := _) rfl) ?_
        rw [es]
        exact ih (h + 1) who 0 _ (by omega) hw (by omega) (mlg_r (mlg_r (mlg_r q0 (by decide)) (by decide)) (by decide)) (mlg_i (mlg_i (mlg_i q1 (by decide)) (by decide)) (by decide)) (mlg_i (mlg_i (mlg_i q2 (by decide)) (by decide)) (by decide)) (mlg_i (mlg_eq 4 _ _) (by decide)) (mlg_i (mlg_i (mlg_eq 5 _ _) (by decide)) (by decide)) (mlg_eq 6 _ _)
    · refine e_then (e_icT hT (y := 348) (pc := 96) (q := (yX12_shift, cX12_shift, 8, (some .int), 12)) rfl (show aTab 348 96 = some (.if_icmp .ne 14, 3, 0, 0, 0, 0, 0, 0) from rfl) rfl (t := 110) rfl (cdT (by rw [ew, el]; show ((who : Int) ≠ (la : Int)); omega))) ?_
      refine e_then (e_st hT (y := 348) (pc := 110) (q := (yX12_shift, cX12_shift, 8, (some .int), 12)) rfl (show aTab 348 110 = some (.iconst 0, 1, 0, 0, 0, 0, 0, 0) from rfl) (fr' := (348, 111, lv1, [.int 0])) (M' := M) rfl) ?_
      refine e_then (e_is2 hT (y := 348) (pc := 111) (q := (yX12_shift, cX12_shift, 8, (some .int), 12)) rfl (show aTab 348 111 = some (.istore 5, 2, 0, 0, 0, 0, 0, 0) from rfl) ⟨rfl, by decide⟩) ?_
      refine e_then (e_il2 hT (y := 348) (pc := 113) (q := (yX12_shift, cX12_shift, 8, (some .int), 12)) rfl (show aTab 348 113 = some (.iload 7, 2, 0, 0, 0, 0, 0, 0) from rfl) rfl (mlg_i q7 (by decide))) ?_
      refine e_then (e_is2 hT (y := 348) (pc := 115) (q := (yX12_shift, cX12_shift, 8, (some .int), 12)) rfl (show aTab 348 115 = some (.istore 4, 2, 0, 0, 0, 0, 0, 0) from rfl) ⟨rfl, by decide⟩) ?_
      refine e_then (e_ii hT (y := 348) (pc := 117) (q := (yX12_shift, cX12_shift, 8, (some .int), 12)) rfl (show aTab 348 117 = some (.iinc 6 1, 3, 0, 0, 0, 0, 0, 0) from rfl) ⟨rfl, by decide⟩ (mlg_i (mlg_i q6 (by decide)) (by decide))) ?_
      refine e_then (e_st hT (y := 348) (pc := 120) (q := (yX12_shift, cX12_shift, 8, (some .int), 12)) rfl (show aTab 348 120 = some (.goto (-76), 3, 0, 0, 0, 0, 0, 0) from rfl) (fr' := (348, 44, _, [])) (M' := _) rfl) ?_
      rw [es]
      exact ih (h + 1) who 0 _ (by omega) hw (by omega) (mlg_r (mlg_r (mlg_r q0 (by decide)) (by decide)) (by decide)) (mlg_i (mlg_i (mlg_i q1 (by decide)) (by decide)) (by decide)) (mlg_i (mlg_i (mlg_i q2 (by decide)) (by decide)) (by decide)) (mlg_i (mlg_eq 4 _ _) (by decide)) (mlg_i (mlg_i (mlg_eq 5 _ _) (by decide)) (by decide)) (mlg_eq 6 _ _)
def sfP (y pc : Nat) : Option (tAn ⊕ Option Nat) := bif Nat.beq y 348 && Nat.beq pc 28 then some (.inr none) else none
def sfL : List (Nat × aV) := [(0, kR 128), (1, (4, 0, 0, 0)), (2, (4, 1, 0, 0))]
def sfA : Bool := tCk (sfP, []) 400 6 [[]] (348, 0, sfL, []) [] ([(-2147483648, 2147483647), (-2147483648, 2147483647)], []) (fun lf => lRes (-2147483648) 2147483647 lf || (lAt 348 28 [] sfL lf && lL 1 1 8 lf && lL 2 0 7 lf && tImp lf.2.2 (4, 1, 0, 0) (4, 0, 0, 0) (-1)))
theorem sfA_ok : sfA = true := by decide +kernel
theorem hand_shift (hT : aTabOk) : tCtOk (348, [(0, 128, 0, 0), (1, 0, (-2147483648), 2147483647), (1, 0, (-2147483648), 2147483647)], some ((-2147483648), 2147483647), [(135, 0, 125, 1, 0)], 6, [], []) := by
  intro M vs d hM hvs hd _
  match vs, hvs with
  | [v0, v1, v2], h =>
    have h0 : v0 = .ref 128 := h.1
    have h1' : ∃ x : Int32, v1 = .int x ∧ -2147483648 ≤ x.toInt ∧ x.toInt ≤ 2147483647 := h.2.1
    have h2' : ∃ x : Int32, v2 = .int x ∧ -2147483648 ≤ x.toInt ∧ x.toInt ≤ 2147483647 := h.2.2.1
    obtain ⟨a, q1, b1⟩ := h1'
    obtain ⟨b, q2, b2⟩ := h2'
    subst h0; subst q1; subst q2
    have main : mEv none 6 (348, 0, lv_args 0 [.ref 128, .int a, .int b], []) M (fun r M' => ∃ x : Int32, r = some (.int x) ∧ yTy M' ∧ yFr shW M M') := by
      have hA := sfA_ok
      unfold sfA at hA
      have hE : xE [a.toInt, b.toInt] ([(-2147483648, 2147483647), (-2147483648, 2147483647)], []) := by
        refine xE_of_list rfl (fun i l u e hb he => ?_)
        match i with
        | 0 => cases hb; cases he; exact ⟨b1, i32_lo _, i32_hi _⟩
        | 1 => cases hb; cases he; exact ⟨b2, i32_lo _, i32_hi _⟩
        | i + 2 => simp at hb
      have hL : yLv [a.toInt, b.toInt] sfL (lv_args 0 [.ref 128, .int a, .int b]) := yLv_cons rfl (yV_kR _ _) (yLv_cons rfl (yV_atom rfl) (yLv_cons rfl (yV_atom rfl) (yLv_nil _ _)))
      obtain ⟨lf, f1, f2⟩ := tSegC (xs := x00) hT (fun ct hct => by cases hct) hA hE hL (cst := []) (show yS _ [] [] from trivial) ⟨hM, fun q hq => by cases hq⟩
      simp only [Bool.or_eq_true, Bool.and_eq_true] at f1
      rcases f1 with f1 | ⟨⟨⟨f1, f3⟩, f4⟩, f5⟩
      · obtain ⟨X, N, x, M', m1, m2, m3, m4, m5⟩ := lRes_ok f1 f2
        exact ⟨N, _, M', m2, x, rfl, m4.1, fun xs c k hn => yFr_nil (m5 _ (List.mem_singleton_self _)) c k⟩
      · obtain ⟨X, lv, st', M', m1, m2, m3, m4, m5, m6, m7⟩ := lAt_ok f1 f2
        have hfr : yFr shW M M' := fun xs c k hn => yFr_nil (m7 _ (List.mem_singleton_self _)) c k
        obtain ⟨a', l1, z1⟩ := loc_i (k := 1) (i := 0) (a := 0) (e := a.toInt) m4 (by simp [sfL]) rfl
        obtain ⟨b', l2, z2⟩ := loc_i (k := 2) (i := 1) (a := 0) (e := b.toInt) m4 (by simp [sfL]) rfl
        have l0 : mlg 0 lv = some (.ref 128) := loc_r m4 (by simp [sfL])
        obtain ⟨x1, w1, u1, u1'⟩ := m5 _ _ _ f3
        obtain ⟨x2, w2, u2, u2'⟩ := m5 _ _ _ f4
        rw [l1] at w1; cases w1
        rw [l2] at w2; cases w2
        have hlt := tImp_ok m1 (show yN _ (4, 1, 0, 0) b.toInt from ⟨b.toInt, get_app rfl, by omega⟩) (show yN _ (4, 0, 0, 0) a.toInt from ⟨a.toInt, get_app rfl, by omega⟩) f5
        obtain ⟨n, hn8, rfl⟩ : ∃ n : Nat, n ≤ 8 ∧ a' = Int32.ofNat n := ⟨a'.toInt.toNat, by omega, i32eq (by rw [i32n (by omega)]; omega)⟩
        obtain ⟨u, hu8, rfl⟩ : ∃ n : Nat, n ≤ 7 ∧ b' = Int32.ofNat n := ⟨b'.toInt.toNat, by omega, i32eq (by rw [i32n (by omega)]; omega)⟩
        rw [i32n (by omega)] at u1 u1' z1
        rw [i32n (by omega)] at u2 u2' z2
        have hst := yS_nil m3
        subst hst
        refine e_then m2 ?_
        obtain ⟨fo, hmo, -⟩ := yTy_obj m6.1 (rfl : tTy 119 = some (.inr (12, _)))
        obtain ⟨f, g, hS⟩ := shT_of m6.1
        obtain ⟨N3, r3, M3, p1, x3, g3, rfl, p2, p3, p4, p5⟩ := findShift_run hT m6.1 hS (n := n) (by omega) hn8
        refine e_then (e_al1 hT (y := 348) (pc := 28) (q := (yX12_shift, cX12_shift, 8, (some .int), 12)) rfl (show aTab 348 28 = some (.aload_n 0, 1, 0, 0, 0, 0, 0, 0) from rfl) rfl l0) ?_
        refine e_then (e_il1 hT (y := 348) (pc := 29) (q := (yX12_shift, cX12_shift, 8, (some .int), 12)) rfl (show aTab 348 29 = some (.iload_n 1, 1, 0, 0, 0, 0, 0, 0) from rfl) rfl l1) ?_
        refine e_then (e_call hT (y := 348) (pc := 30) (q := (yX12_shift, cX12_shift, 8, (some .int), 12)) rfl (show aTab 348 30 = some (.invokevirtual 387, 3, 1, 346, 0, 1, 7, 12) from rfl) rfl ⟨by decide, Nat.le_of_ble_eq_true rfl⟩ hmo (Nat.le_of_ble_eq_true rfl) (Nat.le_of_ble_eq_true rfl) ⟨by decide, by decide⟩ p1) ?_
        refine e_then (e_is1 hT (y := 348) (pc := 33) (q := (yX12_shift, cX12_shift, 8, (some .int), 12)) rfl (show aTab 348 33 = some (.istore_n 3, 1, 0, 0, 0, 0, 0, 0) from rfl) ⟨rfl, by decide⟩) ?_
        refine e_then (e_st hT (y := 348) (pc := 34) (q := (yX12_shift, cX12_shift, 8, (some .int), 12)) rfl (show aTab 348 34 = some (.bipush 6, 2, 0, 0, 0, 0, 0, 0) from rfl) (fr' := (348, 36, (mlp 3 (.int x3) lv), [.int 6])) (M' := M3) rfl) ?_
        refine e_then (e_is2 hT (y := 348) (pc := 36) (q := (yX12_shift, cX12_shift, 8, (some .int), 12)) rfl (show aTab 348 36 = some (.istore 4, 2, 0, 0, 0, 0, 0, 0) from rfl) ⟨rfl, by decide⟩) ?_
        refine e_then (e_st hT (y := 348) (pc := 38) (q := (yX12_shift, cX12_shift, 8, (some .int), 12)) rfl (show aTab 348 38 = some (.iconst 0, 1, 0, 0, 0, 0, 0, 0) from rfl) (fr' := (348, 39, (mlp 4 (.int 6) (mlp 3 (.int x3) lv)), [.int 0])) (M' := M3) rfl) ?_
        refine e_then (e_is2 hT (y := 348) (pc := 39) (q := (yX12_shift, cX12_shift, 8, (some .int), 12)) rfl (show aTab 348 39 = some (.istore 5, 2, 0, 0, 0, 0, 0, 0) from rfl) ⟨rfl, by decide⟩) ?_
        refine e_then (e_st hT (y := 348) (pc := 41) (q := (yX12_shift, cX12_shift, 8, (some .int), 12)) rfl (show aTab 348 41 = some (.iconst 0, 1, 0, 0, 0, 0, 0, 0) from rfl) (fr' := (348, 42, (mlp 5 (.int 0) (mlp 4 (.int 6) (mlp 3 (.int x3) lv))), [.int 0])) (M' := M3) rfl) ?_
        refine e_then (e_is2 hT (y := 348) (pc := 42) (q := (yX12_shift, cX12_shift, 8, (some .int), 12)) rfl (show aTab 348 42 = some (.istore 6, 2, 0, 0, 0, 0, 0, 0) from rfl) ⟨rfl, by decide⟩) ?_
        obtain ⟨N4, r4, M4, s1, x4, rfl, rfl⟩ := sf_out hT p2 p3 hn8 (u := u) (by omega) p5 (u + 1) 0 6 0 ((mlp 6 (.int 0) (mlp 5 (.int 0) (mlp 4 (.int 6) (mlp 3 (.int x3) lv))))) (by omega) (by omega) (by omega) (mlg_r (mlg_r (mlg_r (mlg_r l0 (by decide)) (by decide)) (by decide)) (by decide)) (mlg_i (mlg_i (mlg_i (mlg_i l1 (by decide)) (by decide)) (by decide)) (by decide)) (mlg_i (mlg_i (mlg_i (mlg_i l2 (by decide)) (by decide)) (by decide)) (by decide)) (mlg_i (mlg_i (mlg_eq 4 _ _) (by decide)) (by decide)) (mlg_i (mlg_eq 5 _ _) (by decide)) (mlg_eq 6 _ _)
        exact ⟨N4, _, _, s1, x4, rfl, p2, yFr_tr hfr p4⟩
    obtain ⟨N, r, M', m1, x, rfl, m2, m3⟩ := main
    exact ⟨N, _, M', mRun_dm m1 hd, m2, m3, ⟨x, rfl, i32_lo x, i32_hi x⟩, fun ab hab => by cases hab⟩
