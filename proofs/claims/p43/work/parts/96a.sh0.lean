/-! TONGUES -/
def tgOk (a : Int32) : Prop := 0 ≤ a.toInt ∧ a.toInt ≤ 6
theorem rtg_run (hT : aTabOk) {M : mHe} {a : Int32} {d : Nat} (hd : 10 ≤ d) [Decidable (tgOk a)] : ∃ K, mRun none K d (252, 0, lv_args 0 [.int a], []) M = some (some (.int (gB (decide (tgOk a)))), M) := by
  obtain ⟨K1, q1⟩ := isIn_i hT (M := M) (v := a) (l := Int64.ofNat 0) (h := Int64.ofInt 6) (d := 9) (by decide)
  rw [show (Int64.ofNat 0).toInt = 0 from rfl, show (Int64.ofInt 6).toInt = 6 from rfl] at q1
  have e : decide (tgOk a) = decide (0 ≤ a.toInt ∧ a.toInt ≤ 6) := decide_eq_decide.mpr Iff.rfl
  rw [e]
  have go : mEv none 10 (252, 0, lv_args 0 [.int a], []) M (fun r M' => r = some (.int (gB (decide (0 ≤ a.toInt ∧ a.toInt ≤ 6)))) ∧ M' = M) := by
    refine e_then (e_il1 hT (y := 252) (pc := 0) (q := (yX12_isTongue, cX12_isTongue, 1, (some .boolean), 12)) rfl (show aTab 252 0 = some (.iload_n 0, 1, 0, 0, 0, 0, 0, 0) from rfl) rfl rfl) ?_
    refine e_then (e_st hT (y := 252) (pc := 1) (q := (yX12_isTongue, cX12_isTongue, 1, (some .boolean), 12)) rfl (show aTab 252 1 = some (.i2l, 1, 0, 0, 0, 0, 0, 0) from rfl) (fr' := (252, 2, (lv_args 0 [.int a]), [.long (a).toInt64])) (M' := M) rfl) ?_
    refine e_then (e_st hT (y := 252) (pc := 2) (q := (yX12_isTongue, cX12_isTongue, 1, (some .boolean), 12)) rfl (show aTab 252 2 = some (.lconst 0, 1, 0, 0, 0, 0, 0, 0) from rfl) (fr' := (252, 3, (lv_args 0 [.int a]), [.long (Int64.ofNat 0), .long (a).toInt64])) (M' := M) rfl) ?_
    refine e_then (e_st hT (y := 252) (pc := 3) (q := (yX12_isTongue, cX12_isTongue, 1, (some .boolean), 12)) rfl (show aTab 252 3 = some (.ldc2_w 71, 3, 8, 0, 6, 0, 0, 0) from rfl) (fr' := (252, 6, (lv_args 0 [.int a]), [.long (Int64.ofInt 6), .long (Int64.ofNat 0), .long (a).toInt64])) (M' := M) rfl) ?_
    refine e_then (e_calls hT (y := 252) (pc := 6) (q := (yX12_isTongue, cX12_isTongue, 1, (some .boolean), 12)) rfl (show aTab 252 6 = some (.invokestatic 65, 3, 2, 239, 0, 3, 6, 12) from rfl) (Nat.le_of_ble_eq_true rfl) (Nat.le_of_ble_eq_true rfl) (Nat.le_of_ble_eq_true rfl) ⟨by decide, by decide⟩ q1) ?_
    exact e_fin (e_zret hT (y := 252) (pc := 9) (q := (yX12_isTongue, cX12_isTongue, 1, (some .boolean), 12)) rfl (show aTab 252 9 = some (.ireturn, 1, 0, 0, 0, 0, 0, 0) from rfl) ⟨rfl, rfl⟩ (gB_01 _)) ⟨rfl, rfl⟩
  obtain ⟨K, r, M', q, rfl, rfl⟩ := go
  exact ⟨K, mRun_dm q hd⟩
