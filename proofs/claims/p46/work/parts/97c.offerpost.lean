/-! HAND: night -/
def o00 : tXs := (0, fun _ => 0)
theorem os1 {k : Nat} (h : k < 1000) : Int32.ofNat k + Int32.ofInt 1 = Int32.ofNat (k + 1) := by
  refine Int32.toInt_inj.mp ?_
  have e1 : (Int32.ofInt 1).toInt = 1 := rfl
  rw [i32_add (by rw [i32n (by omega), e1]; omega) (by rw [i32n (by omega), e1]; omega), i32n (by omega), i32n (by omega), e1]
  omega
theorem ntS_1 {F : Nat → Int32} {s : Int32} {k : Nat} : ntS F s k + (((s >>> (Int32.ofNat k &&& 31)) &&& 1) * F k) = ntS F s (k + 1) := by
  show ntS F s k + (ntB s k * F k) = ntS F s k + (if ntB s k = 1 then F k else 0)
  rcases ntB_01 s k with h | h
  · rw [h, if_neg (by decide)]
    congr 1
    exact Int32.zero_mul
  · rw [h, if_pos rfl]
    congr 1
    exact Int32.one_mul _
theorem rsm_ix {k ob : Nat} {w : Int32} (hk : k < 8) (ho : ob < 4) (hw : w.toInt = (ob : Int)) : ((3760 + (4 * Int32.ofNat k)) + w).toInt = ((3760 + ob + 4 * k : Nat) : Int) := by
  have e1 : (3760 : Int32).toInt = 3760 := rfl
  have e2 : (4 : Int32).toInt = 4 := rfl
  have hk' : (Int32.ofNat k).toInt = (k : Int) := i32n (by omega)
  have m : (4 * Int32.ofNat k).toInt = 4 * (k : Int) := by
    rw [i32_mul (by rw [e2, hk']; omega) (by rw [e2, hk']; omega), e2, hk']
  have a : (3760 + (4 * Int32.ofNat k)).toInt = 3760 + 4 * (k : Int) := by
    rw [i32_add (by rw [e1, m]; omega) (by rw [e1, m]; omega), e1, m]
  rw [i32_add (by rw [a, hw]; omega) (by rw [a, hw]; omega), a, hw]
  omega
theorem rsm_loop (hT : aTabOk) {M : mHe} (hM : yTy M) {S ob : Nat} (hS : S ≤ 8) (ho : ob < 4) (hz : ∀ xs : tXs, yRd xs M 120 10 = some (.int (Int32.ofNat S))) {F : Nat → Int32} (hF : ntRows M 120 (3760 + ob) 4 F) {set w : Int32} (hw : w.toInt = (ob : Int)) : ∀ (d k : Nat) (lv : List (Nat × Value)), k + d = S → mlg 0 lv = some (.ref 128) → mlg 1 lv = some (.int set) → mlg 2 lv = some (.int w) → mlg 3 lv = some (.int (ntS F set k)) → mlg 4 lv = some (.int (Int32.ofNat k)) → mEv none 60 (350, 5, lv, []) M (fun r M' => r = some (.int (ntS F set S)) ∧ M' = M) := by
  intro d
  induction d with
  | zero =>
    intro k lv hk h0 h1 h2 h3 h4
    have hk : k = S := by omega
    subst hk
    refine e_then (e_il2 hT (y := 350) (pc := 5) (q := (yX12_sumOf, cX12_sumOf, 5, (some .int), 12)) rfl (show aTab 350 5 = some (.iload 4, 2, 0, 0, 0, 0, 0, 0) from rfl) rfl h4) ?_
    refine e_then (e_al1 hT (y := 350) (pc := 7) (q := (yX12_sumOf, cX12_sumOf, 5, (some .int), 12)) rfl (show aTab 350 7 = some (.aload_n 0, 1, 0, 0, 0, 0, 0, 0) from rfl) rfl h0) ?_
    refine e_then (e_getR hT (y := 350) (pc := 8) (q := (yX12_sumOf, cX12_sumOf, 5, (some .int), 12)) rfl (show aTab 350 8 = some (.getfield 7, 3, 0, 12, 0, 0, 0, 0) from rfl) rfl (by decide) (by decide) hM rfl rfl) ?_
    refine e_then (e_st hT (y := 350) (pc := 11) (q := (yX12_sumOf, cX12_sumOf, 5, (some .int), 12)) rfl (show aTab 350 11 = some (.bipush 10, 2, 0, 0, 0, 0, 0, 0) from rfl) (fr' := (350, 13, lv, [.int 10, .ref 129, .int (Int32.ofNat k)])) (M' := M) rfl) ?_
    refine e_then (e_aldR hT (y := 350) (pc := 13) (q := (yX12_sumOf, cX12_sumOf, 5, (some .int), 12)) rfl (show aTab 350 13 = some (.iaload, 1, 0, 0, 0, 0, 0, 0) from rfl) ⟨rfl, by omega⟩ hM rfl (show (10 : Int32).toInt = ((10 : Nat) : Int) from rfl) (by decide) (hz o00)) ?_
    refine e_then (e_icT hT (y := 350) (pc := 14) (q := (yX12_sumOf, cX12_sumOf, 5, (some .int), 12)) rfl (show aTab 350 14 = some (.if_icmp .ge 34, 3, 0, 0, 0, 0, 0, 0) from rfl) rfl (t := 48) rfl (cdT (Int.le_refl _))) ?_
    refine e_then (e_il1 hT (y := 350) (pc := 48) (q := (yX12_sumOf, cX12_sumOf, 5, (some .int), 12)) rfl (show aTab 350 48 = some (.iload_n 3, 1, 0, 0, 0, 0, 0, 0) from rfl) rfl h3) ?_
    exact e_fin (e_iret hT (y := 350) (pc := 49) (q := (yX12_sumOf, cX12_sumOf, 5, (some .int), 12)) rfl (show aTab 350 49 = some (.ireturn, 1, 0, 0, 0, 0, 0, 0) from rfl) ⟨rfl, rfl⟩) ⟨rfl, rfl⟩
  | succ d ih =>
    intro k lv hk h0 h1 h2 h3 h4
    have hkn : (Int32.ofNat k).toInt = (k : Int) := i32n (by omega)
    have hSn : (Int32.ofNat S).toInt = (S : Int) := i32n (by omega)
    refine e_then (e_il2 hT (y := 350) (pc := 5) (q := (yX12_sumOf, cX12_sumOf, 5, (some .int), 12)) rfl (show aTab 350 5 = some (.iload 4, 2, 0, 0, 0, 0, 0, 0) from rfl) rfl h4) ?_
    refine e_then (e_al1 hT (y := 350) (pc := 7) (q := (yX12_sumOf, cX12_sumOf, 5, (some .int), 12)) rfl (show aTab 350 7 = some (.aload_n 0, 1, 0, 0, 0, 0, 0, 0) from rfl) rfl h0) ?_
    refine e_then (e_getR hT (y := 350) (pc := 8) (q := (yX12_sumOf, cX12_sumOf, 5, (some .int), 12)) rfl (show aTab 350 8 = some (.getfield 7, 3, 0, 12, 0, 0, 0, 0) from rfl) rfl (by decide) (by decide) hM rfl rfl) ?_
    refine e_then (e_st hT (y := 350) (pc := 11) (q := (yX12_sumOf, cX12_sumOf, 5, (some .int), 12)) rfl (show aTab 350 11 = some (.bipush 10, 2, 0, 0, 0, 0, 0, 0) from rfl) (fr' := (350, 13, lv, [.int 10, .ref 129, .int (Int32.ofNat k)])) (M' := M) rfl) ?_
    refine e_then (e_aldR hT (y := 350) (pc := 13) (q := (yX12_sumOf, cX12_sumOf, 5, (some .int), 12)) rfl (show aTab 350 13 = some (.iaload, 1, 0, 0, 0, 0, 0, 0) from rfl) ⟨rfl, by omega⟩ hM rfl (show (10 : Int32).toInt = ((10 : Nat) : Int) from rfl) (by decide) (hz o00)) ?_
    refine e_then (e_icF hT (y := 350) (pc := 14) (q := (yX12_sumOf, cX12_sumOf, 5, (some .int), 12)) rfl (show aTab 350 14 = some (.if_icmp .ge 34, 3, 0, 0, 0, 0, 0, 0) from rfl) rfl (t := 48) rfl (cdF (by show ¬ _ ≤ _; omega))) ?_
    refine e_then (e_il1 hT (y := 350) (pc := 17) (q := (yX12_sumOf, cX12_sumOf, 5, (some .int), 12)) rfl (show aTab 350 17 = some (.iload_n 3, 1, 0, 0, 0, 0, 0, 0) from rfl) rfl h3) ?_
    refine e_then (e_il1 hT (y := 350) (pc := 18) (q := (yX12_sumOf, cX12_sumOf, 5, (some .int), 12)) rfl (show aTab 350 18 = some (.iload_n 1, 1, 0, 0, 0, 0, 0, 0) from rfl) rfl h1) ?_
    refine e_then (e_il2 hT (y := 350) (pc := 19) (q := (yX12_sumOf, cX12_sumOf, 5, (some .int), 12)) rfl (show aTab 350 19 = some (.iload 4, 2, 0, 0, 0, 0, 0, 0) from rfl) rfl h4) ?_
    refine e_then (e_st hT (y := 350) (pc := 21) (q := (yX12_sumOf, cX12_sumOf, 5, (some .int), 12)) rfl (show aTab 350 21 = some (.ishr, 1, 0, 0, 0, 0, 0, 0) from rfl) (fr' := (350, 22, lv, [.int (set >>> ((Int32.ofNat k) &&& 31)), .int (ntS F set k)])) (M' := M) rfl) ?_
    refine e_then (e_st hT (y := 350) (pc := 22) (q := (yX12_sumOf, cX12_sumOf, 5, (some .int), 12)) rfl (show aTab 350 22 = some (.iconst 1, 1, 0, 0, 0, 0, 0, 0) from rfl) (fr' := (350, 23, lv, [.int 1, .int (set >>> ((Int32.ofNat k) &&& 31)), .int (ntS F set k)])) (M' := M) rfl) ?_
    refine e_then (e_st hT (y := 350) (pc := 23) (q := (yX12_sumOf, cX12_sumOf, 5, (some .int), 12)) rfl (show aTab 350 23 = some (.iand, 1, 0, 0, 0, 0, 0, 0) from rfl) (fr' := (350, 24, lv, [.int ((set >>> ((Int32.ofNat k) &&& 31)) &&& 1), .int (ntS F set k)])) (M' := M) rfl) ?_
    refine e_then (e_al1 hT (y := 350) (pc := 24) (q := (yX12_sumOf, cX12_sumOf, 5, (some .int), 12)) rfl (show aTab 350 24 = some (.aload_n 0, 1, 0, 0, 0, 0, 0, 0) from rfl) rfl h0) ?_
    refine e_then (e_getR hT (y := 350) (pc := 25) (q := (yX12_sumOf, cX12_sumOf, 5, (some .int), 12)) rfl (show aTab 350 25 = some (.getfield 7, 3, 0, 12, 0, 0, 0, 0) from rfl) rfl (by decide) (by decide) hM rfl rfl) ?_
    refine e_then (e_st hT (y := 350) (pc := 28) (q := (yX12_sumOf, cX12_sumOf, 5, (some .int), 12)) rfl (show aTab 350 28 = some (.sipush 3760, 3, 0, 0, 0, 0, 0, 0) from rfl) (fr' := (350, 31, lv, [.int 3760, .ref 129, .int ((set >>> ((Int32.ofNat k) &&& 31)) &&& 1), .int (ntS F set k)])) (M' := M) rfl) ?_
    refine e_then (e_st hT (y := 350) (pc := 31) (q := (yX12_sumOf, cX12_sumOf, 5, (some .int), 12)) rfl (show aTab 350 31 = some (.iconst 4, 1, 0, 0, 0, 0, 0, 0) from rfl) (fr' := (350, 32, lv, [.int 4, .int 3760, .ref 129, .int ((set >>> ((Int32.ofNat k) &&& 31)) &&& 1), .int (ntS F set k)])) (M' := M) rfl) ?_
    refine e_then (e_il2 hT (y := 350) (pc := 32) (q := (yX12_sumOf, cX12_sumOf, 5, (some .int), 12)) rfl (show aTab 350 32 = some (.iload 4, 2, 0, 0, 0, 0, 0, 0) from rfl) rfl h4) ?_
    refine e_then (e_st hT (y := 350) (pc := 34) (q := (yX12_sumOf, cX12_sumOf, 5, (some .int), 12)) rfl (show aTab 350 34 = some (.imul, 1, 0, 0, 0, 0, 0, 0) from rfl) (fr' := (350, 35, lv, [.int (4 * (Int32.ofNat k)), .int 3760, .ref 129, .int ((set >>> ((Int32.ofNat k) &&& 31)) &&& 1), .int (ntS F set k)])) (M' := M) rfl) ?_
    refine e_then (e_st hT (y := 350) (pc := 35) (q := (yX12_sumOf, cX12_sumOf, 5, (some .int), 12)) rfl (show aTab 350 35 = some (.iadd, 1, 0, 0, 0, 0, 0, 0) from rfl) (fr' := (350, 36, lv, [.int (3760 + (4 * (Int32.ofNat k))), .ref 129, .int ((set >>> ((Int32.ofNat k) &&& 31)) &&& 1), .int (ntS F set k)])) (M' := M) rfl) ?_
    refine e_then (e_il1 hT (y := 350) (pc := 36) (q := (yX12_sumOf, cX12_sumOf, 5, (some .int), 12)) rfl (show aTab 350 36 = some (.iload_n 2, 1, 0, 0, 0, 0, 0, 0) from rfl) rfl h2) ?_
    refine e_then (e_st hT (y := 350) (pc := 37) (q := (yX12_sumOf, cX12_sumOf, 5, (some .int), 12)) rfl (show aTab 350 37 = some (.iadd, 1, 0, 0, 0, 0, 0, 0) from rfl) (fr' := (350, 38, lv, [.int ((3760 + (4 * (Int32.ofNat k))) + w), .ref 129, .int ((set >>> ((Int32.ofNat k) &&& 31)) &&& 1), .int (ntS F set k)])) (M' := M) rfl) ?_
    refine e_then (e_aldR hT (y := 350) (pc := 38) (q := (yX12_sumOf, cX12_sumOf, 5, (some .int), 12)) rfl (show aTab 350 38 = some (.iaload, 1, 0, 0, 0, 0, 0, 0) from rfl) ⟨rfl, by omega⟩ hM rfl (rsm_ix (by omega) ho hw) (by omega) (hF k (by omega) o00)) ?_
    refine e_then (e_st hT (y := 350) (pc := 39) (q := (yX12_sumOf, cX12_sumOf, 5, (some .int), 12)) rfl (show aTab 350 39 = some (.imul, 1, 0, 0, 0, 0, 0, 0) from rfl) (fr' := (350, 40, lv, [.int (((set >>> ((Int32.ofNat k) &&& 31)) &&& 1) * (F k)), .int (ntS F set k)])) (M' := M) rfl) ?_
    refine e_then (e_st hT (y := 350) (pc := 40) (q := (yX12_sumOf, cX12_sumOf, 5, (some .int), 12)) rfl (show aTab 350 40 = some (.iadd, 1, 0, 0, 0, 0, 0, 0) from rfl) (fr' := (350, 41, lv, [.int ((ntS F set k) + (((set >>> ((Int32.ofNat k) &&& 31)) &&& 1) * (F k)))])) (M' := M) rfl) ?_
    refine e_then (e_is1 hT (y := 350) (pc := 41) (q := (yX12_sumOf, cX12_sumOf, 5, (some .int), 12)) rfl (show aTab 350 41 = some (.istore_n 3, 1, 0, 0, 0, 0, 0, 0) from rfl) ⟨rfl, by decide⟩) ?_
    refine e_then (e_ii hT (y := 350) (pc := 42) (q := (yX12_sumOf, cX12_sumOf, 5, (some .int), 12)) rfl (show aTab 350 42 = some (.iinc 4 1, 3, 0, 0, 0, 0, 0, 0) from rfl) ⟨rfl, by decide⟩ (mlg_i h4 (by decide))) ?_
    refine e_then (e_st hT (y := 350) (pc := 45) (q := (yX12_sumOf, cX12_sumOf, 5, (some .int), 12)) rfl (show aTab 350 45 = some (.goto (-40), 3, 0, 0, 0, 0, 0, 0) from rfl) (fr' := (350, 5, (mlp 4 (.int ((Int32.ofNat k) + Int32.ofInt 1)) (mlp 3 (.int ((ntS F set k) + (((set >>> ((Int32.ofNat k) &&& 31)) &&& 1) * (F k)))) lv)), [])) (M' := M) rfl) ?_
    rw [ntS_1, os1 (by omega)]
    exact ih (k + 1) _ (by omega) (mlg_r (mlg_r h0 (by decide)) (by decide)) (mlg_i (mlg_i h1 (by decide)) (by decide)) (mlg_i (mlg_i h2 (by decide)) (by decide)) (mlg_i (mlg_eq 3 _ _) (by decide)) (mlg_eq 4 _ _)
theorem rsm_run (hT : aTabOk) {M : mHe} (hM : yTy M) {S ob : Nat} (hS : S ≤ 8) (ho : ob < 4) (hz : ∀ xs : tXs, yRd xs M 120 10 = some (.int (Int32.ofNat S))) {F : Nat → Int32} (hF : ntRows M 120 (3760 + ob) 4 F) {set w : Int32} (hw : w.toInt = (ob : Int)) : mEv none 60 (350, 0, lv_args 0 [.ref 128, .int set, .int w], []) M (fun r M' => r = some (.int (ntS F set S)) ∧ M' = M) := by
  refine e_then (e_st hT (y := 350) (pc := 0) (q := (yX12_sumOf, cX12_sumOf, 5, (some .int), 12)) rfl (show aTab 350 0 = some (.iconst 0, 1, 0, 0, 0, 0, 0, 0) from rfl) (fr' := (350, 1, (lv_args 0 [.ref 128, .int set, .int w]), [.int 0])) (M' := M) rfl) ?_
  refine e_then (e_is1 hT (y := 350) (pc := 1) (q := (yX12_sumOf, cX12_sumOf, 5, (some .int), 12)) rfl (show aTab 350 1 = some (.istore_n 3, 1, 0, 0, 0, 0, 0, 0) from rfl) ⟨rfl, by decide⟩) ?_
  refine e_then (e_st hT (y := 350) (pc := 2) (q := (yX12_sumOf, cX12_sumOf, 5, (some .int), 12)) rfl (show aTab 350 2 = some (.iconst 0, 1, 0, 0, 0, 0, 0, 0) from rfl) (fr' := (350, 3, (mlp 3 (.int 0) (lv_args 0 [.ref 128, .int set, .int w])), [.int 0])) (M' := M) rfl) ?_
  refine e_then (e_is2 hT (y := 350) (pc := 3) (q := (yX12_sumOf, cX12_sumOf, 5, (some .int), 12)) rfl (show aTab 350 3 = some (.istore 4, 2, 0, 0, 0, 0, 0, 0) from rfl) ⟨rfl, by decide⟩) ?_
  exact rsm_loop hT hM hS ho hz hF hw S 0 _ (by omega) (mlg_r (mlg_r rfl (by decide)) (by decide)) (mlg_i (mlg_i rfl (by decide)) (by decide)) (mlg_i (mlg_i rfl (by decide)) (by decide)) (mlg_i (mlg_eq 3 _ _) (by decide)) (mlg_eq 4 _ _)
def gB (b : Bool) : Int32 := bif b then 1 else 0
theorem gB_01 (b : Bool) : gB b = 0 ∨ gB b = 1 := by cases b; exact Or.inl rfl; exact Or.inr rfl
theorem rgo_ix {k : Nat} (hk : k < 8) : ((3760 + (4 * Int32.ofNat k)) + 3).toInt = ((3763 + 4 * k : Nat) : Int) := by
  have h := rsm_ix (k := k) (ob := 3) (w := 3) hk (by omega) rfl
  rw [h]
theorem ntG_f {F : Nat → Int32} {s : Int32} {k : Nat} (h : ntG F s k = false) : ntG F s (k + 1) = false := by
  show (ntG F s k && _) = false
  rw [h]; rfl
theorem ntG_0 {F : Nat → Int32} {s : Int32} {k : Nat} (h : ntG F s k = true) (hb : ntB s k = 0) : ntG F s (k + 1) = true := by
  show (ntG F s k && (decide (¬ ntB s k = 1) || _)) = true
  rw [h, hb]; rfl
theorem ntG_1 {F : Nat → Int32} {s : Int32} {k : Nat} (h : ntG F s k = true) (hb : ntB s k = 1) {b : Bool} (he : decide (F k &&& s &&& ((1 <<< (Int32.ofNat k &&& 31)) ^^^ -1) = 0) = b) : ntG F s (k + 1) = b := by
  show (ntG F s k && (decide (¬ ntB s k = 1) || decide (F k &&& s &&& ((1 <<< (Int32.ofNat k &&& 31)) ^^^ -1) = 0))) = b
  rw [h, hb, he]; cases b <;> rfl
theorem rgo_loop (hT : aTabOk) {M : mHe} (hM : yTy M) {S : Nat} (hS : S ≤ 8) (hz : ∀ xs : tXs, yRd xs M 120 10 = some (.int (Int32.ofNat S))) {F : Nat → Int32} (hF : ntRows M 120 3763 4 F) {set : Int32} : ∀ (d k : Nat) (lv : List (Nat × Value)), k + d = S → mlg 0 lv = some (.ref 128) → mlg 1 lv = some (.int set) → mlg 2 lv = some (.int (gB (ntG F set k))) → mlg 3 lv = some (.int (Int32.ofNat k)) → mEv none 60 (351, 4, lv, []) M (fun r M' => r = some (.int (gB (ntG F set S))) ∧ M' = M) := by
  intro d
  induction d with
  | zero =>
    intro k lv hk h0 h1 h2 h3
    have hk : k = S := by omega
    subst hk
    refine e_then (e_il1 hT (y := 351) (pc := 4) (q := (yX12_goesTogether, cX12_goesTogether, 4, (some .boolean), 12)) rfl (show aTab 351 4 = some (.iload_n 3, 1, 0, 0, 0, 0, 0, 0) from rfl) rfl h3) ?_
    refine e_then (e_al1 hT (y := 351) (pc := 5) (q := (yX12_goesTogether, cX12_goesTogether, 4, (some .boolean), 12)) rfl (show aTab 351 5 = some (.aload_n 0, 1, 0, 0, 0, 0, 0, 0) from rfl) rfl h0) ?_
    refine e_then (e_getR hT (y := 351) (pc := 6) (q := (yX12_goesTogether, cX12_goesTogether, 4, (some .boolean), 12)) rfl (show aTab 351 6 = some (.getfield 7, 3, 0, 12, 0, 0, 0, 0) from rfl) rfl (by decide) (by decide) hM rfl rfl) ?_
    refine e_then (e_st hT (y := 351) (pc := 9) (q := (yX12_goesTogether, cX12_goesTogether, 4, (some .boolean), 12)) rfl (show aTab 351 9 = some (.bipush 10, 2, 0, 0, 0, 0, 0, 0) from rfl) (fr' := (351, 11, lv, [.int 10, .ref 129, .int (Int32.ofNat k)])) (M' := M) rfl) ?_
    refine e_then (e_aldR hT (y := 351) (pc := 11) (q := (yX12_goesTogether, cX12_goesTogether, 4, (some .boolean), 12)) rfl (show aTab 351 11 = some (.iaload, 1, 0, 0, 0, 0, 0, 0) from rfl) ⟨rfl, by omega⟩ hM rfl (show (10 : Int32).toInt = ((10 : Nat) : Int) from rfl) (by decide) (hz o00)) ?_
    refine e_then (e_icT hT (y := 351) (pc := 12) (q := (yX12_goesTogether, cX12_goesTogether, 4, (some .boolean), 12)) rfl (show aTab 351 12 = some (.if_icmp .ge 52, 3, 0, 0, 0, 0, 0, 0) from rfl) rfl (t := 64) rfl (cdT (Int.le_refl _))) ?_
    refine e_then (e_il1 hT (y := 351) (pc := 64) (q := (yX12_goesTogether, cX12_goesTogether, 4, (some .boolean), 12)) rfl (show aTab 351 64 = some (.iload_n 2, 1, 0, 0, 0, 0, 0, 0) from rfl) rfl h2) ?_
    exact e_fin (e_zret hT (y := 351) (pc := 65) (q := (yX12_goesTogether, cX12_goesTogether, 4, (some .boolean), 12)) rfl (show aTab 351 65 = some (.ireturn, 1, 0, 0, 0, 0, 0, 0) from rfl) ⟨rfl, rfl⟩ (gB_01 _)) ⟨rfl, rfl⟩
  | succ d ih =>
    intro k lv hk h0 h1 h2 h3
    have z0 : (0 : Int32).toInt = 0 := rfl
    have z1 : (1 : Int32).toInt = 1 := rfl
    have hkn : (Int32.ofNat k).toInt = (k : Int) := i32n (by omega)
    have hSn : (Int32.ofNat S).toInt = (S : Int) := i32n (by omega)
    cases hg : ntG F set k with
    | false =>
      rw [hg] at h2
      refine e_then (e_il1 hT (y := 351) (pc := 4) (q := (yX12_goesTogether, cX12_goesTogether, 4, (some .boolean), 12)) rfl (show aTab 351 4 = some (.iload_n 3, 1, 0, 0, 0, 0, 0, 0) from rfl) rfl h3) ?_
      refine e_then (e_al1 hT (y := 351) (pc := 5) (q := (yX12_goesTogether, cX12_goesTogether, 4, (some .boolean), 12)) rfl (show aTab 351 5 = some (.aload_n 0, 1, 0, 0, 0, 0, 0, 0) from rfl) rfl h0) ?_
      refine e_then (e_getR hT (y := 351) (pc := 6) (q := (yX12_goesTogether, cX12_goesTogether, 4, (some .boolean), 12)) rfl (show aTab 351 6 = some (.getfield 7, 3, 0, 12, 0, 0, 0, 0) from rfl) rfl (by decide) (by decide) hM rfl rfl) ?_
      refine e_then (e_st hT (y := 351) (pc := 9) (q := (yX12_goesTogether, cX12_goesTogether, 4, (some .boolean), 12)) rfl (show aTab 351 9 = some (.bipush 10, 2, 0, 0, 0, 0, 0, 0) from rfl) (fr' := (351, 11, lv, [.int 10, .ref 129, .int (Int32.ofNat k)])) (M' := M) rfl) ?_
      refine e_then (e_aldR hT (y := 351) (pc := 11) (q := (yX12_goesTogether, cX12_goesTogether, 4, (some .boolean), 12)) rfl (show aTab 351 11 = some (.iaload, 1, 0, 0, 0, 0, 0, 0) from rfl) ⟨rfl, by omega⟩ hM rfl (show (10 : Int32).toInt = ((10 : Nat) : Int) from rfl) (by decide) (hz o00)) ?_
      refine e_then (e_icF hT (y := 351) (pc := 12) (q := (yX12_goesTogether, cX12_goesTogether, 4, (some .boolean), 12)) rfl (show aTab 351 12 = some (.if_icmp .ge 52, 3, 0, 0, 0, 0, 0, 0) from rfl) rfl (t := 64) rfl (cdF (by show ¬ _ ≤ _; omega))) ?_
      refine e_then (e_il1 hT (y := 351) (pc := 15) (q := (yX12_goesTogether, cX12_goesTogether, 4, (some .boolean), 12)) rfl (show aTab 351 15 = some (.iload_n 2, 1, 0, 0, 0, 0, 0, 0) from rfl) rfl h2) ?_
      refine e_then (e_ifT hT (y := 351) (pc := 16) (q := (yX12_goesTogether, cX12_goesTogether, 4, (some .boolean), 12)) rfl (show aTab 351 16 = some (.ifCond .eq 40, 3, 0, 0, 0, 0, 0, 0) from rfl) rfl (t := 56) rfl (cdT rfl)) ?_
      refine e_then (e_st hT (y := 351) (pc := 56) (q := (yX12_goesTogether, cX12_goesTogether, 4, (some .boolean), 12)) rfl (show aTab 351 56 = some (.iconst 0, 1, 0, 0, 0, 0, 0, 0) from rfl) (fr' := (351, 57, lv, [.int 0])) (M' := M) rfl) ?_
      refine e_then (e_is1 hT (y := 351) (pc := 57) (q := (yX12_goesTogether, cX12_goesTogether, 4, (some .boolean), 12)) rfl (show aTab 351 57 = some (.istore_n 2, 1, 0, 0, 0, 0, 0, 0) from rfl) ⟨rfl, by decide⟩) ?_
      refine e_then (e_ii hT (y := 351) (pc := 58) (q := (yX12_goesTogether, cX12_goesTogether, 4, (some .boolean), 12)) rfl (show aTab 351 58 = some (.iinc 3 1, 3, 0, 0, 0, 0, 0, 0) from rfl) ⟨rfl, by decide⟩ (mlg_i h3 (by decide))) ?_
      refine e_then (e_st hT (y := 351) (pc := 61) (q := (yX12_goesTogether, cX12_goesTogether, 4, (some .boolean), 12)) rfl (show aTab 351 61 = some (.goto (-57), 3, 0, 0, 0, 0, 0, 0) from rfl) (fr' := (351, 4, (mlp 3 (.int ((Int32.ofNat k) + Int32.ofInt 1)) (mlp 2 (.int 0) lv)), [])) (M' := M) rfl) ?_
      rw [os1 (by omega)]
      exact ih (k + 1) _ (by omega) (mlg_r (mlg_r h0 (by decide)) (by decide)) (mlg_i (mlg_i h1 (by decide)) (by decide)) (by rw [show ntG F set (k + 1) = false from (ntG_f hg)]; exact (mlg_i (mlg_eq 2 _ _) (by decide))) (mlg_eq 3 _ _)
    | true =>
      rw [hg] at h2
      rcases ntB_01 set k with hb | hb
      · have hb2 : ((set >>> (Int32.ofNat k &&& 31)) &&& 1).toInt = 0 := by rw [show ((set >>> (Int32.ofNat k &&& 31)) &&& 1) = ntB set k from rfl, hb]; rfl
        refine e_then (e_il1 hT (y := 351) (pc := 4) (q := (yX12_goesTogether, cX12_goesTogether, 4, (some .boolean), 12)) rfl (show aTab 351 4 = some (.iload_n 3, 1, 0, 0, 0, 0, 0, 0) from rfl) rfl h3) ?_
        refine e_then (e_al1 hT (y := 351) (pc := 5) (q := (yX12_goesTogether, cX12_goesTogether, 4, (some .boolean), 12)) rfl (show aTab 351 5 = some (.aload_n 0, 1, 0, 0, 0, 0, 0, 0) from rfl) rfl h0) ?_
        refine e_then (e_getR hT (y := 351) (pc := 6) (q := (yX12_goesTogether, cX12_goesTogether, 4, (some .boolean), 12)) rfl (show aTab 351 6 = some (.getfield 7, 3, 0, 12, 0, 0, 0, 0) from rfl) rfl (by decide) (by decide) hM rfl rfl) ?_
        refine e_then (e_st hT (y := 351) (pc := 9) (q := (yX12_goesTogether, cX12_goesTogether, 4, (some .boolean), 12)) rfl (show aTab 351 9 = some (.bipush 10, 2, 0, 0, 0, 0, 0, 0) from rfl) (fr' := (351, 11, lv, [.int 10, .ref 129, .int (Int32.ofNat k)])) (M' := M) rfl) ?_
        refine e_then (e_aldR hT (y := 351) (pc := 11) (q := (yX12_goesTogether, cX12_goesTogether, 4, (some .boolean), 12)) rfl (show aTab 351 11 = some (.iaload, 1, 0, 0, 0, 0, 0, 0) from rfl) ⟨rfl, by omega⟩ hM rfl (show (10 : Int32).toInt = ((10 : Nat) : Int) from rfl) (by decide) (hz o00)) ?_
        refine e_then (e_icF hT (y := 351) (pc := 12) (q := (yX12_goesTogether, cX12_goesTogether, 4, (some .boolean), 12)) rfl (show aTab 351 12 = some (.if_icmp .ge 52, 3, 0, 0, 0, 0, 0, 0) from rfl) rfl (t := 64) rfl (cdF (by show ¬ _ ≤ _; omega))) ?_
        refine e_then (e_il1 hT (y := 351) (pc := 15) (q := (yX12_goesTogether, cX12_goesTogether, 4, (some .boolean), 12)) rfl (show aTab 351 15 = some (.iload_n 2, 1, 0, 0, 0, 0, 0, 0) from rfl) rfl h2) ?_
        refine e_then (e_ifF hT (y := 351) (pc := 16) (q := (yX12_goesTogether, cX12_goesTogether, 4, (some .boolean), 12)) rfl (show aTab 351 16 = some (.ifCond .eq 40, 3, 0, 0, 0, 0, 0, 0) from rfl) rfl (t := 56) rfl (cdF (by show ¬ (1 : Int32).toInt = 0; decide))) ?_
        refine e_then (e_il1 hT (y := 351) (pc := 19) (q := (yX12_goesTogether, cX12_goesTogether, 4, (some .boolean), 12)) rfl (show aTab 351 19 = some (.iload_n 1, 1, 0, 0, 0, 0, 0, 0) from rfl) rfl h1) ?_
        refine e_then (e_il1 hT (y := 351) (pc := 20) (q := (yX12_goesTogether, cX12_goesTogether, 4, (some .boolean), 12)) rfl (show aTab 351 20 = some (.iload_n 3, 1, 0, 0, 0, 0, 0, 0) from rfl) rfl h3) ?_
        refine e_then (e_st hT (y := 351) (pc := 21) (q := (yX12_goesTogether, cX12_goesTogether, 4, (some .boolean), 12)) rfl (show aTab 351 21 = some (.ishr, 1, 0, 0, 0, 0, 0, 0) from rfl) (fr' := (351, 22, lv, [.int (set >>> ((Int32.ofNat k) &&& 31))])) (M' := M) rfl) ?_
        refine e_then (e_st hT (y := 351) (pc := 22) (q := (yX12_goesTogether, cX12_goesTogether, 4, (some .boolean), 12)) rfl (show aTab 351 22 = some (.iconst 1, 1, 0, 0, 0, 0, 0, 0) from rfl) (fr' := (351, 23, lv, [.int 1, .int (set >>> ((Int32.ofNat k) &&& 31))])) (M' := M) rfl) ?_
        refine e_then (e_st hT (y := 351) (pc := 23) (q := (yX12_goesTogether, cX12_goesTogether, 4, (some .boolean), 12)) rfl (show aTab 351 23 = some (.iand, 1, 0, 0, 0, 0, 0, 0) from rfl) (fr' := (351, 24, lv, [.int ((set >>> ((Int32.ofNat k) &&& 31)) &&& 1)])) (M' := M) rfl) ?_
        refine e_then (e_ifT hT (y := 351) (pc := 24) (q := (yX12_goesTogether, cX12_goesTogether, 4, (some .boolean), 12)) rfl (show aTab 351 24 = some (.ifCond .eq 28, 3, 0, 0, 0, 0, 0, 0) from rfl) rfl (t := 52) rfl (cdT (by show _ = _; exact hb2))) ?_
        refine e_then (e_st hT (y := 351) (pc := 52) (q := (yX12_goesTogether, cX12_goesTogether, 4, (some .boolean), 12)) rfl (show aTab 351 52 = some (.iconst 1, 1, 0, 0, 0, 0, 0, 0) from rfl) (fr' := (351, 53, lv, [.int 1])) (M' := M) rfl) ?_
        refine e_then (e_st hT (y := 351) (pc := 53) (q := (yX12_goesTogether, cX12_goesTogether, 4, (some .boolean), 12)) rfl (show aTab 351 53 = some (.goto 4, 3, 0, 0, 0, 0, 0, 0) from rfl) (fr' := (351, 57, lv, [.int 1])) (M' := M) rfl) ?_
        refine e_then (e_is1 hT (y := 351) (pc := 57) (q := (yX12_goesTogether, cX12_goesTogether, 4, (some .boolean), 12)) rfl (show aTab 351 57 = some (.istore_n 2, 1, 0, 0, 0, 0, 0, 0) from rfl) ⟨rfl, by decide⟩) ?_
        refine e_then (e_ii hT (y := 351) (pc := 58) (q := (yX12_goesTogether, cX12_goesTogether, 4, (some .boolean), 12)) rfl (show aTab 351 58 = some (.iinc 3 1, 3, 0, 0, 0, 0, 0, 0) from rfl) ⟨rfl, by decide⟩ (mlg_i h3 (by decide))) ?_
        refine e_then (e_st hT (y := 351) (pc := 61) (q := (yX12_goesTogether, cX12_goesTogether, 4, (some .boolean), 12)) rfl (show aTab 351 61 = some (.goto (-57), 3, 0, 0, 0, 0, 0, 0) from rfl) (fr' := (351, 4, (mlp 3 (.int ((Int32.ofNat k) + Int32.ofInt 1)) (mlp 2 (.int 1) lv)), [])) (M' := M) rfl) ?_
        rw [os1 (by omega)]
        exact ih (k + 1) _ (by omega) (mlg_r (mlg_r h0 (by decide)) (by decide)) (mlg_i (mlg_i h1 (by decide)) (by decide)) (by rw [show ntG F set (k + 1) = true from (ntG_0 hg hb)]; exact (mlg_i (mlg_eq 2 _ _) (by decide))) (mlg_eq 3 _ _)
      · have hb2 : ((set >>> (Int32.ofNat k &&& 31)) &&& 1).toInt = 1 := by rw [show ((set >>> (Int32.ofNat k &&& 31)) &&& 1) = ntB set k from rfl, hb]; rfl
        by_cases he : F k &&& set &&& ((1 <<< (Int32.ofNat k &&& 31)) ^^^ -1) = 0
        · have hn := he
          refine e_then (e_il1 hT (y := 351) (pc := 4) (q := (yX12_goesTogether, cX12_goesTogether, 4, (some .boolean), 12)) rfl (show aTab 351 4 = some (.iload_n 3, 1, 0, 0, 0, 0, 0, 0) from rfl) rfl h3) ?_
          refine e_then (e_al1 hT (y := 351) (pc := 5) (q := (yX12_goesTogether, cX12_goesTogether, 4, (some .boolean), 12)) rfl (show aTab 351 5 = some (.aload_n 0, 1, 0, 0, 0, 0, 0, 0) from rfl) rfl h0) ?_
          refine e_then (e_getR hT (y := 351) (pc := 6) (q := (yX12_goesTogether, cX12_goesTogether, 4, (some .boolean), 12)) rfl (show aTab 351 6 = some (.getfield 7, 3, 0, 12, 0, 0, 0, 0) from rfl) rfl (by decide) (by decide) hM rfl rfl) ?_
          refine e_then (e_st hT (y := 351) (pc := 9) (q := (yX12_goesTogether, cX12_goesTogether, 4, (some .boolean), 12)) rfl (show aTab 351 9 = some (.bipush 10, 2, 0, 0, 0, 0, 0, 0) from rfl) (fr' := (351, 11, lv, [.int 10, .ref 129, .int (Int32.ofNat k)])) (M' := M) rfl) ?_
          refine e_then (e_aldR hT (y := 351) (pc := 11) (q := (yX12_goesTogether, cX12_goesTogether, 4, (some .boolean), 12)) rfl (show aTab 351 11 = some (.iaload, 1, 0, 0, 0, 0, 0, 0) from rfl) ⟨rfl, by omega⟩ hM rfl (show (10 : Int32).toInt = ((10 : Nat) : Int) from rfl) (by decide) (hz o00)) ?_
          refine e_then (e_icF hT (y := 351) (pc := 12) (q := (yX12_goesTogether, cX12_goesTogether, 4, (some .boolean), 12)) rfl (show aTab 351 12 = some (.if_icmp .ge 52, 3, 0, 0, 0, 0, 0, 0) from rfl) rfl (t := 64) rfl (cdF (by show ¬ _ ≤ _; omega))) ?_
          refine e_then (e_il1 hT (y := 351) (pc := 15) (q := (yX12_goesTogether, cX12_goesTogether, 4, (some .boolean), 12)) rfl (show aTab 351 15 = some (.iload_n 2, 1, 0, 0, 0, 0, 0, 0) from rfl) rfl h2) ?_
          refine e_then (e_ifF hT (y := 351) (pc := 16) (q := (yX12_goesTogether, cX12_goesTogether, 4, (some .boolean), 12)) rfl (show aTab 351 16 = some (.ifCond .eq 40, 3, 0, 0, 0, 0, 0, 0) from rfl) rfl (t := 56) rfl (cdF (by show ¬ (1 : Int32).toInt = 0; decide))) ?_
          refine e_then (e_il1 hT (y := 351) (pc := 19) (q := (yX12_goesTogether, cX12_goesTogether, 4, (some .boolean), 12)) rfl (show aTab 351 19 = some (.iload_n 1, 1, 0, 0, 0, 0, 0, 0) from rfl) rfl h1) ?_
          refine e_then (e_il1 hT (y := 351) (pc := 20) (q := (yX12_goesTogether, cX12_goesTogether, 4, (some .boolean), 12)) rfl (show aTab 351 20 = some (.iload_n 3, 1, 0, 0, 0, 0, 0, 0) from rfl) rfl h3) ?_
          refine e_then (e_st hT (y := 351) (pc := 21) (q := (yX12_goesTogether, cX12_goesTogether, 4, (some .boolean), 12)) rfl (show aTab 351 21 = some (.ishr, 1, 0, 0, 0, 0, 0, 0) from rfl) (fr' := (351, 22, lv, [.int (set >>> ((Int32.ofNat k) &&& 31))])) (M' := M) rfl) ?_
          refine e_then (e_st hT (y := 351) (pc := 22) (q := (yX12_goesTogether, cX12_goesTogether, 4, (some .boolean), 12)) rfl (show aTab 351 22 = some (.iconst 1, 1, 0, 0, 0, 0, 0, 0) from rfl) (fr' := (351, 23, lv, [.int 1, .int (set >>> ((Int32.ofNat k) &&& 31))])) (M' := M) rfl) ?_
          refine e_then (e_st hT (y := 351) (pc := 23) (q := (yX12_goesTogether, cX12_goesTogether, 4, (some .boolean), 12)) rfl (show aTab 351 23 = some (.iand, 1, 0, 0, 0, 0, 0, 0) from rfl) (fr' := (351, 24, lv, [.int ((set >>> ((Int32.ofNat k) &&& 31)) &&& 1)])) (M' := M) rfl) ?_
          refine e_then (e_ifF hT (y := 351) (pc := 24) (q := (yX12_goesTogether, cX12_goesTogether, 4, (some .boolean), 12)) rfl (show aTab 351 24 = some (.ifCond .eq 28, 3, 0, 0, 0, 0, 0, 0) from rfl) rfl (t := 52) rfl (cdF (by show ¬ _ = _; omega))) ?_
          refine e_then (e_al1 hT (y := 351) (pc := 27) (q := (yX12_goesTogether, cX12_goesTogether, 4, (some .boolean), 12)) rfl (show aTab 351 27 = some (.aload_n 0, 1, 0, 0, 0, 0, 0, 0) from rfl) rfl h0) ?_
          refine e_then (e_getR hT (y := 351) (pc := 28) (q := (yX12_goesTogether, cX12_goesTogether, 4, (some .boolean), 12)) rfl (show aTab 351 28 = some (.getfield 7, 3, 0, 12, 0, 0, 0, 0) from rfl) rfl (by decide) (by decide) hM rfl rfl) ?_
          refine e_then (e_st hT (y := 351) (pc := 31) (q := (yX12_goesTogether, cX12_goesTogether, 4, (some .boolean), 12)) rfl (show aTab 351 31 = some (.sipush 3760, 3, 0, 0, 0, 0, 0, 0) from rfl) (fr' := (351, 34, lv, [.int 3760, .ref 129])) (M' := M) rfl) ?_
          refine e_then (e_st hT (y := 351) (pc := 34) (q := (yX12_goesTogether, cX12_goesTogether, 4, (some .boolean), 12)) rfl (show aTab 351 34 = some (.iconst 4, 1, 0, 0, 0, 0, 0, 0) from rfl) (fr' := (351, 35, lv, [.int 4, .int 3760, .ref 129])) (M' := M) rfl) ?_
          refine e_then (e_il1 hT (y := 351) (pc := 35) (q := (yX12_goesTogether, cX12_goesTogether, 4, (some .boolean), 12)) rfl (show aTab 351 35 = some (.iload_n 3, 1, 0, 0, 0, 0, 0, 0) from rfl) rfl h3) ?_
          refine e_then (e_st hT (y := 351) (pc := 36) (q := (yX12_goesTogether, cX12_goesTogether, 4, (some .boolean), 12)) rfl (show aTab 351 36 = some (.imul, 1, 0, 0, 0, 0, 0, 0) from rfl) (fr' := (351, 37, lv, [.int (4 * (Int32.ofNat k)), .int 3760, .ref 129])) (M' := M) rfl) ?_
          refine e_then (e_st hT (y := 351) (pc := 37) (q := (yX12_goesTogether, cX12_goesTogether, 4, (some .boolean), 12)) rfl (show aTab 351 37 = some (.iadd, 1, 0, 0, 0, 0, 0, 0) from rfl) (fr' := (351, 38, lv, [.int (3760 + (4 * (Int32.ofNat k))), .ref 129])) (M' := M) rfl) ?_
          refine e_then (e_st hT (y := 351) (pc := 38) (q := (yX12_goesTogether, cX12_goesTogether, 4, (some .boolean), 12)) rfl (show aTab 351 38 = some (.iconst 3, 1, 0, 0, 0, 0, 0, 0) from rfl) (fr' := (351, 39, lv, [.int 3, .int (3760 + (4 * (Int32.ofNat k))), .ref 129])) (M' := M) rfl) ?_
          refine e_then (e_st hT (y := 351) (pc := 39) (q := (yX12_goesTogether, cX12_goesTogether, 4, (some .boolean), 12)) rfl (show aTab 351 39 = some (.iadd, 1, 0, 0, 0, 0, 0, 0) from rfl) (fr' := (351, 40, lv, [.int ((3760 + (4 * (Int32.ofNat k))) + 3), .ref 129])) (M' := M) rfl) ?_
          refine e_then (e_aldR hT (y := 351) (pc := 40) (q := (yX12_goesTogether, cX12_goesTogether, 4, (some .boolean), 12)) rfl (show aTab 351 40 = some (.iaload, 1, 0, 0, 0, 0, 0, 0) from rfl) ⟨rfl, by omega⟩ hM rfl (rgo_ix (by omega)) (by omega) (hF k (by omega) o00)) ?_
          refine e_then (e_il1 hT (y := 351) (pc := 41) (q := (yX12_goesTogether, cX12_goesTogether, 4, (some .boolean), 12)) rfl (show aTab 351 41 = some (.iload_n 1, 1, 0, 0, 0, 0, 0, 0) from rfl) rfl h1) ?_
          refine e_then (e_st hT (y := 351) (pc := 42) (q := (yX12_goesTogether, cX12_goesTogether, 4, (some .boolean), 12)) rfl (show aTab 351 42 = some (.iand, 1, 0, 0, 0, 0, 0, 0) from rfl) (fr' := (351, 43, lv, [.int ((F k) &&& set)])) (M' := M) rfl) ?_
          refine e_then (e_st hT (y := 351) (pc := 43) (q := (yX12_goesTogether, cX12_goesTogether, 4, (some .boolean), 12)) rfl (show aTab 351 43 = some (.iconst 1, 1, 0, 0, 0, 0, 0, 0) from rfl) (fr' := (351, 44, lv, [.int 1, .int ((F k) &&& set)])) (M' := M) rfl) ?_
          refine e_then (e_il1 hT (y := 351) (pc := 44) (q := (yX12_goesTogether, cX12_goesTogether, 4, (some .boolean), 12)) rfl (show aTab 351 44 = some (.iload_n 3, 1, 0, 0, 0, 0, 0, 0) from rfl) rfl h3) ?_
          refine e_then (e_st hT (y := 351) (pc := 45) (q := (yX12_goesTogether, cX12_goesTogether, 4, (some .boolean), 12)) rfl (show aTab 351 45 = some (.ishl, 1, 0, 0, 0, 0, 0, 0) from rfl) (fr' := (351, 46, lv, [.int (1 <<< ((Int32.ofNat k) &&& 31)), .int ((F k) &&& set)])) (M' := M) rfl) ?_
          refine e_then (e_st hT (y := 351) (pc := 46) (q := (yX12_goesTogether, cX12_goesTogether, 4, (some .boolean), 12)) rfl (show aTab 351 46 = some (.iconst (-1), 1, 0, 0, 0, 0, 0, 0) from rfl) (fr' := (351, 47, lv, [.int (-1), .int (1 <<< ((Int32.ofNat k) &&& 31)), .int ((F k) &&& set)])) (M' := M) rfl) ?_
          refine e_then (e_st hT (y := 351) (pc := 47) (q := (yX12_goesTogether, cX12_goesTogether, 4, (some .boolean), 12)) rfl (show aTab 351 47 = some (.ixor, 1, 0, 0, 0, 0, 0, 0) from rfl) (fr' := (351, 48, lv, [.int ((1 <<< ((Int32.ofNat k) &&& 31)) ^^^ (-1)), .int ((F k) &&& set)])) (M' := M) rfl) ?_
          refine e_then (e_st hT (y := 351) (pc := 48) (q := (yX12_goesTogether, cX12_goesTogether, 4, (some .boolean), 12)) rfl (show aTab 351 48 = some (.iand, 1, 0, 0, 0, 0, 0, 0) from rfl) (fr' := (351, 49, lv, [.int (((F k) &&& set) &&& ((1 <<< ((Int32.ofNat k) &&& 31)) ^^^ (-1)))])) (M' := M) rfl) ?_
          refine e_then (e_ifF hT (y := 351) (pc := 49) (q := (yX12_goesTogether, cX12_goesTogether, 4, (some .boolean), 12)) rfl (show aTab 351 49 = some (.ifCond .ne 7, 3, 0, 0, 0, 0, 0, 0) from rfl) rfl (t := 56) rfl (cdF (by show ¬ ¬ _ = _; rw [he]; decide))) ?_
          refine e_then (e_st hT (y := 351) (pc := 52) (q := (yX12_goesTogether, cX12_goesTogether, 4, (some .boolean), 12)) rfl (show aTab 351 52 = some (.iconst 1, 1, 0, 0, 0, 0, 0, 0) from rfl) (fr' := (351, 53, lv, [.int 1])) (M' := M) rfl) ?_
          refine e_then (e_st hT (y := 351) (pc := 53) (q := (yX12_goesTogether, cX12_goesTogether, 4, (some .boolean), 12)) rfl (show aTab 351 53 = some (.goto 4, 3, 0, 0, 0, 0, 0, 0) from rfl) (fr' := (351, 57, lv, [.int 1])) (M' := M) rfl) ?_
          refine e_then (e_is1 hT (y := 351) (pc := 57) (q := (yX12_goesTogether, cX12_goesTogether, 4, (some .boolean), 12)) rfl (show aTab 351 57 = some (.istore_n 2, 1, 0, 0, 0, 0, 0, 0) from rfl) ⟨rfl, by decide⟩) ?_
          refine e_then (e_ii hT (y := 351) (pc := 58) (q := (yX12_goesTogether, cX12_goesTogether, 4, (some .boolean), 12)) rfl (show aTab 351 58 = some (.iinc 3 1, 3, 0, 0, 0, 0, 0, 0) from rfl) ⟨rfl, by decide⟩ (mlg_i h3 (by decide))) ?_
          refine e_then (e_st hT (y := 351) (pc := 61) (q := (yX12_goesTogether, cX12_goesTogether, 4, (some .boolean), 12)) rfl (show aTab 351 61 = some (.goto (-57), 3, 0, 0, 0, 0, 0, 0) from rfl) (fr' := (351, 4, (mlp 3 (.int ((Int32.ofNat k) + Int32.ofInt 1)) (mlp 2 (.int 1) lv)), [])) (M' := M) rfl) ?_
          rw [os1 (by omega)]
          exact ih (k + 1) _ (by omega) (mlg_r (mlg_r h0 (by decide)) (by decide)) (mlg_i (mlg_i h1 (by decide)) (by decide)) (by rw [show ntG F set (k + 1) = true from (ntG_1 hg hb (decide_eq_true he))]; exact (mlg_i (mlg_eq 2 _ _) (by decide))) (mlg_eq 3 _ _)
        · have hn := he
          refine e_then (e_il1 hT (y := 351) (pc := 4) (q := (yX12_goesTogether, cX12_goesTogether, 4, (some .boolean), 12)) rfl (show aTab 351 4 = some (.iload_n 3, 1, 0, 0, 0, 0, 0, 0) from rfl) rfl h3) ?_
          refine e_then (e_al1 hT (y := 351) (pc := 5) (q := (yX12_goesTogether, cX12_goesTogether, 4, (some .boolean), 12)) rfl (show aTab 351 5 = some (.aload_n 0, 1, 0, 0, 0, 0, 0, 0) from rfl) rfl h0) ?_
          refine e_then (e_getR hT (y := 351) (pc := 6) (q := (yX12_goesTogether, cX12_goesTogether, 4, (some .boolean), 12)) rfl (show aTab 351 6 = some (.getfield 7, 3, 0, 12, 0, 0, 0, 0) from rfl) rfl (by decide) (by decide) hM rfl rfl) ?_
          refine e_then (e_st hT (y := 351) (pc := 9) (q := (yX12_goesTogether, cX12_goesTogether, 4, (some .boolean), 12)) rfl (show aTab 351 9 = some (.bipush 10, 2, 0, 0, 0, 0, 0, 0) from rfl) (fr' := (351, 11, lv, [.int 10, .ref 129, .int (Int32.ofNat k)])) (M' := M) rfl) ?_
          refine e_then (e_aldR hT (y := 351) (pc := 11) (q := (yX12_goesTogether, cX12_goesTogether, 4, (some .boolean), 12)) rfl (show aTab 351 11 = some (.iaload, 1, 0, 0, 0, 0, 0, 0) from rfl) ⟨rfl, by omega⟩ hM rfl (show (10 : Int32).toInt = ((10 : Nat) : Int) from rfl) (by decide) (hz o00)) ?_
          refine e_then (e_icF hT (y := 351) (pc := 12) (q := (yX12_goesTogether, cX12_goesTogether, 4, (some .boolean), 12)) rfl (show aTab 351 12 = some (.if_icmp .ge 52, 3, 0, 0, 0, 0, 0, 0) from rfl) rfl (t := 64) rfl (cdF (by show ¬ _ ≤ _; omega))) ?_
          refine e_then (e_il1 hT (y := 351) (pc := 15) (q := (yX12_goesTogether, cX12_goesTogether, 4, (some .boolean), 12)) rfl (show aTab 351 15 = some (.iload_n 2, 1, 0, 0, 0, 0, 0, 0) from rfl) rfl h2) ?_
          refine e_then (e_ifF hT (y := 351) (pc := 16) (q := (yX12_goesTogether, cX12_goesTogether, 4, (some .boolean), 12)) rfl (show aTab 351 16 = some (.ifCond .eq 40, 3, 0, 0, 0, 0, 0, 0) from rfl) rfl (t := 56) rfl (cdF (by show ¬ (1 : Int32).toInt = 0; decide))) ?_
          refine e_then (e_il1 hT (y := 351) (pc := 19) (q := (yX12_goesTogether, cX12_goesTogether, 4, (some .boolean), 12)) rfl (show aTab 351 19 = some (.iload_n 1, 1, 0, 0, 0, 0, 0, 0) from rfl) rfl h1) ?_
          refine e_then (e_il1 hT (y := 351) (pc := 20) (q := (yX12_goesTogether, cX12_goesTogether, 4, (some .boolean), 12)) rfl (show aTab 351 20 = some (.iload_n 3, 1, 0, 0, 0, 0, 0, 0) from rfl) rfl h3) ?_
          refine e_then (e_st hT (y := 351) (pc := 21) (q := (yX12_goesTogether, cX12_goesTogether, 4, (some .boolean), 12)) rfl (show aTab 351 21 = some (.ishr, 1, 0, 0, 0, 0, 0, 0) from rfl) (fr' := (351, 22, lv, [.int (set >>> ((Int32.ofNat k) &&& 31))])) (M' := M) rfl) ?_
          refine e_then (e_st hT (y := 351) (pc := 22) (q := (yX12_goesTogether, cX12_goesTogether, 4, (some .boolean), 12)) rfl (show aTab 351 22 = some (.iconst 1, 1, 0, 0, 0, 0, 0, 0) from rfl) (fr' := (351, 23, lv, [.int 1, .int (set >>> ((Int32.ofNat k) &&& 31))])) (M' := M) rfl) ?_
          refine e_then (e_st hT (y := 351) (pc := 23) (q := (yX12_goesTogether, cX12_goesTogether, 4, (some .boolean), 12)) rfl (show aTab 351 23 = some (.iand, 1, 0, 0, 0, 0, 0, 0) from rfl) (fr' := (351, 24, lv, [.int ((set >>> ((Int32.ofNat k) &&& 31)) &&& 1)])) (M' := M) rfl) ?_
          refine e_then (e_ifF hT (y := 351) (pc := 24) (q := (yX12_goesTogether, cX12_goesTogether, 4, (some .boolean), 12)) rfl (show aTab 351 24 = some (.ifCond .eq 28, 3, 0, 0, 0, 0, 0, 0) from rfl) rfl (t := 52) rfl (cdF (by show ¬ _ = _; omega))) ?_
          refine e_then (e_al1 hT (y := 351) (pc := 27) (q := (yX12_goesTogether, cX12_goesTogether, 4, (some .boolean), 12)) rfl (show aTab 351 27 = some (.aload_n 0, 1, 0, 0, 0, 0, 0, 0) from rfl) rfl h0) ?_
          refine e_then (e_getR hT (y := 351) (pc := 28) (q := (yX12_goesTogether, cX12_goesTogether, 4, (some .boolean), 12)) rfl (show aTab 351 28 = some (.getfield 7, 3, 0, 12, 0, 0, 0, 0) from rfl) rfl (by decide) (by decide) hM rfl rfl) ?_
          refine e_then (e_st hT (y := 351) (pc := 31) (q := (yX12_goesTogether, cX12_goesTogether, 4, (some .boolean), 12)) rfl (show aTab 351 31 = some (.sipush 3760, 3, 0, 0, 0, 0, 0, 0) from rfl) (fr' := (351, 34, lv, [.int 3760, .ref 129])) (M' := M) rfl) ?_
          refine e_then (e_st hT (y := 351) (pc := 34) (q := (yX12_goesTogether, cX12_goesTogether, 4, (some .boolean), 12)) rfl (show aTab 351 34 = some (.iconst 4, 1, 0, 0, 0, 0, 0, 0) from rfl) (fr' := (351, 35, lv, [.int 4, .int 3760, .ref 129])) (M' := M) rfl) ?_
          refine e_then (e_il1 hT (y := 351) (pc := 35) (q := (yX12_goesTogether, cX12_goesTogether, 4, (some .boolean), 12)) rfl (show aTab 351 35 = some (.iload_n 3, 1, 0, 0, 0, 0, 0, 0) from rfl) rfl h3) ?_
          refine e_then (e_st hT (y := 351) (pc := 36) (q := (yX12_goesTogether, cX12_goesTogether, 4, (some .boolean), 12)) rfl (show aTab 351 36 = some (.imul, 1, 0, 0, 0, 0, 0, 0) from rfl) (fr' := (351, 37, lv, [.int (4 * (Int32.ofNat k)), .int 3760, .ref 129])) (M' := M) rfl) ?_
          refine e_then (e_st hT (y := 351) (pc := 37) (q := (yX12_goesTogether, cX12_goesTogether, 4, (some .boolean), 12)) rfl (show aTab 351 37 = some (.iadd, 1, 0, 0, 0, 0, 0, 0) from rfl) (fr' := (351, 38, lv, [.int (3760 + (4 * (Int32.ofNat k))), .ref 129])) (M' := M) rfl) ?_
          refine e_then (e_st hT (y := 351) (pc := 38) (q := (yX12_goesTogether, cX12_goesTogether, 4, (some .boolean), 12)) rfl (show aTab 351 38 = some (.iconst 3, 1, 0, 0, 0, 0, 0, 0) from rfl) (fr' := (351, 39, lv, [.int 3, .int (3760 + (4 * (Int32.ofNat k))), .ref 129])) (M' := M) rfl) ?_
          refine e_then (e_st hT (y := 351) (pc := 39) (q := (yX12_goesTogether, cX12_goesTogether, 4, (some .boolean), 12)) rfl (show aTab 351 39 = some (.iadd, 1, 0, 0, 0, 0, 0, 0) from rfl) (fr' := (351, 40, lv, [.int ((3760 + (4 * (Int32.ofNat k))) + 3), .ref 129])) (M' := M) rfl) ?_
          refine e_then (e_aldR hT (y := 351) (pc := 40) (q := (yX12_goesTogether, cX12_goesTogether, 4, (some .boolean), 12)) rfl (show aTab 351 40 = some (.iaload, 1, 0, 0, 0, 0, 0, 0) from rfl) ⟨rfl, by omega⟩ hM rfl (rgo_ix (by omega)) (by omega) (hF k (by omega) o00)) ?_
          refine e_then (e_il1 hT (y := 351) (pc := 41) (q := (yX12_goesTogether, cX12_goesTogether, 4, (some .boolean), 12)) rfl (show aTab 351 41 = some (.iload_n 1, 1, 0, 0, 0, 0, 0, 0) from rfl) rfl h1) ?_
          refine e_then (e_st hT (y := 351) (pc := 42) (q := (yX12_goesTogether, cX12_goesTogether, 4, (some .boolean), 12)) rfl (show aTab 351 42 = some (.iand, 1, 0, 0, 0, 0, 0, 0) from rfl) (fr' := (351, 43, lv, [.int ((F k) &&& set)])) (M' := M) rfl) ?_
          refine e_then (e_st hT (y := 351) (pc := 43) (q := (yX12_goesTogether, cX12_goesTogether, 4, (some .boolean), 12)) rfl (show aTab 351 43 = some (.iconst 1, 1, 0, 0, 0, 0, 0, 0) from rfl) (fr' := (351, 44, lv, [.int 1, .int ((F k) &&& set)])) (M' := M) rfl) ?_
          refine e_then (e_il1 hT (y := 351) (pc := 44) (q := (yX12_goesTogether, cX12_goesTogether, 4, (some .boolean), 12)) rfl (show aTab 351 44 = some (.iload_n 3, 1, 0, 0, 0, 0, 0, 0) from rfl) rfl h3) ?_
          refine e_then (e_st hT (y := 351) (pc := 45) (q := (yX12_goesTogether, cX12_goesTogether, 4, (some .boolean), 12)) rfl (show aTab 351 45 = some (.ishl, 1, 0, 0, 0, 0, 0, 0) from rfl) (fr' := (351, 46, lv, [.int (1 <<< ((Int32.ofNat k) &&& 31)), .int ((F k) &&& set)])) (M' := M) rfl) ?_
          refine e_then (e_st hT (y := 351) (pc := 46) (q := (yX12_goesTogether, cX12_goesTogether, 4, (some .boolean), 12)) rfl (show aTab 351 46 = some (.iconst (-1), 1, 0, 0, 0, 0, 0, 0) from rfl) (fr' := (351, 47, lv, [.int (-1), .int (1 <<< ((Int32.ofNat k) &&& 31)), .int ((F k) &&& set)])) (M' := M) rfl) ?_
          refine e_then (e_st hT (y := 351) (pc := 47) (q := (yX12_goesTogether, cX12_goesTogether, 4, (some .boolean), 12)) rfl (show aTab 351 47 = some (.ixor, 1, 0, 0, 0, 0, 0, 0) from rfl) (fr' := (351, 48, lv, [.int ((1 <<< ((Int32.ofNat k) &&& 31)) ^^^ (-1)), .int ((F k) &&& set)])) (M' := M) rfl) ?_
          refine e_then (e_st hT (y := 351) (pc := 48) (q := (yX12_goesTogether, cX12_goesTogether, 4, (some .boolean), 12)) rfl (show aTab 351 48 = some (.iand, 1, 0, 0, 0, 0, 0, 0) from rfl) (fr' := (351, 49, lv, [.int (((F k) &&& set) &&& ((1 <<< ((Int32.ofNat k) &&& 31)) ^^^ (-1)))])) (M' := M) rfl) ?_
          refine e_then (e_ifT hT (y := 351) (pc := 49) (q := (yX12_goesTogether, cX12_goesTogether, 4, (some .boolean), 12)) rfl (show aTab 351 49 = some (.ifCond .ne 7, 3, 0, 0, 0, 0, 0, 0) from rfl) rfl (t := 56) rfl (cdT (by show ¬ _ = _; exact fun h => he (Int32.toInt_inj.mp h)))) ?_
          refine e_then (e_st hT (y := 351) (pc := 56) (q := (yX12_goesTogether, cX12_goesTogether, 4, (some .boolean), 12)) rfl (show aTab 351 56 = some (.iconst 0, 1, 0, 0, 0, 0, 0, 0) from rfl) (fr' := (351, 57, lv, [.int 0])) (M' := M) rfl) ?_
          refine e_then (e_is1 hT (y := 351) (pc := 57) (q := (yX12_goesTogether, cX12_goesTogether, 4, (some .boolean), 12)) rfl (show aTab 351 57 = some (.istore_n 2, 1, 0, 0, 0, 0, 0, 0) from rfl) ⟨rfl, by decide⟩) ?_
          refine e_then (e_ii hT (y := 351) (pc := 58) (q := (yX12_goesTogether, cX12_goesTogether, 4, (some .boolean), 12)) rfl (show aTab 351 58 = some (.iinc 3 1, 3, 0, 0, 0, 0, 0, 0) from rfl) ⟨rfl, by decide⟩ (mlg_i h3 (by decide))) ?_
          refine e_then (e_st hT (y := 351) (pc := 61) (q := (yX12_goesTogether, cX12_goesTogether, 4, (some .boolean), 12)) rfl (show aTab 351 61 = some (.goto (-57), 3, 0, 0, 0, 0, 0, 0) from rfl) (fr' := (351, 4, (mlp 3 (.int ((Int32.ofNat k) + Int32.ofInt 1)) (mlp 2 (.int 0) lv)), [])) (M' := M) rfl) ?_
          rw [os1 (by omega)]
          exact ih (k + 1) _ (by omega) (mlg_r (mlg_r h0 (by decide)) (by decide)) (mlg_i (mlg_i h1 (by decide)) (by decide)) (by rw [show ntG F set (k + 1) = false from (ntG_1 hg hb (decide_eq_false he))]; exact (mlg_i (mlg_eq 2 _ _) (by decide))) (mlg_eq 3 _ _)
theorem rgo_run (hT : aTabOk) {M : mHe} (hM : yTy M) {S : Nat} (hS : S ≤ 8) (hz : ∀ xs : tXs, yRd xs M 120 10 = some (.int (Int32.ofNat S))) {F : Nat → Int32} (hF : ntRows M 120 3763 4 F) {set : Int32} : mEv none 60 (351, 0, lv_args 0 [.ref 128, .int set], []) M (fun r M' => r = some (.int (gB (ntG F set S))) ∧ M' = M) := by
  refine e_then (e_st hT (y := 351) (pc := 0) (q := (yX12_goesTogether, cX12_goesTogether, 4, (some .boolean), 12)) rfl (show aTab 351 0 = some (.iconst 1, 1, 0, 0, 0, 0, 0, 0) from rfl) (fr' := (351, 1, (lv_args 0 [.ref 128, .int set]), [.int 1])) (M' := M) rfl) ?_
  refine e_then (e_is1 hT (y := 351) (pc := 1) (q := (yX12_goesTogether, cX12_goesTogether, 4, (some .boolean), 12)) rfl (show aTab 351 1 = some (.istore_n 2, 1, 0, 0, 0, 0, 0, 0) from rfl) ⟨rfl, by decide⟩) ?_
  refine e_then (e_st hT (y := 351) (pc := 2) (q := (yX12_goesTogether, cX12_goesTogether, 4, (some .boolean), 12)) rfl (show aTab 351 2 = some (.iconst 0, 1, 0, 0, 0, 0, 0, 0) from rfl) (fr' := (351, 3, (mlp 2 (.int 1) (lv_args 0 [.ref 128, .int set])), [.int 0])) (M' := M) rfl) ?_
  refine e_then (e_is1 hT (y := 351) (pc := 3) (q := (yX12_goesTogether, cX12_goesTogether, 4, (some .boolean), 12)) rfl (show aTab 351 3 = some (.istore_n 3, 1, 0, 0, 0, 0, 0, 0) from rfl) ⟨rfl, by decide⟩) ?_
  exact rgo_loop hT hM hS hz hF S 0 _ (by omega) (mlg_r (mlg_r rfl (by decide)) (by decide)) (mlg_i (mlg_i rfl (by decide)) (by decide)) (mlg_i (mlg_eq 2 _ _) (by decide)) (mlg_eq 3 _ _)
theorem nt_2 : ∀ S : Nat, S < 9 → ((1 : Int32) <<< (Int32.ofNat S &&& 31)).toInt = ((2 ^ S : Nat) : Int) := by decide
theorem ntP_b {S : Nat} (h : S ≤ 8) : 1 ≤ 2 ^ S ∧ 2 ^ S ≤ 256 := by
  have h1 : 2 ^ S ≤ 2 ^ 8 := Nat.pow_le_pow_right (by decide) h
  exact ⟨Nat.one_le_two_pow, h1⟩
section NTF
variable {v m p a : Nat → Int32} {S : Nat} {n mm : Int32} {t : Nat}
theorem ntF_s (h : ntS v (Int32.ofNat (t + 1)) S < n ∨ mm < ntS m (Int32.ofNat (t + 1)) S ∨ ntG a (Int32.ofNat (t + 1)) S = false) : ntF v m p a S n mm (t + 1) = ntF v m p a S n mm t := by
  show (if _ then _ else _) = _
  rw [if_pos h]
theorem ntF_b (h : ¬ (ntS v (Int32.ofNat (t + 1)) S < n ∨ mm < ntS m (Int32.ofNat (t + 1)) S ∨ ntG a (Int32.ofNat (t + 1)) S = false)) (hb : ntF v m p a S n mm t < 0 ∨ ntS p (Int32.ofNat (t + 1)) S < ntS p (ntF v m p a S n mm t) S ∨ (ntS p (Int32.ofNat (t + 1)) S = ntS p (ntF v m p a S n mm t) S ∧ ntS m (Int32.ofNat (t + 1)) S < ntS m (ntF v m p a S n mm t) S)) : ntF v m p a S n mm (t + 1) = Int32.ofNat (t + 1) := by
  show (if _ then _ else _) = _
  rw [if_neg h]
  show (if _ then _ else _) = _
  rw [if_pos hb]
theorem ntF_n (h : ¬ (ntS v (Int32.ofNat (t + 1)) S < n ∨ mm < ntS m (Int32.ofNat (t + 1)) S ∨ ntG a (Int32.ofNat (t + 1)) S = false)) (hb : ¬ (ntF v m p a S n mm t < 0 ∨ ntS p (Int32.ofNat (t + 1)) S < ntS p (ntF v m p a S n mm t) S ∨ (ntS p (Int32.ofNat (t + 1)) S = ntS p (ntF v m p a S n mm t) S ∧ ntS m (Int32.ofNat (t + 1)) S < ntS m (ntF v m p a S n mm t) S))) : ntF v m p a S n mm (t + 1) = ntF v m p a S n mm t := by
  show (if _ then _ else _) = _
  rw [if_neg h]
  show (if _ then _ else _) = _
  rw [if_neg hb]
end NTF
theorem rfn_loop (hT : aTabOk) {M : mHe} (hM : yTy M) {S : Nat} (hS : S ≤ 8) (hz : ∀ xs : tXs, yRd xs M 120 10 = some (.int (Int32.ofNat S))) {v m p a : Nat → Int32} (hv : ntRows M 120 3760 4 v) (hm : ntRows M 120 3761 4 m) (hp : ntRows M 120 3762 4 p) (ha : ntRows M 120 3763 4 a) {n mm : Int32} : ∀ (d t : Nat) (lv : List (Nat × Value)), t + 1 + d = 2 ^ S → mlg 0 lv = some (.ref 128) → mlg 1 lv = some (.int n) → mlg 2 lv = some (.int mm) → mlg 3 lv = some (.int (ntF v m p a S n mm t)) → mlg 4 lv = some (.int (Int32.ofNat (t + 1))) → mEv none 70 (352, 5, lv, []) M (fun r M' => r = some (.int (ntF v m p a S n mm (2 ^ S - 1))) ∧ M' = M) := by
  have h2 := nt_2 S (by omega)
  have hpb := ntP_b hS
  intro d
  induction d with
  | zero =>
    intro t lv hk h0 h1 h2' h3 h4
    have hkn : (Int32.ofNat (t + 1)).toInt = ((t + 1 : Nat) : Int) := i32n (by omega)
    have ht : t = 2 ^ S - 1 := by omega
    refine e_then (e_il2 hT (y := 352) (pc := 5) (q := (yX12_findNight, cX12_findNight, 6, (some .int), 12)) rfl (show aTab 352 5 = some (.iload 4, 2, 0, 0, 0, 0, 0, 0) from rfl) rfl h4) ?_
    refine e_then (e_st hT (y := 352) (pc := 7) (q := (yX12_findNight, cX12_findNight, 6, (some .int), 12)) rfl (show aTab 352 7 = some (.iconst 1, 1, 0, 0, 0, 0, 0, 0) from rfl) (fr' := (352, 8, lv, [.int 1, .int (Int32.ofNat (t + 1))])) (M' := M) rfl) ?_
    refine e_then (e_al1 hT (y := 352) (pc := 8) (q := (yX12_findNight, cX12_findNight, 6, (some .int), 12)) rfl (show aTab 352 8 = some (.aload_n 0, 1, 0, 0, 0, 0, 0, 0) from rfl) rfl h0) ?_
    refine e_then (e_getR hT (y := 352) (pc := 9) (q := (yX12_findNight, cX12_findNight, 6, (some .int), 12)) rfl (show aTab 352 9 = some (.getfield 7, 3, 0, 12, 0, 0, 0, 0) from rfl) rfl (by decide) (by decide) hM rfl rfl) ?_
    refine e_then (e_st hT (y := 352) (pc := 12) (q := (yX12_findNight, cX12_findNight, 6, (some .int), 12)) rfl (show aTab 352 12 = some (.bipush 10, 2, 0, 0, 0, 0, 0, 0) from rfl) (fr' := (352, 14, lv, [.int 10, .ref 129, .int 1, .int (Int32.ofNat (t + 1))])) (M' := M) rfl) ?_
    refine e_then (e_aldR hT (y := 352) (pc := 14) (q := (yX12_findNight, cX12_findNight, 6, (some .int), 12)) rfl (show aTab 352 14 = some (.iaload, 1, 0, 0, 0, 0, 0, 0) from rfl) ⟨rfl, by omega⟩ hM rfl (show (10 : Int32).toInt = ((10 : Nat) : Int) from rfl) (by decide) (hz o00)) ?_
    refine e_then (e_st hT (y := 352) (pc := 15) (q := (yX12_findNight, cX12_findNight, 6, (some .int), 12)) rfl (show aTab 352 15 = some (.ishl, 1, 0, 0, 0, 0, 0, 0) from rfl) (fr' := (352, 16, lv, [.int (1 <<< ((Int32.ofNat S) &&& 31)), .int (Int32.ofNat (t + 1))])) (M' := M) rfl) ?_
    refine e_then (e_icT hT (y := 352) (pc := 16) (q := (yX12_findNight, cX12_findNight, 6, (some .int), 12)) rfl (show aTab 352 16 = some (.if_icmp .ge 114, 3, 0, 0, 0, 0, 0, 0) from rfl) rfl (t := 130) rfl (cdT (by show _ ≤ _; omega))) ?_
    refine e_then (e_il1 hT (y := 352) (pc := 130) (q := (yX12_findNight, cX12_findNight, 6, (some .int), 12)) rfl (show aTab 352 130 = some (.iload_n 3, 1, 0, 0, 0, 0, 0, 0) from rfl) rfl h3) ?_
    exact e_fin (e_iret hT (y := 352) (pc := 131) (q := (yX12_findNight, cX12_findNight, 6, (some .int), 12)) rfl (show aTab 352 131 = some (.ireturn, 1, 0, 0, 0, 0, 0, 0) from rfl) ⟨rfl, rfl⟩) ⟨by rw [ht], rfl⟩
  | succ d ih =>
    intro t lv hk h0 h1 h2' h3 h4
    have z0 : (0 : Int32).toInt = 0 := rfl
    have hkn : (Int32.ofNat (t + 1)).toInt = ((t + 1 : Nat) : Int) := i32n (by omega)
    obtain ⟨fs, hfs, -⟩ := yTy_obj hM (rfl : tTy 119 = some (.inr (12, _)))
    have rs : ∀ (ob : Nat) (set w : Int32) (F : Nat → Int32), ob < 4 → w.toInt = (ob : Int) → ntRows M 120 (3760 + ob) 4 F → ∃ K, mRun none K 69 (350, 0, lv_args 0 [.ref 128, .int set, .int w], []) M = some (some (.int (ntS F set S)), M) := fun ob set w F h1 h2 h3 => by
      obtain ⟨K, r, M', q1, rfl, rfl⟩ := rsm_run hT hM hS h1 hz h3 (set := set) h2
      exact ⟨K, mRun_dm q1 (show 60 ≤ 69 by decide)⟩
    obtain ⟨s, hs⟩ : ∃ s, s = Int32.ofNat (t + 1) := ⟨_, rfl⟩
    obtain ⟨b, hb⟩ : ∃ b, b = ntF v m p a S n mm t := ⟨_, rfl⟩
    obtain ⟨Kv, rv⟩ := rs 0 s 0 v (by decide) rfl hv
    obtain ⟨Km, rm⟩ := rs 1 s 1 m (by decide) rfl hm
    obtain ⟨Kp, rp⟩ := rs 2 s 2 p (by decide) rfl hp
    obtain ⟨Kp2, rp2⟩ := rs 2 b 2 p (by decide) rfl hp
    obtain ⟨Km2, rm2⟩ := rs 1 b 1 m (by decide) rfl hm
    obtain ⟨Kg, rg, Mg, rgo, hrg, hMg⟩ := rgo_run hT hM hS hz ha (set := s)
    rw [hrg, hMg] at rgo
    have rgo := mRun_dm rgo (show 60 ≤ 69 by decide)
    rw [← hb] at h3
    rw [← hs] at h4 hkn
    by_cases c1 : ntS v s S < n
    · have cs := ntF_s (v := v) (m := m) (p := p) (a := a) (S := S) (n := n) (mm := mm) (t := t) (Or.inl (by rw [← hs]; exact c1))
      refine e_then (e_il2 hT (y := 352) (pc := 5) (q := (yX12_findNight, cX12_findNight, 6, (some .int), 12)) rfl (show aTab 352 5 = some (.iload 4, 2, 0, 0, 0, 0, 0, 0) from rfl) rfl h4) ?_
      refine e_then (e_st hT (y := 352) (pc := 7) (q := (yX12_findNight, cX12_findNight, 6, (some .int), 12)) rfl (show aTab 352 7 = some (.iconst 1, 1, 0, 0, 0, 0, 0, 0) from rfl) (fr' := (352, 8, lv, [.int 1, .int s])) (M' := M) rfl) ?_
      refine e_then (e_al1 hT (y := 352) (pc := 8) (q := (yX12_findNight, cX12_findNight, 6, (some .int), 12)) rfl (show aTab 352 8 = some (.aload_n 0, 1, 0, 0, 0, 0, 0, 0) from rfl) rfl h0) ?_
      refine e_then (e_getR hT (y := 352) (pc := 9) (q := (yX12_findNight, cX12_findNight, 6, (some .int), 12)) rfl (show aTab 352 9 = some (.getfield 7, 3, 0, 12, 0, 0, 0, 0) from rfl) rfl (by decide) (by decide) hM rfl rfl) ?_
      refine e_then (e_st hT (y := 352) (pc := 12) (q := (yX12_findNight, cX12_findNight, 6, (some .int), 12)) rfl (show aTab 352 12 = some (.bipush 10, 2, 0, 0, 0, 0, 0, 0) from rfl) (fr' := (352, 14, lv, [.int 10, .ref 129, .int 1, .int s])) (M' := M) rfl) ?_
      refine e_then (e_aldR hT (y := 352) (pc := 14) (q := (yX12_findNight, cX12_findNight, 6, (some .int), 12)) rfl (show aTab 352 14 = some (.iaload, 1, 0, 0, 0, 0, 0, 0) from rfl) ⟨rfl, by omega⟩ hM rfl (show (10 : Int32).toInt = ((10 : Nat) : Int) from rfl) (by decide) (hz o00)) ?_
      refine e_then (e_st hT (y := 352) (pc := 15) (q := (yX12_findNight, cX12_findNight, 6, (some .int), 12)) rfl (show aTab 352 15 = some (.ishl, 1, 0, 0, 0, 0, 0, 0) from rfl) (fr' := (352, 16, lv, [.int (1 <<< ((Int32.ofNat S) &&& 31)), .int s])) (M' := M) rfl) ?_
      refine e_then (e_icF hT (y := 352) (pc := 16) (q := (yX12_findNight, cX12_findNight, 6, (some .int), 12)) rfl (show aTab 352 16 = some (.if_icmp .ge 114, 3, 0, 0, 0, 0, 0, 0) from rfl) rfl (t := 130) rfl (cdF (by show ¬ _ ≤ _; omega))) ?_
      refine e_then (e_al1 hT (y := 352) (pc := 19) (q := (yX12_findNight, cX12_findNight, 6, (some .int), 12)) rfl (show aTab 352 19 = some (.aload_n 0, 1, 0, 0, 0, 0, 0, 0) from rfl) rfl h0) ?_
      refine e_then (e_il2 hT (y := 352) (pc := 20) (q := (yX12_findNight, cX12_findNight, 6, (some .int), 12)) rfl (show aTab 352 20 = some (.iload 4, 2, 0, 0, 0, 0, 0, 0) from rfl) rfl h4) ?_
      refine e_then (e_st hT (y := 352) (pc := 22) (q := (yX12_findNight, cX12_findNight, 6, (some .int), 12)) rfl (show aTab 352 22 = some (.iconst 0, 1, 0, 0, 0, 0, 0, 0) from rfl) (fr' := (352, 23, lv, [.int 0, .int s, .ref 128])) (M' := M) rfl) ?_
      refine e_then (e_call hT (y := 352) (pc := 23) (q := (yX12_findNight, cX12_findNight, 6, (some .int), 12)) rfl (show aTab 352 23 = some (.invokevirtual 392, 3, 1, 350, 0, 2, 5, 12) from rfl) rfl ⟨by decide, Nat.le_of_ble_eq_true rfl⟩ hfs (Nat.le_of_ble_eq_true rfl) (Nat.le_of_ble_eq_true rfl) ⟨by decide, by decide⟩ rv) ?_
      refine e_then (e_il1 hT (y := 352) (pc := 26) (q := (yX12_findNight, cX12_findNight, 6, (some .int), 12)) rfl (show aTab 352 26 = some (.iload_n 1, 1, 0, 0, 0, 0, 0, 0) from rfl) rfl h1) ?_
      refine e_then (e_icT hT (y := 352) (pc := 27) (q := (yX12_findNight, cX12_findNight, 6, (some .int), 12)) rfl (show aTab 352 27 = some (.if_icmp .lt 97, 3, 0, 0, 0, 0, 0, 0) from rfl) rfl (t := 124) rfl (cdT (by show _ < _; exact Int32.lt_iff_toInt_lt.mp c1))) ?_
      refine e_then (e_ii hT (y := 352) (pc := 124) (q := (yX12_findNight, cX12_findNight, 6, (some .int), 12)) rfl (show aTab 352 124 = some (.iinc 4 1, 3, 0, 0, 0, 0, 0, 0) from rfl) ⟨rfl, by decide⟩ h4) ?_
      refine e_then (e_st hT (y := 352) (pc := 127) (q := (yX12_findNight, cX12_findNight, 6, (some .int), 12)) rfl (show aTab 352 127 = some (.goto (-122), 3, 0, 0, 0, 0, 0, 0) from rfl) (fr' := (352, 5, (mlp 4 (.int (s + Int32.ofInt 1)) lv), [])) (M' := M) rfl) ?_
      rw [show s + Int32.ofInt 1 = Int32.ofNat (t + 1 + 1) by rw [hs]; exact os1 (by omega)]
      exact ih (t + 1) _ (by omega) (mlg_r h0 (by decide)) (mlg_i h1 (by decide)) (mlg_i h2' (by decide)) (by rw [cs, ← hb]; exact (mlg_i h3 (by decide))) (mlg_eq 4 _ _)
    by_cases c2 : mm < ntS m s S
    · have cs := ntF_s (v := v) (m := m) (p := p) (a := a) (S := S) (n := n) (mm := mm) (t := t) (Or.inr (Or.inl (by rw [← hs]; exact c2)))
      refine e_then (e_il2 hT (y := 352) (pc := 5) (q := (yX12_findNight, cX12_findNight, 6, (some .int), 12)) rfl (show aTab 352 5 = some (.iload 4, 2, 0, 0, 0, 0, 0, 0) from rfl) rfl h4) ?_
      refine e_then (e_st hT (y := 352) (pc := 7) (q := (yX12_findNight, cX12_findNight, 6, (some .int), 12)) rfl (show aTab 352 7 = some (.iconst 1, 1, 0, 0, 0, 0, 0, 0) from rfl) (fr' := (352, 8, lv, [.int 1, .int s])) (M' := M) rfl) ?_
      refine e_then (e_al1 hT (y := 352) (pc := 8) (q := (yX12_findNight, cX12_findNight, 6, (some .int), 12)) rfl (show aTab 352 8 = some (.aload_n 0, 1, 0, 0, 0, 0, 0, 0) from rfl) rfl h0) ?_
      refine e_then (e_getR hT (y := 352) (pc := 9) (q := (yX12_findNight, cX12_findNight, 6, (some .int), 12)) rfl (show aTab 352 9 = some (.getfield 7, 3, 0, 12, 0, 0, 0, 0) from rfl) rfl (by decide) (by decide) hM rfl rfl) ?_
      refine e_then (e_st hT (y := 352) (pc := 12) (q := (yX12_findNight, cX12_findNight, 6, (some .int), 12)) rfl (show aTab 352 12 = some (.bipush 10, 2, 0, 0, 0, 0, 0, 0) from rfl) (fr' := (352, 14, lv, [.int 10, .ref 129, .int 1, .int s])) (M' := M) rfl) ?_
      refine e_then (e_aldR hT (y := 352) (pc := 14) (q := (yX12_findNight, cX12_findNight, 6, (some .int), 12)) rfl (show aTab 352 14 = some (.iaload, 1, 0, 0, 0, 0, 0, 0) from rfl) ⟨rfl, by omega⟩ hM rfl (show (10 : Int32).toInt = ((10 : Nat) : Int) from rfl) (by decide) (hz o00)) ?_
      refine e_then (e_st hT (y := 352) (pc := 15) (q := (yX12_findNight, cX12_findNight, 6, (some .int), 12)) rfl (show aTab 352 15 = some (.ishl, 1, 0, 0, 0, 0, 0, 0) from rfl) (fr' := (352, 16, lv, [.int (1 <<< ((Int32.ofNat S) &&& 31)), .int s])) (M' := M) rfl) ?_
      refine e_then (e_icF hT (y := 352) (pc := 16) (q := (yX12_findNight, cX12_findNight, 6, (some .int), 12)) rfl (show aTab 352 16 = some (.if_icmp .ge 114, 3, 0, 0, 0, 0, 0, 0) from rfl) rfl (t := 130) rfl (cdF (by show ¬ _ ≤ _; omega))) ?_
      refine e_then (e_al1 hT (y := 352) (pc := 19) (q := (yX12_findNight, cX12_findNight, 6, (some .int), 12)) rfl (show aTab 352 19 = some (.aload_n 0, 1, 0, 0, 0, 0, 0, 0) from rfl) rfl h0) ?_
      refine e_then (e_il2 hT (y := 352) (pc := 20) (q := (yX12_findNight, cX12_findNight, 6, (some .int), 12)) rfl (show aTab 352 20 = some (.iload 4, 2, 0, 0, 0, 0, 0, 0) from rfl) rfl h4) ?_
      refine e_then (e_st hT (y := 352) (pc := 22) (q := (yX12_findNight, cX12_findNight, 6, (some .int), 12)) rfl (show aTab 352 22 = some (.iconst 0, 1, 0, 0, 0, 0, 0, 0) from rfl) (fr' := (352, 23, lv, [.int 0, .int s, .ref 128])) (M' := M) rfl) ?_
      refine e_then (e_call hT (y := 352) (pc := 23) (q := (yX12_findNight, cX12_findNight, 6, (some .int), 12)) rfl (show aTab 352 23 = some (.invokevirtual 392, 3, 1, 350, 0, 2, 5, 12) from rfl) rfl ⟨by decide, Nat.le_of_ble_eq_true rfl⟩ hfs (Nat.le_of_ble_eq_true rfl) (Nat.le_of_ble_eq_true rfl) ⟨by decide, by decide⟩ rv) ?_
      refine e_then (e_il1 hT (y := 352) (pc := 26) (q := (yX12_findNight, cX12_findNight, 6, (some .int), 12)) rfl (show aTab 352 26 = some (.iload_n 1, 1, 0, 0, 0, 0, 0, 0) from rfl) rfl h1) ?_
      refine e_then (e_icF hT (y := 352) (pc := 27) (q := (yX12_findNight, cX12_findNight, 6, (some .int), 12)) rfl (show aTab 352 27 = some (.if_icmp .lt 97, 3, 0, 0, 0, 0, 0, 0) from rfl) rfl (t := 124) rfl (cdF (by show ¬ _ < _; exact fun h => c1 (Int32.lt_iff_toInt_lt.mpr h)))) ?_
      refine e_then (e_al1 hT (y := 352) (pc := 30) (q := (yX12_findNight, cX12_findNight, 6, (some .int), 12)) rfl (show aTab 352 30 = some (.aload_n 0, 1, 0, 0, 0, 0, 0, 0) from rfl) rfl h0) ?_
      refine e_then (e_il2 hT (y := 352) (pc := 31) (q := (yX12_findNight, cX12_findNight, 6, (some .int), 12)) rfl (show aTab 352 31 = some (.iload 4, 2, 0, 0, 0, 0, 0, 0) from rfl) rfl h4) ?_
      refine e_then (e_st hT (y := 352) (pc := 33) (q := (yX12_findNight, cX12_findNight, 6, (some .int), 12)) rfl (show aTab 352 33 = some (.iconst 1, 1, 0, 0, 0, 0, 0, 0) from rfl) (fr' := (352, 34, lv, [.int 1, .int s, .ref 128])) (M' := M) rfl) ?_
      refine e_then (e_call hT (y := 352) (pc := 34) (q := (yX12_findNight, cX12_findNight, 6, (some .int), 12)) rfl (show aTab 352 34 = some (.invokevirtual 392, 3, 1, 350, 0, 2, 5, 12) from rfl) rfl ⟨by decide, Nat.le_of_ble_eq_true rfl⟩ hfs (Nat.le_of_ble_eq_true rfl) (Nat.le_of_ble_eq_true rfl) ⟨by decide, by decide⟩ rm) ?_
      refine e_then (e_il1 hT (y := 352) (pc := 37) (q := (yX12_findNight, cX12_findNight, 6, (some .int), 12)) rfl (show aTab 352 37 = some (.iload_n 2, 1, 0, 0, 0, 0, 0, 0) from rfl) rfl h2') ?_
      refine e_then (e_icT hT (y := 352) (pc := 38) (q := (yX12_findNight, cX12_findNight, 6, (some .int), 12)) rfl (show aTab 352 38 = some (.if_icmp .gt 86, 3, 0, 0, 0, 0, 0, 0) from rfl) rfl (t := 124) rfl (cdT (by show _ < _; exact Int32.lt_iff_toInt_lt.mp c2))) ?_
      refine e_then (e_ii hT (y := 352) (pc := 124) (q := (yX12_findNight, cX12_findNight, 6, (some .int), 12)) rfl (show aTab 352 124 = some (.iinc 4 1, 3, 0, 0, 0, 0, 0, 0) from rfl) ⟨rfl, by decide⟩ h4) ?_
      refine e_then (e_st hT (y := 352) (pc := 127) (q := (yX12_findNight, cX12_findNight, 6, (some .int), 12)) rfl (show aTab 352 127 = some (.goto (-122), 3, 0, 0, 0, 0, 0, 0) from rfl) (fr' := (352, 5, (mlp 4 (.int (s + Int32.ofInt 1)) lv), [])) (M' := M) rfl) ?_
      rw [show s + Int32.ofInt 1 = Int32.ofNat (t + 1 + 1) by rw [hs]; exact os1 (by omega)]
      exact ih (t + 1) _ (by omega) (mlg_r h0 (by decide)) (mlg_i h1 (by decide)) (mlg_i h2' (by decide)) (by rw [cs, ← hb]; exact (mlg_i h3 (by decide))) (mlg_eq 4 _ _)
    by_cases c3 : ntG a s S = false
    · have cs := ntF_s (v := v) (m := m) (p := p) (a := a) (S := S) (n := n) (mm := mm) (t := t) (Or.inr (Or.inr (by rw [← hs]; exact c3)))
      refine e_then (e_il2 hT (y := 352) (pc := 5) (q := (yX12_findNight, cX12_findNight, 6, (some .int), 12)) rfl (show aTab 352 5 = some (.iload 4, 2, 0, 0, 0, 0, 0, 0) from rfl) rfl h4) ?_
      refine e_then (e_st hT (y := 352) (pc := 7) (q := (yX12_findNight, cX12_findNight, 6, (some .int), 12)) rfl (show aTab 352 7 = some (.iconst 1, 1, 0, 0, 0, 0, 0, 0) from rfl) (fr' := (352, 8, lv, [.int 1, .int s])) (M' := M) rfl) ?_
      refine e_then (e_al1 hT (y := 352) (pc := 8) (q := (yX12_findNight, cX12_findNight, 6, (some .int), 12)) rfl (show aTab 352 8 = some (.aload_n 0, 1, 0, 0, 0, 0, 0, 0) from rfl) rfl h0) ?_
      refine e_then (e_getR hT (y := 352) (pc := 9) (q := (yX12_findNight, cX12_findNight, 6, (some .int), 12)) rfl (show aTab 352 9 = some (.getfield 7, 3, 0, 12, 0, 0, 0, 0) from rfl) rfl (by decide) (by decide) hM rfl rfl) ?_
      refine e_then (e_st hT (y := 352) (pc := 12) (q := (yX12_findNight, cX12_findNight, 6, (some .int), 12)) rfl (show aTab 352 12 = some (.bipush 10, 2, 0, 0, 0, 0, 0, 0) from rfl) (fr' := (352, 14, lv, [.int 10, .ref 129, .int 1, .int s])) (M' := M) rfl) ?_
      refine e_then (e_aldR hT (y := 352) (pc := 14) (q := (yX12_findNight, cX12_findNight, 6, (some .int), 12)) rfl (show aTab 352 14 = some (.iaload, 1, 0, 0, 0, 0, 0, 0) from rfl) ⟨rfl, by omega⟩ hM rfl (show (10 : Int32).toInt = ((10 : Nat) : Int) from rfl) (by decide) (hz o00)) ?_
      refine e_then (e_st hT (y := 352) (pc := 15) (q := (yX12_findNight, cX12_findNight, 6, (some .int), 12)) rfl (show aTab 352 15 = some (.ishl, 1, 0, 0, 0, 0, 0, 0) from rfl) (fr' := (352, 16, lv, [.int (1 <<< ((Int32.ofNat S) &&& 31)), .int s])) (M' := M) rfl) ?_
      refine e_then (e_icF hT (y := 352) (pc := 16) (q := (yX12_findNight, cX12_findNight, 6, (some .int), 12)) rfl (show aTab 352 16 = some (.if_icmp .ge 114, 3, 0, 0, 0, 0, 0, 0) from rfl) rfl (t := 130) rfl (cdF (by show ¬ _ ≤ _; omega))) ?_
      refine e_then (e_al1 hT (y := 352) (pc := 19) (q := (yX12_findNight, cX12_findNight, 6, (some .int), 12)) rfl (show aTab 352 19 = some (.aload_n 0, 1, 0, 0, 0, 0, 0, 0) from rfl) rfl h0) ?_
      refine e_then (e_il2 hT (y := 352) (pc := 20) (q := (yX12_findNight, cX12_findNight, 6, (some .int), 12)) rfl (show aTab 352 20 = some (.iload 4, 2, 0, 0, 0, 0, 0, 0) from rfl) rfl h4) ?_
      refine e_then (e_st hT (y := 352) (pc := 22) (q := (yX12_findNight, cX12_findNight, 6, (some .int), 12)) rfl (show aTab 352 22 = some (.iconst 0, 1, 0, 0, 0, 0, 0, 0) from rfl) (fr' := (352, 23, lv, [.int 0, .int s, .ref 128])) (M' := M) rfl) ?_
      refine e_then (e_call hT (y := 352) (pc := 23) (q := (yX12_findNight, cX12_findNight, 6, (some .int), 12)) rfl (show aTab 352 23 = some (.invokevirtual 392, 3, 1, 350, 0, 2, 5, 12) from rfl) rfl ⟨by decide, Nat.le_of_ble_eq_true rfl⟩ hfs (Nat.le_of_ble_eq_true rfl) (Nat.le_of_ble_eq_true rfl) ⟨by decide, by decide⟩ rv) ?_
      refine e_then (e_il1 hT (y := 352) (pc := 26) (q := (yX12_findNight, cX12_findNight, 6, (some .int), 12)) rfl (show aTab 352 26 = some (.iload_n 1, 1, 0, 0, 0, 0, 0, 0) from rfl) rfl h1) ?_
      refine e_then (e_icF hT (y := 352) (pc := 27) (q := (yX12_findNight, cX12_findNight, 6, (some .int), 12)) rfl (show aTab 352 27 = some (.if_icmp .lt 97, 3, 0, 0, 0, 0, 0, 0) from rfl) rfl (t := 124) rfl (cdF (by show ¬ _ < _; exact fun h => c1 (Int32.lt_iff_toInt_lt.mpr h)))) ?_
      refine e_then (e_al1 hT (y := 352) (pc := 30) (q := (yX12_findNight, cX12_findNight, 6, (some .int), 12)) rfl (show aTab 352 30 = some (.aload_n 0, 1, 0, 0, 0, 0, 0, 0) from rfl) rfl h0) ?_
      refine e_then (e_il2 hT (y := 352) (pc := 31) (q := (yX12_findNight, cX12_findNight, 6, (some .int), 12)) rfl (show aTab 352 31 = some (.iload 4, 2, 0, 0, 0, 0, 0, 0) from rfl) rfl h4) ?_
      refine e_then (e_st hT (y := 352) (pc := 33) (q := (yX12_findNight, cX12_findNight, 6, (some .int), 12)) rfl (show aTab 352 33 = some (.iconst 1, 1, 0, 0, 0, 0, 0, 0) from rfl) (fr' := (352, 34, lv, [.int 1, .int s, .ref 128])) (M' := M) rfl) ?_
      refine e_then (e_call hT (y := 352) (pc := 34) (q := (yX12_findNight, cX12_findNight, 6, (some .int), 12)) rfl (show aTab 352 34 = some (.invokevirtual 392, 3, 1, 350, 0, 2, 5, 12) from rfl) rfl ⟨by decide, Nat.le_of_ble_eq_true rfl⟩ hfs (Nat.le_of_ble_eq_true rfl) (Nat.le_of_ble_eq_true rfl) ⟨by decide, by decide⟩ rm) ?_
      refine e_then (e_il1 hT (y := 352) (pc := 37) (q := (yX12_findNight, cX12_findNight, 6, (some .int), 12)) rfl (show aTab 352 37 = some (.iload_n 2, 1, 0, 0, 0, 0, 0, 0) from rfl) rfl h2') ?_
      refine e_then (e_icF hT (y := 352) (pc := 38) (q := (yX12_findNight, cX12_findNight, 6, (some .int), 12)) rfl (show aTab 352 38 = some (.if_icmp .gt 86, 3, 0, 0, 0, 0, 0, 0) from rfl) rfl (t := 124) rfl (cdF (by show ¬ _ < _; exact fun h => c2 (Int32.lt_iff_toInt_lt.mpr h)))) ?_
      refine e_then (e_al1 hT (y := 352) (pc := 41) (q := (yX12_findNight, cX12_findNight, 6, (some .int), 12)) rfl (show aTab 352 41 = some (.aload_n 0, 1, 0, 0, 0, 0, 0, 0) from rfl) rfl h0) ?_
      refine e_then (e_il2 hT (y := 352) (pc := 42) (q := (yX12_findNight, cX12_findNight, 6, (some .int), 12)) rfl (show aTab 352 42 = some (.iload 4, 2, 0, 0, 0, 0, 0, 0) from rfl) rfl h4) ?_
      refine e_then (e_call hT (y := 352) (pc := 44) (q := (yX12_findNight, cX12_findNight, 6, (some .int), 12)) rfl (show aTab 352 44 = some (.invokevirtual 395, 3, 1, 351, 0, 1, 4, 12) from rfl) rfl ⟨by decide, Nat.le_of_ble_eq_true rfl⟩ hfs (Nat.le_of_ble_eq_true rfl) (Nat.le_of_ble_eq_true rfl) ⟨by decide, by decide⟩ rgo) ?_
      refine e_then (e_ifF hT (y := 352) (pc := 47) (q := (yX12_findNight, cX12_findNight, 6, (some .int), 12)) rfl (show aTab 352 47 = some (.ifCond .ne 6, 3, 0, 0, 0, 0, 0, 0) from rfl) rfl (t := 53) rfl (cdF (by show ¬ ¬ _ = _; rw [c3]; decide))) ?_
      refine e_then (e_st hT (y := 352) (pc := 50) (q := (yX12_findNight, cX12_findNight, 6, (some .int), 12)) rfl (show aTab 352 50 = some (.goto 74, 3, 0, 0, 0, 0, 0, 0) from rfl) (fr' := (352, 124, lv, [])) (M' := M) rfl) ?_
      refine e_then (e_ii hT (y := 352) (pc := 124) (q := (yX12_findNight, cX12_findNight, 6, (some .int), 12)) rfl (show aTab 352 124 = some (.iinc 4 1, 3, 0, 0, 0, 0, 0, 0) from rfl) ⟨rfl, by decide⟩ h4) ?_
      refine e_then (e_st hT (y := 352) (pc := 127) (q := (yX12_findNight, cX12_findNight, 6, (some .int), 12)) rfl (show aTab 352 127 = some (.goto (-122), 3, 0, 0, 0, 0, 0, 0) from rfl) (fr' := (352, 5, (mlp 4 (.int (s + Int32.ofInt 1)) lv), [])) (M' := M) rfl) ?_
      rw [show s + Int32.ofInt 1 = Int32.ofNat (t + 1 + 1) by rw [hs]; exact os1 (by omega)]
      exact ih (t + 1) _ (by omega) (mlg_r h0 (by decide)) (mlg_i h1 (by decide)) (mlg_i h2' (by decide)) (by rw [cs, ← hb]; exact (mlg_i h3 (by decide))) (mlg_eq 4 _ _)
    have cn : ¬ (ntS v (Int32.ofNat (t + 1)) S < n ∨ mm < ntS m (Int32.ofNat (t + 1)) S ∨ ntG a (Int32.ofNat (t + 1)) S = false) := by
      rw [← hs]
      rintro (h | h | h)
      · exact c1 h
      · exact c2 h
      · exact c3 h
    by_cases c4 : b < 0
    · have cs := ntF_b (v := v) (m := m) (p := p) (a := a) (S := S) (n := n) (mm := mm) (t := t) cn (by rw [← hs, ← hb]; exact Or.inl c4)
      refine e_then (e_il2 hT (y := 352) (pc := 5) (q := (yX12_findNight, cX12_findNight, 6, (some .int), 12)) rfl (show aTab 352 5 = some (.iload 4, 2, 0, 0, 0, 0, 0, 0) from rfl) rfl h4) ?_
      refine e_then (e_st hT (y := 352) (pc := 7) (q := (yX12_findNight, cX12_findNight, 6, (some .int), 12)) rfl (show aTab 352 7 = some (.iconst 1, 1, 0, 0, 0, 0, 0, 0) from rfl) (fr' := (352, 8, lv, [.int 1, .int s])) (M' := M) rfl) ?_
      refine e_then (e_al1 hT (y := 352) (pc := 8) (q := (yX12_findNight, cX12_findNight, 6, (some .int), 12)) rfl (show aTab 352 8 = some (.aload_n 0, 1, 0, 0, 0, 0, 0, 0) from rfl) rfl h0) ?_
      refine e_then (e_getR hT (y := 352) (pc := 9) (q := (yX12_findNight, cX12_findNight, 6, (some .int), 12)) rfl (show aTab 352 9 = some (.getfield 7, 3, 0, 12, 0, 0, 0, 0) from rfl) rfl (by decide) (by decide) hM rfl rfl) ?_
      refine e_then (e_st hT (y := 352) (pc := 12) (q := (yX12_findNight, cX12_findNight, 6, (some .int), 12)) rfl (show aTab 352 12 = some (.bipush 10, 2, 0, 0, 0, 0, 0, 0) from rfl) (fr' := (352, 14, lv, [.int 10, .ref 129, .int 1, .int s])) (M' := M) rfl) ?_
      refine e_then (e_aldR hT (y := 352) (pc := 14) (q := (yX12_findNight, cX12_findNight, 6, (some .int), 12)) rfl (show aTab 352 14 = some (.iaload, 1, 0, 0, 0, 0, 0, 0) from rfl) ⟨rfl, by omega⟩ hM rfl (show (10 : Int32).toInt = ((10 : Nat) : Int) from rfl) (by decide) (hz o00)) ?_
      refine e_then (e_st hT (y := 352) (pc := 15) (q := (yX12_findNight, cX12_findNight, 6, (some .int), 12)) rfl (show aTab 352 15 = some (.ishl, 1, 0, 0, 0, 0, 0, 0) from rfl) (fr' := (352, 16, lv, [.int (1 <<< ((Int32.ofNat S) &&& 31)), .int s])) (M' := M) rfl) ?_
      refine e_then (e_icF hT (y := 352) (pc := 16) (q := (yX12_findNight, cX12_findNight, 6, (some .int), 12)) rfl (show aTab 352 16 = some (.if_icmp .ge 114, 3, 0, 0, 0, 0, 0, 0) from rfl) rfl (t := 130) rfl (cdF (by show ¬ _ ≤ _; omega))) ?_
      refine e_then (e_al1 hT (y := 352) (pc := 19) (q := (yX12_findNight, cX12_findNight, 6, (some .int), 12)) rfl (show aTab 352 19 = some (.aload_n 0, 1, 0, 0, 0, 0, 0, 0) from rfl) rfl h0) ?_
      refine e_then (e_il2 hT (y := 352) (pc := 20) (q := (yX12_findNight, cX12_findNight, 6, (some .int), 12)) rfl (show aTab 352 20 = some (.iload 4, 2, 0, 0, 0, 0, 0, 0) from rfl) rfl h4) ?_
      refine e_then (e_st hT (y := 352) (pc := 22) (q := (yX12_findNight, cX12_findNight, 6, (some .int), 12)) rfl (show aTab 352 22 = some (.iconst 0, 1, 0, 0, 0, 0, 0, 0) from rfl) (fr' := (352, 23, lv, [.int 0, .int s, .ref 128])) (M' := M) rfl) ?_
      refine e_then (e_call hT (y := 352) (pc := 23) (q := (yX12_findNight, cX12_findNight, 6, (some .int), 12)) rfl (show aTab 352 23 = some (.invokevirtual 392, 3, 1, 350, 0, 2, 5, 12) from rfl) rfl ⟨by decide, Nat.le_of_ble_eq_true rfl⟩ hfs (Nat.le_of_ble_eq_true rfl) (Nat.le_of_ble_eq_true rfl) ⟨by decide, by decide⟩ rv) ?_
      refine e_then (e_il1 hT (y := 352) (pc := 26) (q := (yX12_findNight, cX12_findNight, 6, (some .int), 12)) rfl (show aTab 352 26 = some (.iload_n 1, 1, 0, 0, 0, 0, 0, 0) from rfl) rfl h1) ?_
      refine e_then (e_icF hT (y := 352) (pc := 27) (q := (yX12_findNight, cX12_findNight, 6, (some .int), 12)) rfl (show aTab 352 27 = some (.if_icmp .lt 97, 3, 0, 0, 0, 0, 0, 0) from rfl) rfl (t := 124) rfl (cdF (by show ¬ _ < _; exact fun h => c1 (Int32.lt_iff_toInt_lt.mpr h)))) ?_
      refine e_then (e_al1 hT (y := 352) (pc := 30) (q := (yX12_findNight, cX12_findNight, 6, (some .int), 12)) rfl (show aTab 352 30 = some (.aload_n 0, 1, 0, 0, 0, 0, 0, 0) from rfl) rfl h0) ?_
      refine e_then (e_il2 hT (y := 352) (pc := 31) (q := (yX12_findNight, cX12_findNight, 6, (some .int), 12)) rfl (show aTab 352 31 = some (.iload 4, 2, 0, 0, 0, 0, 0, 0) from rfl) rfl h4) ?_
      refine e_then (e_st hT (y := 352) (pc := 33) (q := (yX12_findNight, cX12_findNight, 6, (some .int), 12)) rfl (show aTab 352 33 = some (.iconst 1, 1, 0, 0, 0, 0, 0, 0) from rfl) (fr' := (352, 34, lv, [.int 1, .int s, .ref 128])) (M' := M) rfl) ?_
      refine e_then (e_call hT (y := 352) (pc := 34) (q := (yX12_findNight, cX12_findNight, 6, (some .int), 12)) rfl (show aTab 352 34 = some (.invokevirtual 392, 3, 1, 350, 0, 2, 5, 12) from rfl) rfl ⟨by decide, Nat.le_of_ble_eq_true rfl⟩ hfs (Nat.le_of_ble_eq_true rfl) (Nat.le_of_ble_eq_true rfl) ⟨by decide, by decide⟩ rm) ?_
      refine e_then (e_il1 hT (y := 352) (pc := 37) (q := (yX12_findNight, cX12_findNight, 6, (some .int), 12)) rfl (show aTab 352 37 = some (.iload_n 2, 1, 0, 0, 0, 0, 0, 0) from rfl) rfl h2') ?_
      refine e_then (e_icF hT (y := 352) (pc := 38) (q := (yX12_findNight, cX12_findNight, 6, (some .int), 12)) rfl (show aTab 352 38 = some (.if_icmp .gt 86, 3, 0, 0, 0, 0, 0, 0) from rfl) rfl (t := 124) rfl (cdF (by show ¬ _ < _; exact fun h => c2 (Int32.lt_iff_toInt_lt.mpr h)))) ?_
      refine e_then (e_al1 hT (y := 352) (pc := 41) (q := (yX12_findNight, cX12_findNight, 6, (some .int), 12)) rfl (show aTab 352 41 = some (.aload_n 0, 1, 0, 0, 0, 0, 0, 0) from rfl) rfl h0) ?_
      refine e_then (e_il2 hT (y := 352) (pc := 42) (q := (yX12_findNight, cX12_findNight, 6, (some .int), 12)) rfl (show aTab 352 42 = some (.iload 4, 2, 0, 0, 0, 0, 0, 0) from rfl) rfl h4) ?_
      refine e_then (e_call hT (y := 352) (pc := 44) (q := (yX12_findNight, cX12_findNight, 6, (some .int), 12)) rfl (show aTab 352 44 = some (.invokevirtual 395, 3, 1, 351, 0, 1, 4, 12) from rfl) rfl ⟨by decide, Nat.le_of_ble_eq_true rfl⟩ hfs (Nat.le_of_ble_eq_true rfl) (Nat.le_of_ble_eq_true rfl) ⟨by decide, by decide⟩ rgo) ?_
      refine e_then (e_ifT hT (y := 352) (pc := 47) (q := (yX12_findNight, cX12_findNight, 6, (some .int), 12)) rfl (show aTab 352 47 = some (.ifCond .ne 6, 3, 0, 0, 0, 0, 0, 0) from rfl) rfl (t := 53) rfl (cdT (by show ¬ _ = _; rw [Bool.of_not_eq_false c3]; decide))) ?_
      refine e_then (e_il1 hT (y := 352) (pc := 53) (q := (yX12_findNight, cX12_findNight, 6, (some .int), 12)) rfl (show aTab 352 53 = some (.iload_n 3, 1, 0, 0, 0, 0, 0, 0) from rfl) rfl h3) ?_
      refine e_then (e_ifT hT (y := 352) (pc := 54) (q := (yX12_findNight, cX12_findNight, 6, (some .int), 12)) rfl (show aTab 352 54 = some (.ifCond .lt 51, 3, 0, 0, 0, 0, 0, 0) from rfl) rfl (t := 105) rfl (cdT (by show _ < _; exact Int32.lt_iff_toInt_lt.mp c4))) ?_
      refine e_then (e_st hT (y := 352) (pc := 105) (q := (yX12_findNight, cX12_findNight, 6, (some .int), 12)) rfl (show aTab 352 105 = some (.iconst 1, 1, 0, 0, 0, 0, 0, 0) from rfl) (fr' := (352, 106, lv, [.int 1])) (M' := M) rfl) ?_
      refine e_then (e_st hT (y := 352) (pc := 106) (q := (yX12_findNight, cX12_findNight, 6, (some .int), 12)) rfl (show aTab 352 106 = some (.goto 4, 3, 0, 0, 0, 0, 0, 0) from rfl) (fr' := (352, 110, lv, [.int 1])) (M' := M) rfl) ?_
      refine e_then (e_is2 hT (y := 352) (pc := 110) (q := (yX12_findNight, cX12_findNight, 6, (some .int), 12)) rfl (show aTab 352 110 = some (.istore 5, 2, 0, 0, 0, 0, 0, 0) from rfl) ⟨rfl, by decide⟩) ?_
      refine e_then (e_il2 hT (y := 352) (pc := 112) (q := (yX12_findNight, cX12_findNight, 6, (some .int), 12)) rfl (show aTab 352 112 = some (.iload 5, 2, 0, 0, 0, 0, 0, 0) from rfl) rfl (mlg_eq 5 _ _)) ?_
      refine e_then (e_ifF hT (y := 352) (pc := 114) (q := (yX12_findNight, cX12_findNight, 6, (some .int), 12)) rfl (show aTab 352 114 = some (.ifCond .eq 8, 3, 0, 0, 0, 0, 0, 0) from rfl) rfl (t := 122) rfl (cdF (by show ¬ (1 : Int32).toInt = 0; decide))) ?_
      refine e_then (e_il2 hT (y := 352) (pc := 117) (q := (yX12_findNight, cX12_findNight, 6, (some .int), 12)) rfl (show aTab 352 117 = some (.iload 4, 2, 0, 0, 0, 0, 0, 0) from rfl) rfl (mlg_i h4 (by decide))) ?_
      refine e_then (e_st hT (y := 352) (pc := 119) (q := (yX12_findNight, cX12_findNight, 6, (some .int), 12)) rfl (show aTab 352 119 = some (.goto 4, 3, 0, 0, 0, 0, 0, 0) from rfl) (fr' := (352, 123, (mlp 5 (.int 1) lv), [.int s])) (M' := M) rfl) ?_
      refine e_then (e_is1 hT (y := 352) (pc := 123) (q := (yX12_findNight, cX12_findNight, 6, (some .int), 12)) rfl (show aTab 352 123 = some (.istore_n 3, 1, 0, 0, 0, 0, 0, 0) from rfl) ⟨rfl, by decide⟩) ?_
      refine e_then (e_ii hT (y := 352) (pc := 124) (q := (yX12_findNight, cX12_findNight, 6, (some .int), 12)) rfl (show aTab 352 124 = some (.iinc 4 1, 3, 0, 0, 0, 0, 0, 0) from rfl) ⟨rfl, by decide⟩ (mlg_i (mlg_i h4 (by decide)) (by decide))) ?_
      refine e_then (e_st hT (y := 352) (pc := 127) (q := (yX12_findNight, cX12_findNight, 6, (some .int), 12)) rfl (show aTab 352 127 = some (.goto (-122), 3, 0, 0, 0, 0, 0, 0) from rfl) (fr' := (352, 5, (mlp 4 (.int (s + Int32.ofInt 1)) (mlp 3 (.int s) (mlp 5 (.int 1) lv))), [])) (M' := M) rfl) ?_
      rw [show s + Int32.ofInt 1 = Int32.ofNat (t + 1 + 1) by rw [hs]; exact os1 (by omega)]
      exact ih (t + 1) _ (by omega) (mlg_r (mlg_r (mlg_r h0 (by decide)) (by decide)) (by decide)) (mlg_i (mlg_i (mlg_i h1 (by decide)) (by decide)) (by decide)) (mlg_i (mlg_i (mlg_i h2' (by decide)) (by decide)) (by decide)) (by rw [cs, ← hs]; exact (mlg_i (mlg_eq 3 _ _) (by decide))) (mlg_eq 4 _ _)
    by_cases c5 : ntS p s S < ntS p b S
    · have cs := ntF_b (v := v) (m := m) (p := p) (a := a) (S := S) (n := n) (mm := mm) (t := t) cn (by rw [← hs, ← hb]; exact Or.inr (Or.inl c5))
      refine e_then (e_il2 hT (y := 352) (pc := 5) (q := (yX12_findNight, cX12_findNight, 6, (some .int), 12)) rfl (show aTab 352 5 = some (.iload 4, 2, 0, 0, 0, 0, 0, 0) from rfl) rfl h4) ?_
      refine e_then (e_st hT (y := 352) (pc := 7) (q := (yX12_findNight, cX12_findNight, 6, (some .int), 12)) rfl (show aTab 352 7 = some (.iconst 1, 1, 0, 0, 0, 0, 0, 0) from rfl) (fr' := (352, 8, lv, [.int 1, .int s])) (M' := M) rfl) ?_
      refine e_then (e_al1 hT (y := 352) (pc := 8) (q := (yX12_findNight, cX12_findNight, 6, (some .int), 12)) rfl (show aTab 352 8 = some (.aload_n 0, 1, 0, 0, 0, 0, 0, 0) from rfl) rfl h0) ?_
      refine e_then (e_getR hT (y := 352) (pc := 9) (q := (yX12_findNight, cX12_findNight, 6, (some .int), 12)) rfl (show aTab 352 9 = some (.getfield 7, 3, 0, 12, 0, 0, 0, 0) from rfl) rfl (by decide) (by decide) hM rfl rfl) ?_
      refine e_then (e_st hT (y := 352) (pc := 12) (q := (yX12_findNight, cX12_findNight, 6, (some .int), 12)) rfl (show aTab 352 12 = some (.bipush 10, 2, 0, 0, 0, 0, 0, 0) from rfl) (fr' := (352, 14, lv, [.int 10, .ref 129, .int 1, .int s])) (M' := M) rfl) ?_
      refine e_then (e_aldR hT (y := 352) (pc := 14) (q := (yX12_findNight, cX12_findNight, 6, (some .int), 12)) rfl (show aTab 352 14 = some (.iaload, 1, 0, 0, 0, 0, 0, 0) from rfl) ⟨rfl, by omega⟩ hM rfl (show (10 : Int32).toInt = ((10 : Nat) : Int) from rfl) (by decide) (hz o00)) ?_
      refine e_then (e_st hT (y := 352) (pc := 15) (q := (yX12_findNight, cX12_findNight, 6, (some .int), 12)) rfl (show aTab 352 15 = some (.ishl, 1, 0, 0, 0, 0, 0, 0) from rfl) (fr' := (352, 16, lv, [.int (1 <<< ((Int32.ofNat S) &&& 31)), .int s])) (M' := M) rfl) ?_
      refine e_then (e_icF hT (y := 352) (pc := 16) (q := (yX12_findNight, cX12_findNight, 6, (some .int), 12)) rfl (show aTab 352 16 = some (.if_icmp .ge 114, 3, 0, 0, 0, 0, 0, 0) from rfl) rfl (t := 130) rfl (cdF (by show ¬ _ ≤ _; omega))) ?_
      refine e_then (e_al1 hT (y := 352) (pc := 19) (q := (yX12_findNight, cX12_findNight, 6, (some .int), 12)) rfl (show aTab 352 19 = some (.aload_n 0, 1, 0, 0, 0, 0, 0, 0) from rfl) rfl h0) ?_
      refine e_then (e_il2 hT (y := 352) (pc := 20) (q := (yX12_findNight, cX12_findNight, 6, (some .int), 12)) rfl (show aTab 352 20 = some (.iload 4, 2, 0, 0, 0, 0, 0, 0) from rfl) rfl h4) ?_
      refine e_then (e_st hT (y := 352) (pc := 22) (q := (yX12_findNight, cX12_findNight, 6, (some .int), 12)) rfl (show aTab 352 22 = some (.iconst 0, 1, 0, 0, 0, 0, 0, 0) from rfl) (fr' := (352, 23, lv, [.int 0, .int s, .ref 128])) (M' := M) rfl) ?_
      refine e_then (e_call hT (y := 352) (pc := 23) (q := (yX12_findNight, cX12_findNight, 6, (some .int), 12)) rfl (show aTab 352 23 = some (.invokevirtual 392, 3, 1, 350, 0, 2, 5, 12) from rfl) rfl ⟨by decide, Nat.le_of_ble_eq_true rfl⟩ hfs (Nat.le_of_ble_eq_true rfl) (Nat.le_of_ble_eq_true rfl) ⟨by decide, by decide⟩ rv) ?_
      refine e_then (e_il1 hT (y := 352) (pc := 26) (q := (yX12_findNight, cX12_findNight, 6, (some .int), 12)) rfl (show aTab 352 26 = some (.iload_n 1, 1, 0, 0, 0, 0, 0, 0) from rfl) rfl h1) ?_
      refine e_then (e_icF hT (y := 352) (pc := 27) (q := (yX12_findNight, cX12_findNight, 6, (some .int), 12)) rfl (show aTab 352 27 = some (.if_icmp .lt 97, 3, 0, 0, 0, 0, 0, 0) from rfl) rfl (t := 124) rfl (cdF (by show ¬ _ < _; exact fun h => c1 (Int32.lt_iff_toInt_lt.mpr h)))) ?_
      refine e_then (e_al1 hT (y := 352) (pc := 30) (q := (yX12_findNight, cX12_findNight, 6, (some .int), 12)) rfl (show aTab 352 30 = some (.aload_n 0, 1, 0, 0, 0, 0, 0, 0) from rfl) rfl h0) ?_
      refine e_then (e_il2 hT (y := 352) (pc := 31) (q := (yX12_findNight, cX12_findNight, 6, (some .int), 12)) rfl (show aTab 352 31 = some (.iload 4, 2, 0, 0, 0, 0, 0, 0) from rfl) rfl h4) ?_
      refine e_then (e_st hT (y := 352) (pc := 33) (q := (yX12_findNight, cX12_findNight, 6, (some .int), 12)) rfl (show aTab 352 33 = some (.iconst 1, 1, 0, 0, 0, 0, 0, 0) from rfl) (fr' := (352, 34, lv, [.int 1, .int s, .ref 128])) (M' := M) rfl) ?_
      refine e_then (e_call hT (y := 352) (pc := 34) (q := (yX12_findNight, cX12_findNight, 6, (some .int), 12)) rfl (show aTab 352 34 = some (.invokevirtual 392, 3, 1, 350, 0, 2, 5, 12) from rfl) rfl ⟨by decide, Nat.le_of_ble_eq_true rfl⟩ hfs (Nat.le_of_ble_eq_true rfl) (Nat.le_of_ble_eq_true rfl) ⟨by decide, by decide⟩ rm) ?_
      refine e_then (e_il1 hT (y := 352) (pc := 37) (q := (yX12_findNight, cX12_findNight, 6, (some .int), 12)) rfl (show aTab 352 37 = some (.iload_n 2, 1, 0, 0, 0, 0, 0, 0) from rfl) rfl h2') ?_
      refine e_then (e_icF hT (y := 352) (pc := 38) (q := (yX12_findNight, cX12_findNight, 6, (some .int), 12)) rfl (show aTab 352 38 = some (.if_icmp .gt 86, 3, 0, 0, 0, 0, 0, 0) from rfl) rfl (t := 124) rfl (cdF (by show ¬ _ < _; exact fun h => c2 (Int32.lt_iff_toInt_lt.mpr h)))) ?_
      refine e_then (e_al1 hT (y := 352) (pc := 41) (q := (yX12_findNight, cX12_findNight, 6, (some .int), 12)) rfl (show aTab 352 41 = some (.aload_n 0, 1, 0, 0, 0, 0, 0, 0) from rfl) rfl h0) ?_
      refine e_then (e_il2 hT (y := 352) (pc := 42) (q := (yX12_findNight, cX12_findNight, 6, (some .int), 12)) rfl (show aTab 352 42 = some (.iload 4, 2, 0, 0, 0, 0, 0, 0) from rfl) rfl h4) ?_
      refine e_then (e_call hT (y := 352) (pc := 44) (q := (yX12_findNight, cX12_findNight, 6, (some .int), 12)) rfl (show aTab 352 44 = some (.invokevirtual 395, 3, 1, 351, 0, 1, 4, 12) from rfl) rfl ⟨by decide, Nat.le_of_ble_eq_true rfl⟩ hfs (Nat.le_of_ble_eq_true rfl) (Nat.le_of_ble_eq_true rfl) ⟨by decide, by decide⟩ rgo) ?_
      refine e_then (e_ifT hT (y := 352) (pc := 47) (q := (yX12_findNight, cX12_findNight, 6, (some .int), 12)) rfl (show aTab 352 47 = some (.ifCond .ne 6, 3, 0, 0, 0, 0, 0, 0) from rfl) rfl (t := 53) rfl (cdT (by show ¬ _ = _; rw [Bool.of_not_eq_false c3]; decide))) ?_
      refine e_then (e_il1 hT (y := 352) (pc := 53) (q := (yX12_findNight, cX12_findNight, 6, (some .int), 12)) rfl (show aTab 352 53 = some (.iload_n 3, 1, 0, 0, 0, 0, 0, 0) from rfl) rfl h3) ?_
      refine e_then (e_ifF hT (y := 352) (pc := 54) (q := (yX12_findNight, cX12_findNight, 6, (some .int), 12)) rfl (show aTab 352 54 = some (.ifCond .lt 51, 3, 0, 0, 0, 0, 0, 0) from rfl) rfl (t := 105) rfl (cdF (by show ¬ _ < _; exact fun h => c4 (Int32.lt_iff_toInt_lt.mpr h)))) ?_
      refine e_then (e_al1 hT (y := 352) (pc := 57) (q := (yX12_findNight, cX12_findNight, 6, (some .int), 12)) rfl (show aTab 352 57 = some (.aload_n 0, 1, 0, 0, 0, 0, 0, 0) from rfl) rfl h0) ?_
      refine e_then (e_il2 hT (y := 352) (pc := 58) (q := (yX12_findNight, cX12_findNight, 6, (some .int), 12)) rfl (show aTab 352 58 = some (.iload 4, 2, 0, 0, 0, 0, 0, 0) from rfl) rfl h4) ?_
      refine e_then (e_st hT (y := 352) (pc := 60) (q := (yX12_findNight, cX12_findNight, 6, (some .int), 12)) rfl (show aTab 352 60 = some (.iconst 2, 1, 0, 0, 0, 0, 0, 0) from rfl) (fr' := (352, 61, lv, [.int 2, .int s, .ref 128])) (M' := M) rfl) ?_
      refine e_then (e_call hT (y := 352) (pc := 61) (q := (yX12_findNight, cX12_findNight, 6, (some .int), 12)) rfl (show aTab 352 61 = some (.invokevirtual 392, 3, 1, 350, 0, 2, 5, 12) from rfl) rfl ⟨by decide, Nat.le_of_ble_eq_true rfl⟩ hfs (Nat.le_of_ble_eq_true rfl) (Nat.le_of_ble_eq_true rfl) ⟨by decide, by decide⟩ rp) ?_
      refine e_then (e_al1 hT (y := 352) (pc := 64) (q := (yX12_findNight, cX12_findNight, 6, (some .int), 12)) rfl (show aTab 352 64 = some (.aload_n 0, 1, 0, 0, 0, 0, 0, 0) from rfl) rfl h0) ?_
      refine e_then (e_il1 hT (y := 352) (pc := 65) (q := (yX12_findNight, cX12_findNight, 6, (some .int), 12)) rfl (show aTab 352 65 = some (.iload_n 3, 1, 0, 0, 0, 0, 0, 0) from rfl) rfl h3) ?_
      refine e_then (e_st hT (y := 352) (pc := 66) (q := (yX12_findNight, cX12_findNight, 6, (some .int), 12)) rfl (show aTab 352 66 = some (.iconst 2, 1, 0, 0, 0, 0, 0, 0) from rfl) (fr' := (352, 67, lv, [.int 2, .int b, .ref 128, .int (ntS p s S)])) (M' := M) rfl) ?_
      refine e_then (e_call hT (y := 352) (pc := 67) (q := (yX12_findNight, cX12_findNight, 6, (some .int), 12)) rfl (show aTab 352 67 = some (.invokevirtual 392, 3, 1, 350, 0, 2, 5, 12) from rfl) rfl ⟨by decide, Nat.le_of_ble_eq_true rfl⟩ hfs (Nat.le_of_ble_eq_true rfl) (Nat.le_of_ble_eq_true rfl) ⟨by decide, by decide⟩ rp2) ?_
      refine e_then (e_icT hT (y := 352) (pc := 70) (q := (yX12_findNight, cX12_findNight, 6, (some .int), 12)) rfl (show aTab 352 70 = some (.if_icmp .lt 35, 3, 0, 0, 0, 0, 0, 0) from rfl) rfl (t := 105) rfl (cdT (by show _ < _; exact Int32.lt_iff_toInt_lt.mp c5))) ?_
      refine e_then (e_st hT (y := 352) (pc := 105) (q := (yX12_findNight, cX12_findNight, 6, (some .int), 12)) rfl (show aTab 352 105 = some (.iconst 1, 1, 0, 0, 0, 0, 0, 0) from rfl) (fr' := (352, 106, lv, [.int 1])) (M' := M) rfl) ?_
      refine e_then (e_st hT (y := 352) (pc := 106) (q := (yX12_findNight, cX12_findNight, 6, (some .int), 12)) rfl (show aTab 352 106 = some (.goto 4, 3, 0, 0, 0, 0, 0, 0) from rfl) (fr' := (352, 110, lv, [.int 1])) (M' := M) rfl) ?_
      refine e_then (e_is2 hT (y := 352) (pc := 110) (q := (yX12_findNight, cX12_findNight, 6, (some .int), 12)) rfl (show aTab 352 110 = some (.istore 5, 2, 0, 0, 0, 0, 0, 0) from rfl) ⟨rfl, by decide⟩) ?_
      refine e_then (e_il2 hT (y := 352) (pc := 112) (q := (yX12_findNight, cX12_findNight, 6, (some .int), 12)) rfl (show aTab 352 112 = some (.iload 5, 2, 0, 0, 0, 0, 0, 0) from rfl) rfl (mlg_eq 5 _ _)) ?_
      refine e_then (e_ifF hT (y := 352) (pc := 114) (q := (yX12_findNight, cX12_findNight, 6, (some .int), 12)) rfl (show aTab 352 114 = some (.ifCond .eq 8, 3, 0, 0, 0, 0, 0, 0) from rfl) rfl (t := 122) rfl (cdF (by show ¬ (1 : Int32).toInt = 0; decide))) ?_
      refine e_then (e_il2 hT (y := 352) (pc := 117) (q := (yX12_findNight, cX12_findNight, 6, (some .int), 12)) rfl (show aTab 352 117 = some (.iload 4, 2, 0, 0, 0, 0, 0, 0) from rfl) rfl (mlg_i h4 (by decide))) ?_
      refine e_then (e_st hT (y := 352) (pc := 119) (q := (yX12_findNight, cX12_findNight, 6, (some .int), 12)) rfl (show aTab 352 119 = some (.goto 4, 3, 0, 0, 0, 0, 0, 0) from rfl) (fr' := (352, 123, (mlp 5 (.int 1) lv), [.int s])) (M' := M) rfl) ?_
      refine e_then (e_is1 hT (y := 352) (pc := 123) (q := (yX12_findNight, cX12_findNight, 6, (some .int), 12)) rfl (show aTab 352 123 = some (.istore_n 3, 1, 0, 0, 0, 0, 0, 0) from rfl) ⟨rfl, by decide⟩) ?_
      refine e_then (e_ii hT (y := 352) (pc := 124) (q := (yX12_findNight, cX12_findNight, 6, (some .int), 12)) rfl (show aTab 352 124 = some (.iinc 4 1, 3, 0, 0, 0, 0, 0, 0) from rfl) ⟨rfl, by decide⟩ (mlg_i (mlg_i h4 (by decide)) (by decide))) ?_
      refine e_then (e_st hT (y := 352) (pc := 127) (q := (yX12_findNight, cX12_findNight, 6, (some .int), 12)) rfl (show aTab 352 127 = some (.goto (-122), 3, 0, 0, 0, 0, 0, 0) from rfl) (fr' := (352, 5, (mlp 4 (.int (s + Int32.ofInt 1)) (mlp 3 (.int s) (mlp 5 (.int 1) lv))), [])) (M' := M) rfl) ?_
      rw [show s + Int32.ofInt 1 = Int32.ofNat (t + 1 + 1) by rw [hs]; exact os1 (by omega)]
      exact ih (t + 1) _ (by omega) (mlg_r (mlg_r (mlg_r h0 (by decide)) (by decide)) (by decide)) (mlg_i (mlg_i (mlg_i h1 (by decide)) (by decide)) (by decide)) (mlg_i (mlg_i (mlg_i h2' (by decide)) (by decide)) (by decide)) (by rw [cs, ← hs]; exact (mlg_i (mlg_eq 3 _ _) (by decide))) (mlg_eq 4 _ _)
    by_cases c6 : ntS p s S = ntS p b S
    · by_cases c7 : ntS m s S < ntS m b S
      · have cs := ntF_b (v := v) (m := m) (p := p) (a := a) (S := S) (n := n) (mm := mm) (t := t) cn (by rw [← hs, ← hb]; exact Or.inr (Or.inr ⟨c6, c7⟩))
        refine e_then (e_il2 hT (y := 352) (pc := 5) (q := (yX12_findNight, cX12_findNight, 6, (some .int), 12)) rfl (show aTab 352 5 = some (.iload 4, 2, 0, 0, 0, 0, 0, 0) from rfl) rfl h4) ?_
        refine e_then (e_st hT (y := 352) (pc := 7) (q := (yX12_findNight, cX12_findNight, 6, (some .int), 12)) rfl (show aTab 352 7 = some (.iconst 1, 1, 0, 0, 0, 0, 0, 0) from rfl) (fr' := (352, 8, lv, [.int 1, .int s])) (M' := M) rfl) ?_
        refine e_then (e_al1 hT (y := 352) (pc := 8) (q := (yX12_findNight, cX12_findNight, 6, (some .int), 12)) rfl (show aTab 352 8 = some (.aload_n 0, 1, 0, 0, 0, 0, 0, 0) from rfl) rfl h0) ?_
        refine e_then (e_getR hT (y := 352) (pc := 9) (q := (yX12_findNight, cX12_findNight, 6, (some .int), 12)) rfl (show aTab 352 9 = some (.getfield 7, 3, 0, 12, 0, 0, 0, 0) from rfl) rfl (by decide) (by decide) hM rfl rfl) ?_
        refine e_then (e_st hT (y := 352) (pc := 12) (q := (yX12_findNight, cX12_findNight, 6, (some .int), 12)) rfl (show aTab 352 12 = some (.bipush 10, 2, 0, 0, 0, 0, 0, 0) from rfl) (fr' := (352, 14, lv, [.int 10, .ref 129, .int 1, .int s])) (M' := M) rfl) ?_
        refine e_then (e_aldR hT (y := 352) (pc := 14) (q := (yX12_findNight, cX12_findNight, 6, (some .int), 12)) rfl (show aTab 352 14 = some (.iaload, 1, 0, 0, 0, 0, 0, 0) from rfl) ⟨rfl, by omega⟩ hM rfl (show (10 : Int32).toInt = ((10 : Nat) : Int) from rfl) (by decide) (hz o00)) ?_
        refine e_then (e_st hT (y := 352) (pc := 15) (q := (yX12_findNight, cX12_findNight, 6, (some .int), 12)) rfl (show aTab 352 15 = some (.ishl, 1, 0, 0, 0, 0, 0, 0) from rfl) (fr' := (352, 16, lv, [.int (1 <<< ((Int32.ofNat S) &&& 31)), .int s])) (M' := M) rfl) ?_
        refine e_then (e_icF hT (y := 352) (pc := 16) (q := (yX12_findNight, cX12_findNight, 6, (some .int), 12)) rfl (show aTab 352 16 = some (.if_icmp .ge 114, 3, 0, 0, 0, 0, 0, 0) from rfl) rfl (t := 130) rfl (cdF (by show ¬ _ ≤ _; omega))) ?_
        refine e_then (e_al1 hT (y := 352) (pc := 19) (q := (yX12_findNight, cX12_findNight, 6, (some .int), 12)) rfl (show aTab 352 19 = some (.aload_n 0, 1, 0, 0, 0, 0, 0, 0) from rfl) rfl h0) ?_
        refine e_then (e_il2 hT (y := 352) (pc := 20) (q := (yX12_findNight, cX12_findNight, 6, (some .int), 12)) rfl (show aTab 352 20 = some (.iload 4, 2, 0, 0, 0, 0, 0, 0) from rfl) rfl h4) ?_
        refine e_then (e_st hT (y := 352) (pc := 22) (q := (yX12_findNight, cX12_findNight, 6, (some .int), 12)) rfl (show aTab 352 22 = some (.iconst 0, 1, 0, 0, 0, 0, 0, 0) from rfl) (fr' := (352, 23, lv, [.int 0, .int s, .ref 128])) (M' := M) rfl) ?_
        refine e_then (e_call hT (y := 352) (pc := 23) (q := (yX12_findNight, cX12_findNight, 6, (some .int), 12)) rfl (show aTab 352 23 = some (.invokevirtual 392, 3, 1, 350, 0, 2, 5, 12) from rfl) rfl ⟨by decide, Nat.le_of_ble_eq_true rfl⟩ hfs (Nat.le_of_ble_eq_true rfl) (Nat.le_of_ble_eq_true rfl) ⟨by decide, by decide⟩ rv) ?_
        refine e_then (e_il1 hT (y := 352) (pc := 26) (q := (yX12_findNight, cX12_findNight, 6, (some .int), 12)) rfl (show aTab 352 26 = some (.iload_n 1, 1, 0, 0, 0, 0, 0, 0) from rfl) rfl h1) ?_
        refine e_then (e_icF hT (y := 352) (pc := 27) (q := (yX12_findNight, cX12_findNight, 6, (some .int), 12)) rfl (show aTab 352 27 = some (.if_icmp .lt 97, 3, 0, 0, 0, 0, 0, 0) from rfl) rfl (t := 124) rfl (cdF (by show ¬ _ < _; exact fun h => c1 (Int32.lt_iff_toInt_lt.mpr h)))) ?_
        refine e_then (e_al1 hT (y := 352) (pc := 30) (q := (yX12_findNight, cX12_findNight, 6, (some .int), 12)) rfl (show aTab 352 30 = some (.aload_n 0, 1, 0, 0, 0, 0, 0, 0) from rfl) rfl h0) ?_
        refine e_then (e_il2 hT (y := 352) (pc := 31) (q := (yX12_findNight, cX12_findNight, 6, (some .int), 12)) rfl (show aTab 352 31 = some (.iload 4, 2, 0, 0, 0, 0, 0, 0) from rfl) rfl h4) ?_
        refine e_then (e_st hT (y := 352) (pc := 33) (q := (yX12_findNight, cX12_findNight, 6, (some .int), 12)) rfl (show aTab 352 33 = some (.iconst 1, 1, 0, 0, 0, 0, 0, 0) from rfl) (fr' := (352, 34, lv, [.int 1, .int s, .ref 128])) (M' := M) rfl) ?_
        refine e_then (e_call hT (y := 352) (pc := 34) (q := (yX12_findNight, cX12_findNight, 6, (some .int), 12)) rfl (show aTab 352 34 = some (.invokevirtual 392, 3, 1, 350, 0, 2, 5, 12) from rfl) rfl ⟨by decide, Nat.le_of_ble_eq_true rfl⟩ hfs (Nat.le_of_ble_eq_true rfl) (Nat.le_of_ble_eq_true rfl) ⟨by decide, by decide⟩ rm) ?_
        refine e_then (e_il1 hT (y := 352) (pc := 37) (q := (yX12_findNight, cX12_findNight, 6, (some .int), 12)) rfl (show aTab 352 37 = some (.iload_n 2, 1, 0, 0, 0, 0, 0, 0) from rfl) rfl h2') ?_
        refine e_then (e_icF hT (y := 352) (pc := 38) (q := (yX12_findNight, cX12_findNight, 6, (some .int), 12)) rfl (show aTab 352 38 = some (.if_icmp .gt 86, 3, 0, 0, 0, 0, 0, 0) from rfl) rfl (t := 124) rfl (cdF (by show ¬ _ < _; exact fun h => c2 (Int32.lt_iff_toInt_lt.mpr h)))) ?_
        refine e_then (e_al1 hT (y := 352) (pc := 41) (q := (yX12_findNight, cX12_findNight, 6, (some .int), 12)) rfl (show aTab 352 41 = some (.aload_n 0, 1, 0, 0, 0, 0, 0, 0) from rfl) rfl h0) ?_
        refine e_then (e_il2 hT (y := 352) (pc := 42) (q := (yX12_findNight, cX12_findNight, 6, (some .int), 12)) rfl (show aTab 352 42 = some (.iload 4, 2, 0, 0, 0, 0, 0, 0) from rfl) rfl h4) ?_
        refine e_then (e_call hT (y := 352) (pc := 44) (q := (yX12_findNight, cX12_findNight, 6, (some .int), 12)) rfl (show aTab 352 44 = some (.invokevirtual 395, 3, 1, 351, 0, 1, 4, 12) from rfl) rfl ⟨by decide, Nat.le_of_ble_eq_true rfl⟩ hfs (Nat.le_of_ble_eq_true rfl) (Nat.le_of_ble_eq_true rfl) ⟨by decide, by decide⟩ rgo) ?_
        refine e_then (e_ifT hT (y := 352) (pc := 47) (q := (yX12_findNight, cX12_findNight, 6, (some .int), 12)) rfl (show aTab 352 47 = some (.ifCond .ne 6, 3, 0, 0, 0, 0, 0, 0) from rfl) rfl (t := 53) rfl (cdT (by show ¬ _ = _; rw [Bool.of_not_eq_false c3]; decide))) ?_
        refine e_then (e_il1 hT (y := 352) (pc := 53) (q := (yX12_findNight, cX12_findNight, 6, (some .int), 12)) rfl (show aTab 352 53 = some (.iload_n 3, 1, 0, 0, 0, 0, 0, 0) from rfl) rfl h3) ?_
        refine e_then (e_ifF hT (y := 352) (pc := 54) (q := (yX12_findNight, cX12_findNight, 6, (some .int), 12)) rfl (show aTab 352 54 = some (.ifCond .lt 51, 3, 0, 0, 0, 0, 0, 0) from rfl) rfl (t := 105) rfl (cdF (by show ¬ _ < _; exact fun h => c4 (Int32.lt_iff_toInt_lt.mpr h)))) ?_
        refine e_then (e_al1 hT (y := 352) (pc := 57) (q := (yX12_findNight, cX12_findNight, 6, (some .int), 12)) rfl (show aTab 352 57 = some (.aload_n 0, 1, 0, 0, 0, 0, 0, 0) from rfl) rfl h0) ?_
        refine e_then (e_il2 hT (y := 352) (pc := 58) (q := (yX12_findNight, cX12_findNight, 6, (some .int), 12)) rfl (show aTab 352 58 = some (.iload 4, 2, 0, 0, 0, 0, 0, 0) from rfl) rfl h4) ?_
        refine e_then (e_st hT (y := 352) (pc := 60) (q := (yX12_findNight, cX12_findNight, 6, (some .int), 12)) rfl (show aTab 352 60 = some (.iconst 2, 1, 0, 0, 0, 0, 0, 0) from rfl) (fr' := (352, 61, lv, [.int 2, .int s, .ref 128])) (M' := M) rfl) ?_
        refine e_then (e_call hT (y := 352) (pc := 61) (q := (yX12_findNight, cX12_findNight, 6, (some .int), 12)) rfl (show aTab 352 61 = some (.invokevirtual 392, 3, 1, 350, 0, 2, 5, 12) from rfl) rfl ⟨by decide, Nat.le_of_ble_eq_true rfl⟩ hfs (Nat.le_of_ble_eq_true rfl) (Nat.le_of_ble_eq_true rfl) ⟨by decide, by decide⟩ rp) ?_
        refine e_then (e_al1 hT (y := 352) (pc := 64) (q := (yX12_findNight, cX12_findNight, 6, (some .int), 12)) rfl (show aTab 352 64 = some (.aload_n 0, 1, 0, 0, 0, 0, 0, 0) from rfl) rfl h0) ?_
        refine e_then (e_il1 hT (y := 352) (pc := 65) (q := (yX12_findNight, cX12_findNight, 6, (some .int), 12)) rfl (show aTab 352 65 = some (.iload_n 3, 1, 0, 0, 0, 0, 0, 0) from rfl) rfl h3) ?_
        refine e_then (e_st hT (y := 352) (pc := 66) (q := (yX12_findNight, cX12_findNight, 6, (some .int), 12)) rfl (show aTab 352 66 = some (.iconst 2, 1, 0, 0, 0, 0, 0, 0) from rfl) (fr' := (352, 67, lv, [.int 2, .int b, .ref 128, .int (ntS p s S)])) (M' := M) rfl) ?_
        refine e_then (e_call hT (y := 352) (pc := 67) (q := (yX12_findNight, cX12_findNight, 6, (some .int), 12)) rfl (show aTab 352 67 = some (.invokevirtual 392, 3, 1, 350, 0, 2, 5, 12) from rfl) rfl ⟨by decide, Nat.le_of_ble_eq_true rfl⟩ hfs (Nat.le_of_ble_eq_true rfl) (Nat.le_of_ble_eq_true rfl) ⟨by decide, by decide⟩ rp2) ?_
        refine e_then (e_icF hT (y := 352) (pc := 70) (q := (yX12_findNight, cX12_findNight, 6, (some .int), 12)) rfl (show aTab 352 70 = some (.if_icmp .lt 35, 3, 0, 0, 0, 0, 0, 0) from rfl) rfl (t := 105) rfl (cdF (by show ¬ _ < _; exact fun h => c5 (Int32.lt_iff_toInt_lt.mpr h)))) ?_
        refine e_then (e_al1 hT (y := 352) (pc := 73) (q := (yX12_findNight, cX12_findNight, 6, (some .int), 12)) rfl (show aTab 352 73 = some (.aload_n 0, 1, 0, 0, 0, 0, 0, 0) from rfl) rfl h0) ?_
        refine e_then (e_il2 hT (y := 352) (pc := 74) (q := (yX12_findNight, cX12_findNight, 6, (some .int), 12)) rfl (show aTab 352 74 = some (.iload 4, 2, 0, 0, 0, 0, 0, 0) from rfl) rfl h4) ?_
        refine e_then (e_st hT (y := 352) (pc := 76) (q := (yX12_findNight, cX12_findNight, 6, (some .int), 12)) rfl (show aTab 352 76 = some (.iconst 2, 1, 0, 0, 0, 0, 0, 0) from rfl) (fr' := (352, 77, lv, [.int 2, .int s, .ref 128])) (M' := M) rfl) ?_
        refine e_then (e_call hT (y := 352) (pc := 77) (q := (yX12_findNight, cX12_findNight, 6, (some .int), 12)) rfl (show aTab 352 77 = some (.invokevirtual 392, 3, 1, 350, 0, 2, 5, 12) from rfl) rfl ⟨by decide, Nat.le_of_ble_eq_true rfl⟩ hfs (Nat.le_of_ble_eq_true rfl) (Nat.le_of_ble_eq_true rfl) ⟨by decide, by decide⟩ rp) ?_
        refine e_then (e_al1 hT (y := 352) (pc := 80) (q := (yX12_findNight, cX12_findNight, 6, (some .int), 12)) rfl (show aTab 352 80 = some (.aload_n 0, 1, 0, 0, 0, 0, 0, 0) from rfl) rfl h0) ?_
        refine e_then (e_il1 hT (y := 352) (pc := 81) (q := (yX12_findNight, cX12_findNight, 6, (some .int), 12)) rfl (show aTab 352 81 = some (.iload_n 3, 1, 0, 0, 0, 0, 0, 0) from rfl) rfl h3) ?_
        refine e_then (e_st hT (y := 352) (pc := 82) (q := (yX12_findNight, cX12_findNight, 6, (some .int), 12)) rfl (show aTab 352 82 = some (.iconst 2, 1, 0, 0, 0, 0, 0, 0) from rfl) (fr' := (352, 83, lv, [.int 2, .int b, .ref 128, .int (ntS p s S)])) (M' := M) rfl) ?_
        refine e_then (e_call hT (y := 352) (pc := 83) (q := (yX12_findNight, cX12_findNight, 6, (some .int), 12)) rfl (show aTab 352 83 = some (.invokevirtual 392, 3, 1, 350, 0, 2, 5, 12) from rfl) rfl ⟨by decide, Nat.le_of_ble_eq_true rfl⟩ hfs (Nat.le_of_ble_eq_true rfl) (Nat.le_of_ble_eq_true rfl) ⟨by decide, by decide⟩ rp2) ?_
        refine e_then (e_icF hT (y := 352) (pc := 86) (q := (yX12_findNight, cX12_findNight, 6, (some .int), 12)) rfl (show aTab 352 86 = some (.if_icmp .ne 23, 3, 0, 0, 0, 0, 0, 0) from rfl) rfl (t := 109) rfl (cdF (by show ¬ ¬ _ = _; exact fun h => h (congrArg Int32.toInt c6)))) ?_
        refine e_then (e_al1 hT (y := 352) (pc := 89) (q := (yX12_findNight, cX12_findNight, 6, (some .int), 12)) rfl (show aTab 352 89 = some (.aload_n 0, 1, 0, 0, 0, 0, 0, 0) from rfl) rfl h0) ?_
        refine e_then (e_il2 hT (y := 352) (pc := 90) (q := (yX12_findNight, cX12_findNight, 6, (some .int), 12)) rfl (show aTab 352 90 = some (.iload 4, 2, 0, 0, 0, 0, 0, 0) from rfl) rfl h4) ?_
        refine e_then (e_st hT (y := 352) (pc := 92) (q := (yX12_findNight, cX12_findNight, 6, (some .int), 12)) rfl (show aTab 352 92 = some (.iconst 1, 1, 0, 0, 0, 0, 0, 0) from rfl) (fr' := (352, 93, lv, [.int 1, .int s, .ref 128])) (M' := M) rfl) ?_
        refine e_then (e_call hT (y := 352) (pc := 93) (q := (yX12_findNight, cX12_findNight, 6, (some .int), 12)) rfl (show aTab 352 93 = some (.invokevirtual 392, 3, 1, 350, 0, 2, 5, 12) from rfl) rfl ⟨by decide, Nat.le_of_ble_eq_true rfl⟩ hfs (Nat.le_of_ble_eq_true rfl) (Nat.le_of_ble_eq_true rfl) ⟨by decide, by decide⟩ rm) ?_
        refine e_then (e_al1 hT (y := 352) (pc := 96) (q := (yX12_findNight, cX12_findNight, 6, (some .int), 12)) rfl (show aTab 352 96 = some (.aload_n 0, 1, 0, 0, 0, 0, 0, 0) from rfl) rfl h0) ?_
        refine e_then (e_il1 hT (y := 352) (pc := 97) (q := (yX12_findNight, cX12_findNight, 6, (some .int), 12)) rfl (show aTab 352 97 = some (.iload_n 3, 1, 0, 0, 0, 0, 0, 0) from rfl) rfl h3) ?_
        refine e_then (e_st hT (y := 352) (pc := 98) (q := (yX12_findNight, cX12_findNight, 6, (some .int), 12)) rfl (show aTab 352 98 = some (.iconst 1, 1, 0, 0, 0, 0, 0, 0) from rfl) (fr' := (352, 99, lv, [.int 1, .int b, .ref 128, .int (ntS m s S)])) (M' := M) rfl) ?_
        refine e_then (e_call hT (y := 352) (pc := 99) (q := (yX12_findNight, cX12_findNight, 6, (some .int), 12)) rfl (show aTab 352 99 = some (.invokevirtual 392, 3, 1, 350, 0, 2, 5, 12) from rfl) rfl ⟨by decide, Nat.le_of_ble_eq_true rfl⟩ hfs (Nat.le_of_ble_eq_true rfl) (Nat.le_of_ble_eq_true rfl) ⟨by decide, by decide⟩ rm2) ?_
        refine e_then (e_icF hT (y := 352) (pc := 102) (q := (yX12_findNight, cX12_findNight, 6, (some .int), 12)) rfl (show aTab 352 102 = some (.if_icmp .ge 7, 3, 0, 0, 0, 0, 0, 0) from rfl) rfl (t := 109) rfl (cdF (by show ¬ _ ≤ _; exact Int.not_le.mpr (Int32.lt_iff_toInt_lt.mp c7)))) ?_
        refine e_then (e_st hT (y := 352) (pc := 105) (q := (yX12_findNight, cX12_findNight, 6, (some .int), 12)) rfl (show aTab 352 105 = some (.iconst 1, 1, 0, 0, 0, 0, 0, 0) from rfl) (fr' := (352, 106, lv, [.int 1])) (M' := M) rfl) ?_
        refine e_then (e_st hT (y := 352) (pc := 106) (q := (yX12_findNight, cX12_findNight, 6, (some .int), 12)) rfl (show aTab 352 106 = some (.goto 4, 3, 0, 0, 0, 0, 0, 0) from rfl) (fr' := (352, 110, lv, [.int 1])) (M' := M) rfl) ?_
        refine e_then (e_is2 hT (y := 352) (pc := 110) (q := (yX12_findNight, cX12_findNight, 6, (some .int), 12)) rfl (show aTab 352 110 = some (.istore 5, 2, 0, 0, 0, 0, 0, 0) from rfl) ⟨rfl, by decide⟩) ?_
        refine e_then (e_il2 hT (y := 352) (pc := 112) (q := (yX12_findNight, cX12_findNight, 6, (some .int), 12)) rfl (show aTab 352 112 = some (.iload 5, 2, 0, 0, 0, 0, 0, 0) from rfl) rfl (mlg_eq 5 _ _)) ?_
        refine e_then (e_ifF hT (y := 352) (pc := 114) (q := (yX12_findNight, cX12_findNight, 6, (some .int), 12)) rfl (show aTab 352 114 = some (.ifCond .eq 8, 3, 0, 0, 0, 0, 0, 0) from rfl) rfl (t := 122) rfl (cdF (by show ¬ (1 : Int32).toInt = 0; decide))) ?_
        refine e_then (e_il2 hT (y := 352) (pc := 117) (q := (yX12_findNight, cX12_findNight, 6, (some .int), 12)) rfl (show aTab 352 117 = some (.iload 4, 2, 0, 0, 0, 0, 0, 0) from rfl) rfl (mlg_i h4 (by decide))) ?_
        refine e_then (e_st hT (y := 352) (pc := 119) (q := (yX12_findNight, cX12_findNight, 6, (some .int), 12)) rfl (show aTab 352 119 = some (.goto 4, 3, 0, 0, 0, 0, 0, 0) from rfl) (fr' := (352, 123, (mlp 5 (.int 1) lv), [.int s])) (M' := M) rfl) ?_
        refine e_then (e_is1 hT (y := 352) (pc := 123) (q := (yX12_findNight, cX12_findNight, 6, (some .int), 12)) rfl (show aTab 352 123 = some (.istore_n 3, 1, 0, 0, 0, 0, 0, 0) from rfl) ⟨rfl, by decide⟩) ?_
        refine e_then (e_ii hT (y := 352) (pc := 124) (q := (yX12_findNight, cX12_findNight, 6, (some .int), 12)) rfl (show aTab 352 124 = some (.iinc 4 1, 3, 0, 0, 0, 0, 0, 0) from rfl) ⟨rfl, by decide⟩ (mlg_i (mlg_i h4 (by decide)) (by decide))) ?_
        refine e_then (e_st hT (y := 352) (pc := 127) (q := (yX12_findNight, cX12_findNight, 6, (some .int), 12)) rfl (show aTab 352 127 = some (.goto (-122), 3, 0, 0, 0, 0, 0, 0) from rfl) (fr' := (352, 5, (mlp 4 (.int (s + Int32.ofInt 1)) (mlp 3 (.int s) (mlp 5 (.int 1) lv))), [])) (M' := M) rfl) ?_
        rw [show s + Int32.ofInt 1 = Int32.ofNat (t + 1 + 1) by rw [hs]; exact os1 (by omega)]
        exact ih (t + 1) _ (by omega) (mlg_r (mlg_r (mlg_r h0 (by decide)) (by decide)) (by decide)) (mlg_i (mlg_i (mlg_i h1 (by decide)) (by decide)) (by decide)) (mlg_i (mlg_i (mlg_i h2' (by decide)) (by decide)) (by decide)) (by rw [cs, ← hs]; exact (mlg_i (mlg_eq 3 _ _) (by decide))) (mlg_eq 4 _ _)
      · have cs := ntF_n (v := v) (m := m) (p := p) (a := a) (S := S) (n := n) (mm := mm) (t := t) cn (by
            rw [← hs, ← hb]
            rintro (h | h | h)
            · exact c4 h
            · exact c5 h
            · exact c7 h.2)
        refine e_then (e_il2 hT (y := 352) (pc := 5) (q := (yX12_findNight, cX12_findNight, 6, (some .int), 12)) rfl (show aTab 352 5 = some (.iload 4, 2, 0, 0, 0, 0, 0, 0) from rfl) rfl h4) ?_
        refine e_then (e_st hT (y := 352) (pc := 7) (q := (yX12_findNight, cX12_findNight, 6, (some .int), 12)) rfl (show aTab 352 7 = some (.iconst 1, 1, 0, 0, 0, 0, 0, 0) from rfl) (fr' := (352, 8, lv, [.int 1, .int s])) (M' := M) rfl) ?_
        refine e_then (e_al1 hT (y := 352) (pc := 8) (q := (yX12_findNight, cX12_findNight, 6, (some .int), 12)) rfl (show aTab 352 8 = some (.aload_n 0, 1, 0, 0, 0, 0, 0, 0) from rfl) rfl h0) ?_
        refine e_then (e_getR hT (y := 352) (pc := 9) (q := (yX12_findNight, cX12_findNight, 6, (some .int), 12)) rfl (show aTab 352 9 = some (.getfield 7, 3, 0, 12, 0, 0, 0, 0) from rfl) rfl (by decide) (by decide) hM rfl rfl) ?_
        refine e_then (e_st hT (y := 352) (pc := 12) (q := (yX12_findNight, cX12_findNight, 6, (some .int), 12)) rfl (show aTab 352 12 = some (.bipush 10, 2, 0, 0, 0, 0, 0, 0) from rfl) (fr' := (352, 14, lv, [.int 10, .ref 129, .int 1, .int s])) (M' := M) rfl) ?_
        refine e_then (e_aldR hT (y := 352) (pc := 14) (q := (yX12_findNight, cX12_findNight, 6, (some .int), 12)) rfl (show aTab 352 14 = some (.iaload, 1, 0, 0, 0, 0, 0, 0) from rfl) ⟨rfl, by omega⟩ hM rfl (show (10 : Int32).toInt = ((10 : Nat) : Int) from rfl) (by decide) (hz o00)) ?_
        refine e_then (e_st hT (y := 352) (pc := 15) (q := (yX12_findNight, cX12_findNight, 6, (some .int), 12)) rfl (show aTab 352 15 = some (.ishl, 1, 0, 0, 0, 0, 0, 0) from rfl) (fr' := (352, 16, lv, [.int (1 <<< ((Int32.ofNat S) &&& 31)), .int s])) (M' := M) rfl) ?_
        refine e_then (e_icF hT (y := 352) (pc := 16) (q := (yX12_findNight, cX12_findNight, 6, (some .int), 12)) rfl (show aTab 352 16 = some (.if_icmp .ge 114, 3, 0, 0, 0, 0, 0, 0) from rfl) rfl (t := 130) rfl (cdF (by show ¬ _ ≤ _; omega))) ?_
        refine e_then (e_al1 hT (y := 352) (pc := 19) (q := (yX12_findNight, cX12_findNight, 6, (some .int), 12)) rfl (show aTab 352 19 = some (.aload_n 0, 1, 0, 0, 0, 0, 0, 0) from rfl) rfl h0) ?_
        refine e_then (e_il2 hT (y := 352) (pc := 20) (q := (yX12_findNight, cX12_findNight, 6, (some .int), 12)) rfl (show aTab 352 20 = some (.iload 4, 2, 0, 0, 0, 0, 0, 0) from rfl) rfl h4) ?_
        refine e_then (e_st hT (y := 352) (pc := 22) (q := (yX12_findNight, cX12_findNight, 6, (some .int), 12)) rfl (show aTab 352 22 = some (.iconst 0, 1, 0, 0, 0, 0, 0, 0) from rfl) (fr' := (352, 23, lv, [.int 0, .int s, .ref 128])) (M' := M) rfl) ?_
        refine e_then (e_call hT (y := 352) (pc := 23) (q := (yX12_findNight, cX12_findNight, 6, (some .int), 12)) rfl (show aTab 352 23 = some (.invokevirtual 392, 3, 1, 350, 0, 2, 5, 12) from rfl) rfl ⟨by decide, Nat.le_of_ble_eq_true rfl⟩ hfs (Nat.le_of_ble_eq_true rfl) (Nat.le_of_ble_eq_true rfl) ⟨by decide, by decide⟩ rv) ?_
        refine e_then (e_il1 hT (y := 352) (pc := 26) (q := (yX12_findNight, cX12_findNight, 6, (some .int), 12)) rfl (show aTab 352 26 = some (.iload_n 1, 1, 0, 0, 0, 0, 0, 0) from rfl) rfl h1) ?_
        refine e_then (e_icF hT (y := 352) (pc := 27) (q := (yX12_findNight, cX12_findNight, 6, (some .int), 12)) rfl (show aTab 352 27 = some (.if_icmp .lt 97, 3, 0, 0, 0, 0, 0, 0) from rfl) rfl (t := 124) rfl (cdF (by show ¬ _ < _; exact fun h => c1 (Int32.lt_iff_toInt_lt.mpr h)))) ?_
        refine e_then (e_al1 hT (y := 352) (pc := 30) (q := (yX12_findNight, cX12_findNight, 6, (some .int), 12)) rfl (show aTab 352 30 = some (.aload_n 0, 1, 0, 0, 0, 0, 0, 0) from rfl) rfl h0) ?_
        refine e_then (e_il2 hT (y := 352) (pc := 31) (q := (yX12_findNight, cX12_findNight, 6, (some .int), 12)) rfl (show aTab 352 31 = some (.iload 4, 2, 0, 0, 0, 0, 0, 0) from rfl) rfl h4) ?_
        refine e_then (e_st hT (y := 352) (pc := 33) (q := (yX12_findNight, cX12_findNight, 6, (some .int), 12)) rfl (show aTab 352 33 = some (.iconst 1, 1, 0, 0, 0, 0, 0, 0) from rfl) (fr' := (352, 34, lv, [.int 1, .int s, .ref 128])) (M' := M) rfl) ?_
        refine e_then (e_call hT (y := 352) (pc := 34) (q := (yX12_findNight, cX12_findNight, 6, (some .int), 12)) rfl (show aTab 352 34 = some (.invokevirtual 392, 3, 1, 350, 0, 2, 5, 12) from rfl) rfl ⟨by decide, Nat.le_of_ble_eq_true rfl⟩ hfs (Nat.le_of_ble_eq_true rfl) (Nat.le_of_ble_eq_true rfl) ⟨by decide, by decide⟩ rm) ?_
        refine e_then (e_il1 hT (y := 352) (pc := 37) (q := (yX12_findNight, cX12_findNight, 6, (some .int), 12)) rfl (show aTab 352 37 = some (.iload_n 2, 1, 0, 0, 0, 0, 0, 0) from rfl) rfl h2') ?_
        refine e_then (e_icF hT (y := 352) (pc := 38) (q := (yX12_findNight, cX12_findNight, 6, (some .int), 12)) rfl (show aTab 352 38 = some (.if_icmp .gt 86, 3, 0, 0, 0, 0, 0, 0) from rfl) rfl (t := 124) rfl (cdF (by show ¬ _ < _; exact fun h => c2 (Int32.lt_iff_toInt_lt.mpr h)))) ?_
        refine e_then (e_al1 hT (y := 352) (pc := 41) (q := (yX12_findNight, cX12_findNight, 6, (some .int), 12)) rfl (show aTab 352 41 = some (.aload_n 0, 1, 0, 0, 0, 0, 0, 0) from rfl) rfl h0) ?_
        refine e_then (e_il2 hT (y := 352) (pc := 42) (q := (yX12_findNight, cX12_findNight, 6, (some .int), 12)) rfl (show aTab 352 42 = some (.iload 4, 2, 0, 0, 0, 0, 0, 0) from rfl) rfl h4) ?_
        refine e_then (e_call hT (y := 352) (pc := 44) (q := (yX12_findNight, cX12_findNight, 6, (some .int), 12)) rfl (show aTab 352 44 = some (.invokevirtual 395, 3, 1, 351, 0, 1, 4, 12) from rfl) rfl ⟨by decide, Nat.le_of_ble_eq_true rfl⟩ hfs (Nat.le_of_ble_eq_true rfl) (Nat.le_of_ble_eq_true rfl) ⟨by decide, by decide⟩ rgo) ?_
        refine e_then (e_ifT hT (y := 352) (pc := 47) (q := (yX12_findNight, cX12_findNight, 6, (some .int), 12)) rfl (show aTab 352 47 = some (.ifCond .ne 6, 3, 0, 0, 0, 0, 0, 0) from rfl) rfl (t := 53) rfl (cdT (by show ¬ _ = _; rw [Bool.of_not_eq_false c3]; decide))) ?_
        refine e_then (e_il1 hT (y := 352) (pc := 53) (q := (yX12_findNight, cX12_findNight, 6, (some .int), 12)) rfl (show aTab 352 53 = some (.iload_n 3, 1, 0, 0, 0, 0, 0, 0) from rfl) rfl h3) ?_
        refine e_then (e_ifF hT (y := 352) (pc := 54) (q := (yX12_findNight, cX12_findNight, 6, (some .int), 12)) rfl (show aTab 352 54 = some (.ifCond .lt 51, 3, 0, 0, 0, 0, 0, 0) from rfl) rfl (t := 105) rfl (cdF (by show ¬ _ < _; exact fun h => c4 (Int32.lt_iff_toInt_lt.mpr h)))) ?_
        refine e_then (e_al1 hT (y := 352) (pc := 57) (q := (yX12_findNight, cX12_findNight, 6, (some .int), 12)) rfl (show aTab 352 57 = some (.aload_n 0, 1, 0, 0, 0, 0, 0, 0) from rfl) rfl h0) ?_
        refine e_then (e_il2 hT (y := 352) (pc := 58) (q := (yX12_findNight, cX12_findNight, 6, (some .int), 12)) rfl (show aTab 352 58 = some (.iload 4, 2, 0, 0, 0, 0, 0, 0) from rfl) rfl h4) ?_
        refine e_then (e_st hT (y := 352) (pc := 60) (q := (yX12_findNight, cX12_findNight, 6, (some .int), 12)) rfl (show aTab 352 60 = some (.iconst 2, 1, 0, 0, 0, 0, 0, 0) from rfl) (fr' := (352, 61, lv, [.int 2, .int s, .ref 128])) (M' := M) rfl) ?_
        refine e_then (e_call hT (y := 352) (pc := 61) (q := (yX12_findNight, cX12_findNight, 6, (some .int), 12)) rfl (show aTab 352 61 = some (.invokevirtual 392, 3, 1, 350, 0, 2, 5, 12) from rfl) rfl ⟨by decide, Nat.le_of_ble_eq_true rfl⟩ hfs (Nat.le_of_ble_eq_true rfl) (Nat.le_of_ble_eq_true rfl) ⟨by decide, by decide⟩ rp) ?_
        refine e_then (e_al1 hT (y := 352) (pc := 64) (q := (yX12_findNight, cX12_findNight, 6, (some .int), 12)) rfl (show aTab 352 64 = some (.aload_n 0, 1, 0, 0, 0, 0, 0, 0) from rfl) rfl h0) ?_
        refine e_then (e_il1 hT (y := 352) (pc := 65) (q := (yX12_findNight, cX12_findNight, 6, (some .int), 12)) rfl (show aTab 352 65 = some (.iload_n 3, 1, 0, 0, 0, 0, 0, 0) from rfl) rfl h3) ?_
        refine e_then (e_st hT (y := 352) (pc := 66) (q := (yX12_findNight, cX12_findNight, 6, (some .int), 12)) rfl (show aTab 352 66 = some (.iconst 2, 1, 0, 0, 0, 0, 0, 0) from rfl) (fr' := (352, 67, lv, [.int 2, .int b, .ref 128, .int (ntS p s S)])) (M' := M) rfl) ?_
        refine e_then (e_call hT (y := 352) (pc := 67) (q := (yX12_findNight, cX12_findNight, 6, (some .int), 12)) rfl (show aTab 352 67 = some (.invokevirtual 392, 3, 1, 350, 0, 2, 5, 12) from rfl) rfl ⟨by decide, Nat.le_of_ble_eq_true rfl⟩ hfs (Nat.le_of_ble_eq_true rfl) (Nat.le_of_ble_eq_true rfl) ⟨by decide, by decide⟩ rp2) ?_
        refine e_then (e_icF hT (y := 352) (pc := 70) (q := (yX12_findNight, cX12_findNight, 6, (some .int), 12)) rfl (show aTab 352 70 = some (.if_icmp .lt 35, 3, 0, 0, 0, 0, 0, 0) from rfl) rfl (t := 105) rfl (cdF (by show ¬ _ < _; exact fun h => c5 (Int32.lt_iff_toInt_lt.mpr h)))) ?_
        refine e_then (e_al1 hT (y := 352) (pc := 73) (q := (yX12_findNight, cX12_findNight, 6, (some .int), 12)) rfl (show aTab 352 73 = some (.aload_n 0, 1, 0, 0, 0, 0, 0, 0) from rfl) rfl h0) ?_
        refine e_then (e_il2 hT (y := 352) (pc := 74) (q := (yX12_findNight, cX12_findNight, 6, (some .int), 12)) rfl (show aTab 352 74 = some (.iload 4, 2, 0, 0, 0, 0, 0, 0) from rfl) rfl h4) ?_
        refine e_then (e_st hT (y := 352) (pc := 76) (q := (yX12_findNight, cX12_findNight, 6, (some .int), 12)) rfl (show aTab 352 76 = some (.iconst 2, 1, 0, 0, 0, 0, 0, 0) from rfl) (fr' := (352, 77, lv, [.int 2, .int s, .ref 128])) (M' := M) rfl) ?_
        refine e_then (e_call hT (y := 352) (pc := 77) (q := (yX12_findNight, cX12_findNight, 6, (some .int), 12)) rfl (show aTab 352 77 = some (.invokevirtual 392, 3, 1, 350, 0, 2, 5, 12) from rfl) rfl ⟨by decide, Nat.le_of_ble_eq_true rfl⟩ hfs (Nat.le_of_ble_eq_true rfl) (Nat.le_of_ble_eq_true rfl) ⟨by decide, by decide⟩ rp) ?_
        refine e_then (e_al1 hT (y := 352) (pc := 80) (q := (yX12_findNight, cX12_findNight, 6, (some .int), 12)) rfl (show aTab 352 80 = some (.aload_n 0, 1, 0, 0, 0, 0, 0, 0) from rfl) rfl h0) ?_
        refine e_then (e_il1 hT (y := 352) (pc := 81) (q := (yX12_findNight, cX12_findNight, 6, (some .int), 12)) rfl (show aTab 352 81 = some (.iload_n 3, 1, 0, 0, 0, 0, 0, 0) from rfl) rfl h3) ?_
        refine e_then (e_st hT (y := 352) (pc := 82) (q := (yX12_findNight, cX12_findNight, 6, (some .int), 12)) rfl (show aTab 352 82 = some (.iconst 2, 1, 0, 0, 0, 0, 0, 0) from rfl) (fr' := (352, 83, lv, [.int 2, .int b, .ref 128, .int (ntS p s S)])) (M' := M) rfl) ?_
        refine e_then (e_call hT (y := 352) (pc := 83) (q := (yX12_findNight, cX12_findNight, 6, (some .int), 12)) rfl (show aTab 352 83 = some (.invokevirtual 392, 3, 1, 350, 0, 2, 5, 12) from rfl) rfl ⟨by decide, Nat.le_of_ble_eq_true rfl⟩ hfs (Nat.le_of_ble_eq_true rfl) (Nat.le_of_ble_eq_true rfl) ⟨by decide, by decide⟩ rp2) ?_
        refine e_then (e_icF hT (y := 352) (pc := 86) (q := (yX12_findNight, cX12_findNight, 6, (some .int), 12)) rfl (show aTab 352 86 = some (.if_icmp .ne 23, 3, 0, 0, 0, 0, 0, 0) from rfl) rfl (t := 109) rfl (cdF (by show ¬ ¬ _ = _; exact fun h => h (congrArg Int32.toInt c6)))) ?_
        refine e_then (e_al1 hT (y := 352) (pc := 89) (q := (yX12_findNight, cX12_findNight, 6, (some .int), 12)) rfl (show aTab 352 89 = some (.aload_n 0, 1, 0, 0, 0, 0, 0, 0) from rfl) rfl h0) ?_
        refine e_then (e_il2 hT (y := 352) (pc := 90) (q := (yX12_findNight, cX12_findNight, 6, (some .int), 12)) rfl (show aTab 352 90 = some (.iload 4, 2, 0, 0, 0, 0, 0, 0) from rfl) rfl h4) ?_
        refine e_then (e_st hT (y := 352) (pc := 92) (q := (yX12_findNight, cX12_findNight, 6, (some .int), 12)) rfl (show aTab 352 92 = some (.iconst 1, 1, 0, 0, 0, 0, 0, 0) from rfl) (fr' := (352, 93, lv, [.int 1, .int s, .ref 128])) (M' := M) rfl) ?_
        refine e_then (e_call hT (y := 352) (pc := 93) (q := (yX12_findNight, cX12_findNight, 6, (some .int), 12)) rfl (show aTab 352 93 = some (.invokevirtual 392, 3, 1, 350, 0, 2, 5, 12) from rfl) rfl ⟨by decide, Nat.le_of_ble_eq_true rfl⟩ hfs (Nat.le_of_ble_eq_true rfl) (Nat.le_of_ble_eq_true rfl) ⟨by decide, by decide⟩ rm) ?_
        refine e_then (e_al1 hT (y := 352) (pc := 96) (q := (yX12_findNight, cX12_findNight, 6, (some .int), 12)) rfl (show aTab 352 96 = some (.aload_n 0, 1, 0, 0, 0, 0, 0, 0) from rfl) rfl h0) ?_
        refine e_then (e_il1 hT (y := 352) (pc := 97) (q := (yX12_findNight, cX12_findNight, 6, (some .int), 12)) rfl (show aTab 352 97 = some (.iload_n 3, 1, 0, 0, 0, 0, 0, 0) from rfl) rfl h3) ?_
        refine e_then (e_st hT (y := 352) (pc := 98) (q := (yX12_findNight, cX12_findNight, 6, (some .int), 12)) rfl (show aTab 352 98 = some (.iconst 1, 1, 0, 0, 0, 0, 0, 0) from rfl) (fr' := (352, 99, lv, [.int 1, .int b, .ref 128, .int (ntS m s S)])) (M' := M) rfl) ?_
        refine e_then (e_call hT (y := 352) (pc := 99) (q := (yX12_findNight, cX12_findNight, 6, (some .int), 12)) rfl (show aTab 352 99 = some (.invokevirtual 392, 3, 1, 350, 0, 2, 5, 12) from rfl) rfl ⟨by decide, Nat.le_of_ble_eq_true rfl⟩ hfs (Nat.le_of_ble_eq_true rfl) (Nat.le_of_ble_eq_true rfl) ⟨by decide, by decide⟩ rm2) ?_
        refine e_then (e_icT hT (y := 352) (pc := 102) (q := (yX12_findNight, cX12_findNight, 6, (some .int), 12)) rfl (show aTab 352 102 = some (.if_icmp .ge 7, 3, 0, 0, 0, 0, 0, 0) from rfl) rfl (t := 109) rfl (cdT (by show _ ≤ _; exact Int.not_lt.mp (fun h => c7 (Int32.lt_iff_toInt_lt.mpr h))))) ?_
        refine e_then (e_st hT (y := 352) (pc := 109) (q := (yX12_findNight, cX12_findNight, 6, (some .int), 12)) rfl (show aTab 352 109 = some (.iconst 0, 1, 0, 0, 0, 0, 0, 0) from rfl) (fr' := (352, 110, lv, [.int 0])) (M' := M) rfl) ?_
        refine e_then (e_is2 hT (y := 352) (pc := 110) (q := (yX12_findNight, cX12_findNight, 6, (some .int), 12)) rfl (show aTab 352 110 = some (.istore 5, 2, 0, 0, 0, 0, 0, 0) from rfl) ⟨rfl, by decide⟩) ?_
        refine e_then (e_il2 hT (y := 352) (pc := 112) (q := (yX12_findNight, cX12_findNight, 6, (some .int), 12)) rfl (show aTab 352 112 = some (.iload 5, 2, 0, 0, 0, 0, 0, 0) from rfl) rfl (mlg_eq 5 _ _)) ?_
        refine e_then (e_ifT hT (y := 352) (pc := 114) (q := (yX12_findNight, cX12_findNight, 6, (some .int), 12)) rfl (show aTab 352 114 = some (.ifCond .eq 8, 3, 0, 0, 0, 0, 0, 0) from rfl) rfl (t := 122) rfl (cdT (by show (0 : Int32).toInt = 0; rfl))) ?_
        refine e_then (e_il1 hT (y := 352) (pc := 122) (q := (yX12_findNight, cX12_findNight, 6, (some .int), 12)) rfl (show aTab 352 122 = some (.iload_n 3, 1, 0, 0, 0, 0, 0, 0) from rfl) rfl (mlg_i h3 (by decide))) ?_
        refine e_then (e_is1 hT (y := 352) (pc := 123) (q := (yX12_findNight, cX12_findNight, 6, (some .int), 12)) rfl (show aTab 352 123 = some (.istore_n 3, 1, 0, 0, 0, 0, 0, 0) from rfl) ⟨rfl, by decide⟩) ?_
        refine e_then (e_ii hT (y := 352) (pc := 124) (q := (yX12_findNight, cX12_findNight, 6, (some .int), 12)) rfl (show aTab 352 124 = some (.iinc 4 1, 3, 0, 0, 0, 0, 0, 0) from rfl) ⟨rfl, by decide⟩ (mlg_i (mlg_i h4 (by decide)) (by decide))) ?_
        refine e_then (e_st hT (y := 352) (pc := 127) (q := (yX12_findNight, cX12_findNight, 6, (some .int), 12)) rfl (show aTab 352 127 = some (.goto (-122), 3, 0, 0, 0, 0, 0, 0) from rfl) (fr' := (352, 5, (mlp 4 (.int (s + Int32.ofInt 1)) (mlp 3 (.int b) (mlp 5 (.int 0) lv))), [])) (M' := M) rfl) ?_
        rw [show s + Int32.ofInt 1 = Int32.ofNat (t + 1 + 1) by rw [hs]; exact os1 (by omega)]
        exact ih (t + 1) _ (by omega) (mlg_r (mlg_r (mlg_r h0 (by decide)) (by decide)) (by decide)) (mlg_i (mlg_i (mlg_i h1 (by decide)) (by decide)) (by decide)) (mlg_i (mlg_i (mlg_i h2' (by decide)) (by decide)) (by decide)) (by rw [cs, ← hb]; exact (mlg_i (mlg_eq 3 _ _) (by decide))) (mlg_eq 4 _ _)
    · have cs := ntF_n (v := v) (m := m) (p := p) (a := a) (S := S) (n := n) (mm := mm) (t := t) cn (by
          rw [← hs, ← hb]
          rintro (h | h | h)
          · exact c4 h
          · exact c5 h
          · exact c6 h.1)
      refine e_then (e_il2 hT (y := 352) (pc := 5) (q := (yX12_findNight, cX12_findNight, 6, (some .int), 12)) rfl (show aTab 352 5 = some (.iload 4, 2, 0, 0, 0, 0, 0, 0) from rfl) rfl h4) ?_
      refine e_then (e_st hT (y := 352) (pc := 7) (q := (yX12_findNight, cX12_findNight, 6, (some .int), 12)) rfl (show aTab 352 7 = some (.iconst 1, 1, 0, 0, 0, 0, 0, 0) from rfl) (fr' := (352, 8, lv, [.int 1, .int s])) (M' := M) rfl) ?_
      refine e_then (e_al1 hT (y := 352) (pc := 8) (q := (yX12_findNight, cX12_findNight, 6, (some .int), 12)) rfl (show aTab 352 8 = some (.aload_n 0, 1, 0, 0, 0, 0, 0, 0) from rfl) rfl h0) ?_
      refine e_then (e_getR hT (y := 352) (pc := 9) (q := (yX12_findNight, cX12_findNight, 6, (some .int), 12)) rfl (show aTab 352 9 = some (.getfield 7, 3, 0, 12, 0, 0, 0, 0) from rfl) rfl (by decide) (by decide) hM rfl rfl) ?_
      refine e_then (e_st hT (y := 352) (pc := 12) (q := (yX12_findNight, cX12_findNight, 6, (some .int), 12)) rfl (show aTab 352 12 = some (.bipush 10, 2, 0, 0, 0, 0, 0, 0) from rfl) (fr' := (352, 14, lv, [.int 10, .ref 129, .int 1, .int s])) (M' := M) rfl) ?_
      refine e_then (e_aldR hT (y := 352) (pc := 14) (q := (yX12_findNight, cX12_findNight, 6, (some .int), 12)) rfl (show aTab 352 14 = some (.iaload, 1, 0, 0, 0, 0, 0, 0) from rfl) ⟨rfl, by omega⟩ hM rfl (show (10 : Int32).toInt = ((10 : Nat) : Int) from rfl) (by decide) (hz o00)) ?_
      refine e_then (e_st hT (y := 352) (pc := 15) (q := (yX12_findNight, cX12_findNight, 6, (some .int), 12)) rfl (show aTab 352 15 = some (.ishl, 1, 0, 0, 0, 0, 0, 0) from rfl) (fr' := (352, 16, lv, [.int (1 <<< ((Int32.ofNat S) &&& 31)), .int s])) (M' := M) rfl) ?_
      refine e_then (e_icF hT (y := 352) (pc := 16) (q := (yX12_findNight, cX12_findNight, 6, (some .int), 12)) rfl (show aTab 352 16 = some (.if_icmp .ge 114, 3, 0, 0, 0, 0, 0, 0) from rfl) rfl (t := 130) rfl (cdF (by show ¬ _ ≤ _; omega))) ?_
      refine e_then (e_al1 hT (y := 352) (pc := 19) (q := (yX12_findNight, cX12_findNight, 6, (some .int), 12)) rfl (show aTab 352 19 = some (.aload_n 0, 1, 0, 0, 0, 0, 0, 0) from rfl) rfl h0) ?_
      refine e_then (e_il2 hT (y := 352) (pc := 20) (q := (yX12_findNight, cX12_findNight, 6, (some .int), 12)) rfl (show aTab 352 20 = some (.iload 4, 2, 0, 0, 0, 0, 0, 0) from rfl) rfl h4) ?_
      refine e_then (e_st hT (y := 352) (pc := 22) (q := (yX12_findNight, cX12_findNight, 6, (some .int), 12)) rfl (show aTab 352 22 = some (.iconst 0, 1, 0, 0, 0, 0, 0, 0) from rfl) (fr' := (352, 23, lv, [.int 0, .int s, .ref 128])) (M' := M) rfl) ?_
      refine e_then (e_call hT (y := 352) (pc := 23) (q := (yX12_findNight, cX12_findNight, 6, (some .int), 12)) rfl (show aTab 352 23 = some (.invokevirtual 392, 3, 1, 350, 0, 2, 5, 12) from rfl) rfl ⟨by decide, Nat.le_of_ble_eq_true rfl⟩ hfs (Nat.le_of_ble_eq_true rfl) (Nat.le_of_ble_eq_true rfl) ⟨by decide, by decide⟩ rv) ?_
      refine e_then (e_il1 hT (y := 352) (pc := 26) (q := (yX12_findNight, cX12_findNight, 6, (some .int), 12)) rfl (show aTab 352 26 = some (.iload_n 1, 1, 0, 0, 0, 0, 0, 0) from rfl) rfl h1) ?_
      refine e_then (e_icF hT (y := 352) (pc := 27) (q := (yX12_findNight, cX12_findNight, 6, (some .int), 12)) rfl (show aTab 352 27 = some (.if_icmp .lt 97, 3, 0, 0, 0, 0, 0, 0) from rfl) rfl (t := 124) rfl (cdF (by show ¬ _ < _; exact fun h => c1 (Int32.lt_iff_toInt_lt.mpr h)))) ?_
      refine e_then (e_al1 hT (y := 352) (pc := 30) (q := (yX12_findNight, cX12_findNight, 6, (some .int), 12)) rfl (show aTab 352 30 = some (.aload_n 0, 1, 0, 0, 0, 0, 0, 0) from rfl) rfl h0) ?_
      refine e_then (e_il2 hT (y := 352) (pc := 31) (q := (yX12_findNight, cX12_findNight, 6, (some .int), 12)) rfl (show aTab 352 31 = some (.iload 4, 2, 0, 0, 0, 0, 0, 0) from rfl) rfl h4) ?_
      refine e_then (e_st hT (y := 352) (pc := 33) (q := (yX12_findNight, cX12_findNight, 6, (some .int), 12)) rfl (show aTab 352 33 = some (.iconst 1, 1, 0, 0, 0, 0, 0, 0) from rfl) (fr' := (352, 34, lv, [.int 1, .int s, .ref 128])) (M' := M) rfl) ?_
      refine e_then (e_call hT (y := 352) (pc := 34) (q := (yX12_findNight, cX12_findNight, 6, (some .int), 12)) rfl (show aTab 352 34 = some (.invokevirtual 392, 3, 1, 350, 0, 2, 5, 12) from rfl) rfl ⟨by decide, Nat.le_of_ble_eq_true rfl⟩ hfs (Nat.le_of_ble_eq_true rfl) (Nat.le_of_ble_eq_true rfl) ⟨by decide, by decide⟩ rm) ?_
      refine e_then (e_il1 hT (y := 352) (pc := 37) (q := (yX12_findNight, cX12_findNight, 6, (some .int), 12)) rfl (show aTab 352 37 = some (.iload_n 2, 1, 0, 0, 0, 0, 0, 0) from rfl) rfl h2') ?_
      refine e_then (e_icF hT (y := 352) (pc := 38) (q := (yX12_findNight, cX12_findNight, 6, (some .int), 12)) rfl (show aTab 352 38 = some (.if_icmp .gt 86, 3, 0, 0, 0, 0, 0, 0) from rfl) rfl (t := 124) rfl (cdF (by show ¬ _ < _; exact fun h => c2 (Int32.lt_iff_toInt_lt.mpr h)))) ?_
      refine e_then (e_al1 hT (y := 352) (pc := 41) (q := (yX12_findNight, cX12_findNight, 6, (some .int), 12)) rfl (show aTab 352 41 = some (.aload_n 0, 1, 0, 0, 0, 0, 0, 0) from rfl) rfl h0) ?_
      refine e_then (e_il2 hT (y := 352) (pc := 42) (q := (yX12_findNight, cX12_findNight, 6, (some .int), 12)) rfl (show aTab 352 42 = some (.iload 4, 2, 0, 0, 0, 0, 0, 0) from rfl) rfl h4) ?_
      refine e_then (e_call hT (y := 352) (pc := 44) (q := (yX12_findNight, cX12_findNight, 6, (some .int), 12)) rfl (show aTab 352 44 = some (.invokevirtual 395, 3, 1, 351, 0, 1, 4, 12) from rfl) rfl ⟨by decide, Nat.le_of_ble_eq_true rfl⟩ hfs (Nat.le_of_ble_eq_true rfl) (Nat.le_of_ble_eq_true rfl) ⟨by decide, by decide⟩ rgo) ?_
      refine e_then (e_ifT hT (y := 352) (pc := 47) (q := (yX12_findNight, cX12_findNight, 6, (some .int), 12)) rfl (show aTab 352 47 = some (.ifCond .ne 6, 3, 0, 0, 0, 0, 0, 0) from rfl) rfl (t := 53) rfl (cdT (by show ¬ _ = _; rw [Bool.of_not_eq_false c3]; decide))) ?_
      refine e_then (e_il1 hT (y := 352) (pc := 53) (q := (yX12_findNight, cX12_findNight, 6, (some .int), 12)) rfl (show aTab 352 53 = some (.iload_n 3, 1, 0, 0, 0, 0, 0, 0) from rfl) rfl h3) ?_
      refine e_then (e_ifF hT (y := 352) (pc := 54) (q := (yX12_findNight, cX12_findNight, 6, (some .int), 12)) rfl (show aTab 352 54 = some (.ifCond .lt 51, 3, 0, 0, 0, 0, 0, 0) from rfl) rfl (t := 105) rfl (cdF (by show ¬ _ < _; exact fun h => c4 (Int32.lt_iff_toInt_lt.mpr h)))) ?_
      refine e_then (e_al1 hT (y := 352) (pc := 57) (q := (yX12_findNight, cX12_findNight, 6, (some .int), 12)) rfl (show aTab 352 57 = some (.aload_n 0, 1, 0, 0, 0, 0, 0, 0) from rfl) rfl h0) ?_
      refine e_then (e_il2 hT (y := 352) (pc := 58) (q := (yX12_findNight, cX12_findNight, 6, (some .int), 12)) rfl (show aTab 352 58 = some (.iload 4, 2, 0, 0, 0, 0, 0, 0) from rfl) rfl h4) ?_
      refine e_then (e_st hT (y := 352) (pc := 60) (q := (yX12_findNight, cX12_findNight, 6, (some .int), 12)) rfl (show aTab 352 60 = some (.iconst 2, 1, 0, 0, 0, 0, 0, 0) from rfl) (fr' := (352, 61, lv, [.int 2, .int s, .ref 128])) (M' := M) rfl) ?_
      refine e_then (e_call hT (y := 352) (pc := 61) (q := (yX12_findNight, cX12_findNight, 6, (some .int), 12)) rfl (show aTab 352 61 = some (.invokevirtual 392, 3, 1, 350, 0, 2, 5, 12) from rfl) rfl ⟨by decide, Nat.le_of_ble_eq_true rfl⟩ hfs (Nat.le_of_ble_eq_true rfl) (Nat.le_of_ble_eq_true rfl) ⟨by decide, by decide⟩ rp) ?_
      refine e_then (e_al1 hT (y := 352) (pc := 64) (q := (yX12_findNight, cX12_findNight, 6, (some .int), 12)) rfl (show aTab 352 64 = some (.aload_n 0, 1, 0, 0, 0, 0, 0, 0) from rfl) rfl h0) ?_
      refine e_then (e_il1 hT (y := 352) (pc := 65) (q := (yX12_findNight, cX12_findNight, 6, (some .int), 12)) rfl (show aTab 352 65 = some (.iload_n 3, 1, 0, 0, 0, 0, 0, 0) from rfl) rfl h3) ?_
      refine e_then (e_st hT (y := 352) (pc := 66) (q := (yX12_findNight, cX12_findNight, 6, (some .int), 12)) rfl (show aTab 352 66 = some (.iconst 2, 1, 0, 0, 0, 0, 0, 0) from rfl) (fr' := (352, 67, lv, [.int 2, .int b, .ref 128, .int (ntS p s S)])) (M' := M) rfl) ?_
      refine e_then (e_call hT (y := 352) (pc := 67) (q := (yX12_findNight, cX12_findNight, 6, (some .int), 12)) rfl (show aTab 352 67 = some (.invokevirtual 392, 3, 1, 350, 0, 2, 5, 12) from rfl) rfl ⟨by decide, Nat.le_of_ble_eq_true rfl⟩ hfs (Nat.le_of_ble_eq_true rfl) (Nat.le_of_ble_eq_true rfl) ⟨by decide, by decide⟩ rp2) ?_
      refine e_then (e_icF hT (y := 352) (pc := 70) (q := (yX12_findNight, cX12_findNight, 6, (some .int), 12)) rfl (show aTab 352 70 = some (.if_icmp .lt 35, 3, 0, 0, 0, 0, 0, 0) from rfl) rfl (t := 105) rfl (cdF (by show ¬ _ < _; exact fun h => c5 (Int32.lt_iff_toInt_lt.mpr h)))) ?_
      refine e_then (e_al1 hT (y := 352) (pc := 73) (q := (yX12_findNight, cX12_findNight, 6, (some .int), 12)) rfl (show aTab 352 73 = some (.aload_n 0, 1, 0, 0, 0, 0, 0, 0) from rfl) rfl h0) ?_
      refine e_then (e_il2 hT (y := 352) (pc := 74) (q := (yX12_findNight, cX12_findNight, 6, (some .int), 12)) rfl (show aTab 352 74 = some (.iload 4, 2, 0, 0, 0, 0, 0, 0) from rfl) rfl h4) ?_
      refine e_then (e_st hT (y := 352) (pc := 76) (q := (yX12_findNight, cX12_findNight, 6, (some .int), 12)) rfl (show aTab 352 76 = some (.iconst 2, 1, 0, 0, 0, 0, 0, 0) from rfl) (fr' := (352, 77, lv, [.int 2, .int s, .ref 128])) (M' := M) rfl) ?_
      refine e_then (e_call hT (y := 352) (pc := 77) (q := (yX12_findNight, cX12_findNight, 6, (some .int), 12)) rfl (show aTab 352 77 = some (.invokevirtual 392, 3, 1, 350, 0, 2, 5, 12) from rfl) rfl ⟨by decide, Nat.le_of_ble_eq_true rfl⟩ hfs (Nat.le_of_ble_eq_true rfl) (Nat.le_of_ble_eq_true rfl) ⟨by decide, by decide⟩ rp) ?_
      refine e_then (e_al1 hT (y := 352) (pc := 80) (q := (yX12_findNight, cX12_findNight, 6, (some .int), 12)) rfl (show aTab 352 80 = some (.aload_n 0, 1, 0, 0, 0, 0, 0, 0) from rfl) rfl h0) ?_
      refine e_then (e_il1 hT (y := 352) (pc := 81) (q := (yX12_findNight, cX12_findNight, 6, (some .int), 12)) rfl (show aTab 352 81 = some (.iload_n 3, 1, 0, 0, 0, 0, 0, 0) from rfl) rfl h3) ?_
      refine e_then (e_st hT (y := 352) (pc := 82) (q := (yX12_findNight, cX12_findNight, 6, (some .int), 12)) rfl (show aTab 352 82 = some (.iconst 2, 1, 0, 0, 0, 0, 0, 0) from rfl) (fr' := (352, 83, lv, [.int 2, .int b, .ref 128, .int (ntS p s S)])) (M' := M) rfl) ?_
      refine e_then (e_call hT (y := 352) (pc := 83) (q := (yX12_findNight, cX12_findNight, 6, (some .int), 12)) rfl (show aTab 352 83 = some (.invokevirtual 392, 3, 1, 350, 0, 2, 5, 12) from rfl) rfl ⟨by decide, Nat.le_of_ble_eq_true rfl⟩ hfs (Nat.le_of_ble_eq_true rfl) (Nat.le_of_ble_eq_true rfl) ⟨by decide, by decide⟩ rp2) ?_
      refine e_then (e_icT hT (y := 352) (pc := 86) (q := (yX12_findNight, cX12_findNight, 6, (some .int), 12)) rfl (show aTab 352 86 = some (.if_icmp .ne 23, 3, 0, 0, 0, 0, 0, 0) from rfl) rfl (t := 109) rfl (cdT (by show ¬ _ = _; exact fun h => c6 (Int32.toInt_inj.mp h)))) ?_
      refine e_then (e_st hT (y := 352) (pc := 109) (q := (yX12_findNight, cX12_findNight, 6, (some .int), 12)) rfl (show aTab 352 109 = some (.iconst 0, 1, 0, 0, 0, 0, 0, 0) from rfl) (fr' := (352, 110, lv, [.int 0])) (M' := M) rfl) ?_
      refine e_then (e_is2 hT (y := 352) (pc := 110) (q := (yX12_findNight, cX12_findNight, 6, (some .int), 12)) rfl (show aTab 352 110 = some (.istore 5, 2, 0, 0, 0, 0, 0, 0) from rfl) ⟨rfl, by decide⟩) ?_
      refine e_then (e_il2 hT (y := 352) (pc := 112) (q := (yX12_findNight, cX12_findNight, 6, (some .int), 12)) rfl (show aTab 352 112 = some (.iload 5, 2, 0, 0, 0, 0, 0, 0) from rfl) rfl (mlg_eq 5 _ _)) ?_
      refine e_then (e_ifT hT (y := 352) (pc := 114) (q := (yX12_findNight, cX12_findNight, 6, (some .int), 12)) rfl (show aTab 352 114 = some (.ifCond .eq 8, 3, 0, 0, 0, 0, 0, 0) from rfl) rfl (t := 122) rfl (cdT (by show (0 : Int32).toInt = 0; rfl))) ?_
      refine e_then (e_il1 hT (y := 352) (pc := 122) (q := (yX12_findNight, cX12_findNight, 6, (some .int), 12)) rfl (show aTab 352 122 = some (.iload_n 3, 1, 0, 0, 0, 0, 0, 0) from rfl) rfl (mlg_i h3 (by decide))) ?_
      refine e_then (e_is1 hT (y := 352) (pc := 123) (q := (yX12_findNight, cX12_findNight, 6, (some .int), 12)) rfl (show aTab 352 123 = some (.istore_n 3, 1, 0, 0, 0, 0, 0, 0) from rfl) ⟨rfl, by decide⟩) ?_
      refine e_then (e_ii hT (y := 352) (pc := 124) (q := (yX12_findNight, cX12_findNight, 6, (some .int), 12)) rfl (show aTab 352 124 = some (.iinc 4 1, 3, 0, 0, 0, 0, 0, 0) from rfl) ⟨rfl, by decide⟩ (mlg_i (mlg_i h4 (by decide)) (by decide))) ?_
      refine e_then (e_st hT (y := 352) (pc := 127) (q := (yX12_findNight, cX12_findNight, 6, (some .int), 12)) rfl (show aTab 352 127 = some (.goto (-122), 3, 0, 0, 0, 0, 0, 0) from rfl) (fr' := (352, 5, (mlp 4 (.int (s + Int32.ofInt 1)) (mlp 3 (.int b) (mlp 5 (.int 0) lv))), [])) (M' := M) rfl) ?_
      rw [show s + Int32.ofInt 1 = Int32.ofNat (t + 1 + 1) by rw [hs]; exact os1 (by omega)]
      exact ih (t + 1) _ (by omega) (mlg_r (mlg_r (mlg_r h0 (by decide)) (by decide)) (by decide)) (mlg_i (mlg_i (mlg_i h1 (by decide)) (by decide)) (by decide)) (mlg_i (mlg_i (mlg_i h2' (by decide)) (by decide)) (by decide)) (by rw [cs, ← hb]; exact (mlg_i (mlg_eq 3 _ _) (by decide))) (mlg_eq 4 _ _)
theorem rfn_run (hT : aTabOk) {M : mHe} (hM : yTy M) {S : Nat} (hS : S ≤ 8) (hz : ∀ xs : tXs, yRd xs M 120 10 = some (.int (Int32.ofNat S))) {v m p a : Nat → Int32} (hv : ntRows M 120 3760 4 v) (hm : ntRows M 120 3761 4 m) (hp : ntRows M 120 3762 4 p) (ha : ntRows M 120 3763 4 a) {n mm : Int32} : mEv none 70 (352, 0, lv_args 0 [.ref 128, .int n, .int mm], []) M (fun r M' => r = some (.int (ntF v m p a S n mm (2 ^ S - 1))) ∧ M' = M) := by
  have hpb := ntP_b hS
  refine e_then (e_st hT (y := 352) (pc := 0) (q := (yX12_findNight, cX12_findNight, 6, (some .int), 12)) rfl (show aTab 352 0 = some (.iconst (-1), 1, 0, 0, 0, 0, 0, 0) from rfl) (fr' := (352, 1, (lv_args 0 [.ref 128, .int n, .int mm]), [.int (-1)])) (M' := M) rfl) ?_
  refine e_then (e_is1 hT (y := 352) (pc := 1) (q := (yX12_findNight, cX12_findNight, 6, (some .int), 12)) rfl (show aTab 352 1 = some (.istore_n 3, 1, 0, 0, 0, 0, 0, 0) from rfl) ⟨rfl, by decide⟩) ?_
  refine e_then (e_st hT (y := 352) (pc := 2) (q := (yX12_findNight, cX12_findNight, 6, (some .int), 12)) rfl (show aTab 352 2 = some (.iconst 1, 1, 0, 0, 0, 0, 0, 0) from rfl) (fr' := (352, 3, (mlp 3 (.int (-1)) (lv_args 0 [.ref 128, .int n, .int mm])), [.int 1])) (M' := M) rfl) ?_
  refine e_then (e_is2 hT (y := 352) (pc := 3) (q := (yX12_findNight, cX12_findNight, 6, (some .int), 12)) rfl (show aTab 352 3 = some (.istore 4, 2, 0, 0, 0, 0, 0, 0) from rfl) ⟨rfl, by decide⟩) ?_
  exact rfn_loop hT hM hS hz hv hm hp ha (2 ^ S - 1) 0 _ (by omega) (mlg_r (mlg_r rfl (by decide)) (by decide)) (mlg_i (mlg_i rfl (by decide)) (by decide)) (mlg_i (mlg_i rfl (by decide)) (by decide)) (mlg_i (mlg_eq 3 _ _) (by decide)) (mlg_eq 4 _ _)
section NEST
variable {sc : Option (Nat × (Nat → Int32))} {d y pc : Nat} {lv : List (Nat × Value)} {st : List Value} {M M' : mHe} {q : mMd}
/-- a static call out of a nest -/
theorem e_callsN {idx y' np mx oc N1 : Nat} {v : Int} {res : Option Value} (hT : aTabOk) (hq : mjM y = some q) (he : aTab y pc = some (.invokestatic idx, 3, 3, y', v, np, mx, oc)) (h9 : np ≤ st.length) (hcat : mCat (st.drop np) ≤ 8) (hsl : mCat (st.take np).reverse ≤ mx) (hmx : mx ≤ 100 ∧ oc ≠ 13)
    (hc : mRun none N1 d (y', 0, lv_args 0 (st.take np).reverse, []) M = some (res, M')) : mTo sc (d + 1) (y, pc, lv, st) M (y, pc + 3, lv, res.toList ++ st.drop np) M' := by
  obtain ⟨h1, h2⟩ := e_eq (sc := sc) (d := d + 1) (lv := lv) (st := st) (M := M) hT hq he
  obtain ⟨o1, o2, hR, hC⟩ := aChk_R (k := idx) rfl h2 (by simp)
  obtain ⟨hnp, q2, hq1, hq2, hq3⟩ := hC (by show 1 ≤ 3; omega) (by show 3 ≤ 5; omega)
  have hnp : mNp y' = some np := hnp
  have hq1 : mjM y' = some q2 := hq1
  have hq2 : q2.2.2.1 = mx := hq2
  have hq3 : q2.2.2.2.2 = oc := hq3
  refine mTo_call (y := y') (vs := (st.take np).reverse) (fr' := (y, pc + 3, lv, st.drop np)) ?_ hc
  rw [h1]
  refine mOr_r (fun s hs => by have := mG1 hs; cases this) (mOr_r (fun s hs => by have := mG2 hs; cases this) (mOr_r (fun s hs => by have := mG3 hs; cases this) (mOr_r (fun s hs => by have := mG4 hs; cases this) (mOr_r (fun s hs => by have := mG5 hs; cases this) (mOr_l ?_)))))
  simp only [mOp6, if_true, hR, hnp]
  rw [if_pos h9]
  unfold mCall
  rw [hq1]
  simp only
  rw [if_pos ⟨hcat, by rw [lg_sl_cat, hq2]; exact hsl, by rw [hq2]; exact hmx.1, by rw [hq3]; exact hmx.2⟩]
end NEST
/-! HAND: what lies within, on both sides -/
theorem within_run (hT : aTabOk) {M : mHe} {v l h : Int32} : mEv none 5 (234, 0, lv_args 0 [.int v, .int l, .int h], []) M (fun r M' => r = some (.int (gB (decide (l.toInt ≤ v.toInt ∧ v.toInt ≤ h.toInt)))) ∧ M' = M) := by
  by_cases c1 : v.toInt < l.toInt
  · have e := decide_eq_false (fun z : l.toInt ≤ v.toInt ∧ v.toInt ≤ h.toInt => by omega)
    rw [e]
    refine e_then (e_il1 hT (y := 234) (pc := 0) (q := (yX11_within, cX11_within, 3, (some .boolean), 11)) rfl (show aTab 234 0 = some (.iload_n 0, 1, 0, 0, 0, 0, 0, 0) from rfl) rfl rfl) ?_
    refine e_then (e_il1 hT (y := 234) (pc := 1) (q := (yX11_within, cX11_within, 3, (some .boolean), 11)) rfl (show aTab 234 1 = some (.iload_n 1, 1, 0, 0, 0, 0, 0, 0) from rfl) rfl rfl) ?_
    refine e_then (e_icT hT (y := 234) (pc := 2) (q := (yX11_within, cX11_within, 3, (some .boolean), 11)) rfl (show aTab 234 2 = some (.if_icmp .lt 12, 3, 0, 0, 0, 0, 0, 0) from rfl) rfl (t := 14) rfl (cdT (by show _ < _; exact c1))) ?_
    refine e_then (e_st hT (y := 234) (pc := 14) (q := (yX11_within, cX11_within, 3, (some .boolean), 11)) rfl (show aTab 234 14 = some (.iconst 0, 1, 0, 0, 0, 0, 0, 0) from rfl) (fr' := (234, 15, (lv_args 0 [.int v, .int l, .int h]), [.int 0])) (M' := M) rfl) ?_
    exact e_fin (e_zret hT (y := 234) (pc := 15) (q := (yX11_within, cX11_within, 3, (some .boolean), 11)) rfl (show aTab 234 15 = some (.ireturn, 1, 0, 0, 0, 0, 0, 0) from rfl) ⟨rfl, rfl⟩ (Or.inl rfl)) ⟨rfl, rfl⟩
  by_cases c2 : h.toInt < v.toInt
  · have e := decide_eq_false (fun z : l.toInt ≤ v.toInt ∧ v.toInt ≤ h.toInt => by omega)
    rw [e]
    refine e_then (e_il1 hT (y := 234) (pc := 0) (q := (yX11_within, cX11_within, 3, (some .boolean), 11)) rfl (show aTab 234 0 = some (.iload_n 0, 1, 0, 0, 0, 0, 0, 0) from rfl) rfl rfl) ?_
    refine e_then (e_il1 hT (y := 234) (pc := 1) (q := (yX11_within, cX11_within, 3, (some .boolean), 11)) rfl (show aTab 234 1 = some (.iload_n 1, 1, 0, 0, 0, 0, 0, 0) from rfl) rfl rfl) ?_
    refine e_then (e_icF hT (y := 234) (pc := 2) (q := (yX11_within, cX11_within, 3, (some .boolean), 11)) rfl (show aTab 234 2 = some (.if_icmp .lt 12, 3, 0, 0, 0, 0, 0, 0) from rfl) rfl (t := 14) rfl (cdF (by show ¬ _ < _; exact c1))) ?_
    refine e_then (e_il1 hT (y := 234) (pc := 5) (q := (yX11_within, cX11_within, 3, (some .boolean), 11)) rfl (show aTab 234 5 = some (.iload_n 0, 1, 0, 0, 0, 0, 0, 0) from rfl) rfl rfl) ?_
    refine e_then (e_il1 hT (y := 234) (pc := 6) (q := (yX11_within, cX11_within, 3, (some .boolean), 11)) rfl (show aTab 234 6 = some (.iload_n 2, 1, 0, 0, 0, 0, 0, 0) from rfl) rfl rfl) ?_
    refine e_then (e_icT hT (y := 234) (pc := 7) (q := (yX11_within, cX11_within, 3, (some .boolean), 11)) rfl (show aTab 234 7 = some (.if_icmp .gt 7, 3, 0, 0, 0, 0, 0, 0) from rfl) rfl (t := 14) rfl (cdT (by show _ < _; exact c2))) ?_
    refine e_then (e_st hT (y := 234) (pc := 14) (q := (yX11_within, cX11_within, 3, (some .boolean), 11)) rfl (show aTab 234 14 = some (.iconst 0, 1, 0, 0, 0, 0, 0, 0) from rfl) (fr' := (234, 15, (lv_args 0 [.int v, .int l, .int h]), [.int 0])) (M' := M) rfl) ?_
    exact e_fin (e_zret hT (y := 234) (pc := 15) (q := (yX11_within, cX11_within, 3, (some .boolean), 11)) rfl (show aTab 234 15 = some (.ireturn, 1, 0, 0, 0, 0, 0, 0) from rfl) ⟨rfl, rfl⟩ (Or.inl rfl)) ⟨rfl, rfl⟩
  · have e := decide_eq_true (show l.toInt ≤ v.toInt ∧ v.toInt ≤ h.toInt by omega)
    rw [e]
    refine e_then (e_il1 hT (y := 234) (pc := 0) (q := (yX11_within, cX11_within, 3, (some .boolean), 11)) rfl (show aTab 234 0 = some (.iload_n 0, 1, 0, 0, 0, 0, 0, 0) from rfl) rfl rfl) ?_
    refine e_then (e_il1 hT (y := 234) (pc := 1) (q := (yX11_within, cX11_within, 3, (some .boolean), 11)) rfl (show aTab 234 1 = some (.iload_n 1, 1, 0, 0, 0, 0, 0, 0) from rfl) rfl rfl) ?_
    refine e_then (e_icF hT (y := 234) (pc := 2) (q := (yX11_within, cX11_within, 3, (some .boolean), 11)) rfl (show aTab 234 2 = some (.if_icmp .lt 12, 3, 0, 0, 0, 0, 0, 0) from rfl) rfl (t := 14) rfl (cdF (by show ¬ _ < _; exact c1))) ?_
    refine e_then (e_il1 hT (y := 234) (pc := 5) (q := (yX11_within, cX11_within, 3, (some .boolean), 11)) rfl (show aTab 234 5 = some (.iload_n 0, 1, 0, 0, 0, 0, 0, 0) from rfl) rfl rfl) ?_
    refine e_then (e_il1 hT (y := 234) (pc := 6) (q := (yX11_within, cX11_within, 3, (some .boolean), 11)) rfl (show aTab 234 6 = some (.iload_n 2, 1, 0, 0, 0, 0, 0, 0) from rfl) rfl rfl) ?_
    refine e_then (e_icF hT (y := 234) (pc := 7) (q := (yX11_within, cX11_within, 3, (some .boolean), 11)) rfl (show aTab 234 7 = some (.if_icmp .gt 7, 3, 0, 0, 0, 0, 0, 0) from rfl) rfl (t := 14) rfl (cdF (by show ¬ _ < _; exact c2))) ?_
    refine e_then (e_st hT (y := 234) (pc := 10) (q := (yX11_within, cX11_within, 3, (some .boolean), 11)) rfl (show aTab 234 10 = some (.iconst 1, 1, 0, 0, 0, 0, 0, 0) from rfl) (fr' := (234, 11, (lv_args 0 [.int v, .int l, .int h]), [.int 1])) (M' := M) rfl) ?_
    refine e_then (e_st hT (y := 234) (pc := 11) (q := (yX11_within, cX11_within, 3, (some .boolean), 11)) rfl (show aTab 234 11 = some (.goto 4, 3, 0, 0, 0, 0, 0, 0) from rfl) (fr' := (234, 15, (lv_args 0 [.int v, .int l, .int h]), [.int 1])) (M' := M) rfl) ?_
    exact e_fin (e_zret hT (y := 234) (pc := 15) (q := (yX11_within, cX11_within, 3, (some .boolean), 11)) rfl (show aTab 234 15 = some (.ireturn, 1, 0, 0, 0, 0, 0, 0) from rfl) ⟨rfl, rfl⟩ (Or.inr rfl)) ⟨rfl, rfl⟩
theorem lcmp_lt0 {a b : Int64} : mCd .lt (lg_cmp a b) 0 = decide (a.toInt < b.toInt) := by
  have h := lg_cmp_sg a b
  obtain ⟨h1, h2⟩ := h
  have e0 : (0 : Int32).toInt = 0 := rfl
  by_cases hc : a.toInt < b.toInt
  · rw [decide_eq_true hc]
    exact cdT (by rw [e0]; show _ < (0 : Int); omega)
  · rw [decide_eq_false hc]
    exact cdF (by rw [e0]; show ¬ _ < (0 : Int); omega)
theorem lcmp_gt0 {a b : Int64} : mCd .gt (lg_cmp a b) 0 = decide (b.toInt < a.toInt) := by
  have h := lg_cmp_sg a b
  obtain ⟨h1, h2⟩ := h
  have e0 : (0 : Int32).toInt = 0 := rfl
  by_cases hc : b.toInt < a.toInt
  · rw [decide_eq_true hc]
    exact cdT (by rw [e0]; show (0 : Int) < _; omega)
  · rw [decide_eq_false hc]
    exact cdF (by rw [e0]; show ¬ (0 : Int) < _; omega)
theorem isIn_run (hT : aTabOk) {M : mHe} {v l h : Int64} : mEv none 5 (239, 0, lv_args 0 [.long v, .long l, .long h], []) M (fun r M' => r = some (.int (gB (decide (l.toInt ≤ v.toInt ∧ v.toInt ≤ h.toInt)))) ∧ M' = M) := by
  by_cases c1 : v.toInt < l.toInt
  · have e := decide_eq_false (fun z : l.toInt ≤ v.toInt ∧ v.toInt ≤ h.toInt => by omega)
    rw [e]
    refine e_then (e_st hT (y := 239) (pc := 0) (q := (yX12_isIn, cX12_isIn, 6, (some .boolean), 12)) rfl (show aTab 239 0 = some (.lload_n 0, 1, 0, 0, 0, 0, 0, 0) from rfl) (fr' := (239, 1, (lv_args 0 [.long v, .long l, .long h]), [.long v])) (M' := M) rfl) ?_
    refine e_then (e_st hT (y := 239) (pc := 1) (q := (yX12_isIn, cX12_isIn, 6, (some .boolean), 12)) rfl (show aTab 239 1 = some (.lload_n 2, 1, 0, 0, 0, 0, 0, 0) from rfl) (fr' := (239, 2, (lv_args 0 [.long v, .long l, .long h]), [.long l, .long v])) (M' := M) rfl) ?_
    refine e_then (e_st hT (y := 239) (pc := 2) (q := (yX12_isIn, cX12_isIn, 6, (some .boolean), 12)) rfl (show aTab 239 2 = some (.lcmp, 1, 0, 0, 0, 0, 0, 0) from rfl) (fr' := (239, 3, (lv_args 0 [.long v, .long l, .long h]), [.int (lg_cmp (v) (l))])) (M' := M) rfl) ?_
    refine e_then (e_ifT hT (y := 239) (pc := 3) (q := (yX12_isIn, cX12_isIn, 6, (some .boolean), 12)) rfl (show aTab 239 3 = some (.ifCond .lt 14, 3, 0, 0, 0, 0, 0, 0) from rfl) rfl (t := 17) rfl (by rw [lcmp_lt0]; exact decide_eq_true c1)) ?_
    refine e_then (e_st hT (y := 239) (pc := 17) (q := (yX12_isIn, cX12_isIn, 6, (some .boolean), 12)) rfl (show aTab 239 17 = some (.iconst 0, 1, 0, 0, 0, 0, 0, 0) from rfl) (fr' := (239, 18, (lv_args 0 [.long v, .long l, .long h]), [.int 0])) (M' := M) rfl) ?_
    exact e_fin (e_zret hT (y := 239) (pc := 18) (q := (yX12_isIn, cX12_isIn, 6, (some .boolean), 12)) rfl (show aTab 239 18 = some (.ireturn, 1, 0, 0, 0, 0, 0, 0) from rfl) ⟨rfl, rfl⟩ (Or.inl rfl)) ⟨rfl, rfl⟩
  by_cases c2 : h.toInt < v.toInt
  · have e := decide_eq_false (fun z : l.toInt ≤ v.toInt ∧ v.toInt ≤ h.toInt => by omega)
    rw [e]
    refine e_then (e_st hT (y := 239) (pc := 0) (q := (yX12_isIn, cX12_isIn, 6, (some .boolean), 12)) rfl (show aTab 239 0 = some (.lload_n 0, 1, 0, 0, 0, 0, 0, 0) from rfl) (fr' := (239, 1, (lv_args 0 [.long v, .long l, .long h]), [.long v])) (M' := M) rfl) ?_
    refine e_then (e_st hT (y := 239) (pc := 1) (q := (yX12_isIn, cX12_isIn, 6, (some .boolean), 12)) rfl (show aTab 239 1 = some (.lload_n 2, 1, 0, 0, 0, 0, 0, 0) from rfl) (fr' := (239, 2, (lv_args 0 [.long v, .long l, .long h]), [.long l, .long v])) (M' := M) rfl) ?_
    refine e_then (e_st hT (y := 239) (pc := 2) (q := (yX12_isIn, cX12_isIn, 6, (some .boolean), 12)) rfl (show aTab 239 2 = some (.lcmp, 1, 0, 0, 0, 0, 0, 0) from rfl) (fr' := (239, 3, (lv_args 0 [.long v, .long l, .long h]), [.int (lg_cmp (v) (l))])) (M' := M) rfl) ?_
    refine e_then (e_ifF hT (y := 239) (pc := 3) (q := (yX12_isIn, cX12_isIn, 6, (some .boolean), 12)) rfl (show aTab 239 3 = some (.ifCond .lt 14, 3, 0, 0, 0, 0, 0, 0) from rfl) rfl (t := 17) rfl (by rw [lcmp_lt0]; exact decide_eq_false c1)) ?_
    refine e_then (e_st hT (y := 239) (pc := 6) (q := (yX12_isIn, cX12_isIn, 6, (some .boolean), 12)) rfl (show aTab 239 6 = some (.lload_n 0, 1, 0, 0, 0, 0, 0, 0) from rfl) (fr' := (239, 7, (lv_args 0 [.long v, .long l, .long h]), [.long v])) (M' := M) rfl) ?_
    refine e_then (e_st hT (y := 239) (pc := 7) (q := (yX12_isIn, cX12_isIn, 6, (some .boolean), 12)) rfl (show aTab 239 7 = some (.lload 4, 2, 0, 0, 0, 0, 0, 0) from rfl) (fr' := (239, 9, (lv_args 0 [.long v, .long l, .long h]), [.long h, .long v])) (M' := M) rfl) ?_
    refine e_then (e_st hT (y := 239) (pc := 9) (q := (yX12_isIn, cX12_isIn, 6, (some .boolean), 12)) rfl (show aTab 239 9 = some (.lcmp, 1, 0, 0, 0, 0, 0, 0) from rfl) (fr' := (239, 10, (lv_args 0 [.long v, .long l, .long h]), [.int (lg_cmp (v) (h))])) (M' := M) rfl) ?_
    refine e_then (e_ifT hT (y := 239) (pc := 10) (q := (yX12_isIn, cX12_isIn, 6, (some .boolean), 12)) rfl (show aTab 239 10 = some (.ifCond .gt 7, 3, 0, 0, 0, 0, 0, 0) from rfl) rfl (t := 17) rfl (by rw [lcmp_gt0]; exact decide_eq_true c2)) ?_
    refine e_then (e_st hT (y := 239) (pc := 17) (q := (yX12_isIn, cX12_isIn, 6, (some .boolean), 12)) rfl (show aTab 239 17 = some (.iconst 0, 1, 0, 0, 0, 0, 0, 0) from rfl) (fr' := (239, 18, (lv_args 0 [.long v, .long l, .long h]), [.int 0])) (M' := M) rfl) ?_
    exact e_fin (e_zret hT (y := 239) (pc := 18) (q := (yX12_isIn, cX12_isIn, 6, (some .boolean), 12)) rfl (show aTab 239 18 = some (.ireturn, 1, 0, 0, 0, 0, 0, 0) from rfl) ⟨rfl, rfl⟩ (Or.inl rfl)) ⟨rfl, rfl⟩
  · have e := decide_eq_true (show l.toInt ≤ v.toInt ∧ v.toInt ≤ h.toInt by omega)
    rw [e]
    refine e_then (e_st hT (y := 239) (pc := 0) (q := (yX12_isIn, cX12_isIn, 6, (some .boolean), 12)) rfl (show aTab 239 0 = some (.lload_n 0, 1, 0, 0, 0, 0, 0, 0) from rfl) (fr' := (239, 1, (lv_args 0 [.long v, .long l, .long h]), [.long v])) (M' := M) rfl) ?_
    refine e_then (e_st hT (y := 239) (pc := 1) (q := (yX12_isIn, cX12_isIn, 6, (some .boolean), 12)) rfl (show aTab 239 1 = some (.lload_n 2, 1, 0, 0, 0, 0, 0, 0) from rfl) (fr' := (239, 2, (lv_args 0 [.long v, .long l, .long h]), [.long l, .long v])) (M' := M) rfl) ?_
    refine e_then (e_st hT (y := 239) (pc := 2) (q := (yX12_isIn, cX12_isIn, 6, (some .boolean), 12)) rfl (show aTab 239 2 = some (.lcmp, 1, 0, 0, 0, 0, 0, 0) from rfl) (fr' := (239, 3, (lv_args 0 [.long v, .long l, .long h]), [.int (lg_cmp (v) (l))])) (M' := M) rfl) ?_
    refine e_then (e_ifF hT (y := 239) (pc := 3) (q := (yX12_isIn, cX12_isIn, 6, (some .boolean), 12)) rfl (show aTab 239 3 = some (.ifCond .lt 14, 3, 0, 0, 0, 0, 0, 0) from rfl) rfl (t := 17) rfl (by rw [lcmp_lt0]; exact decide_eq_false c1)) ?_
    refine e_then (e_st hT (y := 239) (pc := 6) (q := (yX12_isIn, cX12_isIn, 6, (some .boolean), 12)) rfl (show aTab 239 6 = some (.lload_n 0, 1, 0, 0, 0, 0, 0, 0) from rfl) (fr' := (239, 7, (lv_args 0 [.long v, .long l, .long h]), [.long v])) (M' := M) rfl) ?_
    refine e_then (e_st hT (y := 239) (pc := 7) (q := (yX12_isIn, cX12_isIn, 6, (some .boolean), 12)) rfl (show aTab 239 7 = some (.lload 4, 2, 0, 0, 0, 0, 0, 0) from rfl) (fr' := (239, 9, (lv_args 0 [.long v, .long l, .long h]), [.long h, .long v])) (M' := M) rfl) ?_
    refine e_then (e_st hT (y := 239) (pc := 9) (q := (yX12_isIn, cX12_isIn, 6, (some .boolean), 12)) rfl (show aTab 239 9 = some (.lcmp, 1, 0, 0, 0, 0, 0, 0) from rfl) (fr' := (239, 10, (lv_args 0 [.long v, .long l, .long h]), [.int (lg_cmp (v) (h))])) (M' := M) rfl) ?_
    refine e_then (e_ifF hT (y := 239) (pc := 10) (q := (yX12_isIn, cX12_isIn, 6, (some .boolean), 12)) rfl (show aTab 239 10 = some (.ifCond .gt 7, 3, 0, 0, 0, 0, 0, 0) from rfl) rfl (t := 17) rfl (by rw [lcmp_gt0]; exact decide_eq_false c2)) ?_
    refine e_then (e_st hT (y := 239) (pc := 13) (q := (yX12_isIn, cX12_isIn, 6, (some .boolean), 12)) rfl (show aTab 239 13 = some (.iconst 1, 1, 0, 0, 0, 0, 0, 0) from rfl) (fr' := (239, 14, (lv_args 0 [.long v, .long l, .long h]), [.int 1])) (M' := M) rfl) ?_
    refine e_then (e_st hT (y := 239) (pc := 14) (q := (yX12_isIn, cX12_isIn, 6, (some .boolean), 12)) rfl (show aTab 239 14 = some (.goto 4, 3, 0, 0, 0, 0, 0, 0) from rfl) (fr' := (239, 18, (lv_args 0 [.long v, .long l, .long h]), [.int 1])) (M' := M) rfl) ?_
    exact e_fin (e_zret hT (y := 239) (pc := 18) (q := (yX12_isIn, cX12_isIn, 6, (some .boolean), 12)) rfl (show aTab 239 18 = some (.ireturn, 1, 0, 0, 0, 0, 0, 0) from rfl) ⟨rfl, rfl⟩ (Or.inr rfl)) ⟨rfl, rfl⟩
/-- the same for an int -/
theorem isIn_i (hT : aTabOk) {M : mHe} {v : Int32} {l h : Int64} {d : Nat} (hd : 5 ≤ d) : ∃ K, mRun none K d (239, 0, lv_args 0 [.long v.toInt64, .long l, .long h], []) M = some (some (.int (gB (decide (l.toInt ≤ v.toInt ∧ v.toInt ≤ h.toInt)))), M) := by
  obtain ⟨K, r, M', q1, rfl, rfl⟩ := isIn_run hT (M := M) (v := v.toInt64) (l := l) (h := h)
  rw [Int32.toInt_toInt64] at q1
  exact ⟨K, mRun_dm q1 hd⟩
theorem within_i (hT : aTabOk) {M : mHe} {v l h : Int32} {d : Nat} (hd : 5 ≤ d) : ∃ K, mRun none K d (234, 0, lv_args 0 [.int v, .int l, .int h], []) M = some (some (.int (gB (decide (l.toInt ≤ v.toInt ∧ v.toInt ≤ h.toInt)))), M) := by
  obtain ⟨K, r, M', q1, rfl, rfl⟩ := within_run hT (M := M) (v := v) (l := l) (h := h)
  exact ⟨K, mRun_dm q1 hd⟩
theorem gB_t {p : Prop} {_ : Decidable p} (h : p) : gB (decide p) = 1 := by rw [decide_eq_true h]; rfl
theorem gB_f {p : Prop} {_ : Decidable p} (h : ¬ p) : gB (decide p) = 0 := by rw [decide_eq_false h]; rfl
/-! HAND: night there -/
theorem isNight_run (hT : aTabOk) {M : mHe} {n m : Int32} : mEv none 10 (353, 0, lv_args 0 [.int n, .int m], []) M (fun r M' => r = some (.int (gB (decide ((1 ≤ n.toInt ∧ n.toInt ≤ 99) ∧ (1 ≤ m.toInt ∧ m.toInt ≤ 999))))) ∧ M' = M) := by
  obtain ⟨K1, q1⟩ := isIn_i hT (M := M) (v := n) (l := Int64.ofNat 1) (h := Int64.ofInt 99) (d := 9) (by decide)
  obtain ⟨K2, q2⟩ := isIn_i hT (M := M) (v := m) (l := Int64.ofNat 1) (h := Int64.ofInt 999) (d := 9) (by decide)
  rw [show (Int64.ofNat 1).toInt = 1 from rfl, show (Int64.ofInt 99).toInt = 99 from rfl] at q1
  rw [show (Int64.ofNat 1).toInt = 1 from rfl, show (Int64.ofInt 999).toInt = 999 from rfl] at q2
  by_cases c1 : 1 ≤ n.toInt ∧ n.toInt ≤ 99
  · rw [gB_t c1] at q1
    by_cases c2 : 1 ≤ m.toInt ∧ m.toInt ≤ 999
    · rw [gB_t c2] at q2
      rw [gB_t (show (1 ≤ n.toInt ∧ n.toInt ≤ 99) ∧ (1 ≤ m.toInt ∧ m.toInt ≤ 999) from ⟨c1, c2⟩)]
      refine e_then (e_il1 hT (y := 353) (pc := 0) (q := (yX12_isNight, cX12_isNight, 2, (some .boolean), 12)) rfl (show aTab 353 0 = some (.iload_n 0, 1, 0, 0, 0, 0, 0, 0) from rfl) rfl rfl) ?_
      refine e_then (e_st hT (y := 353) (pc := 1) (q := (yX12_isNight, cX12_isNight, 2, (some .boolean), 12)) rfl (show aTab 353 1 = some (.i2l, 1, 0, 0, 0, 0, 0, 0) from rfl) (fr' := (353, 2, (lv_args 0 [.int n, .int m]), [.long (n).toInt64])) (M' := M) rfl) ?_
      refine e_then (e_st hT (y := 353) (pc := 2) (q := (yX12_isNight, cX12_isNight, 2, (some .boolean), 12)) rfl (show aTab 353 2 = some (.lconst 1, 1, 0, 0, 0, 0, 0, 0) from rfl) (fr' := (353, 3, (lv_args 0 [.int n, .int m]), [.long (Int64.ofNat 1), .long (n).toInt64])) (M' := M) rfl) ?_
      refine e_then (e_st hT (y := 353) (pc := 3) (q := (yX12_isNight, cX12_isNight, 2, (some .boolean), 12)) rfl (show aTab 353 3 = some (.ldc2_w 160, 3, 8, 0, 99, 0, 0, 0) from rfl) (fr' := (353, 6, (lv_args 0 [.int n, .int m]), [.long (Int64.ofInt 99), .long (Int64.ofNat 1), .long (n).toInt64])) (M' := M) rfl) ?_
      refine e_then (e_calls hT (y := 353) (pc := 6) (q := (yX12_isNight, cX12_isNight, 2, (some .boolean), 12)) rfl (show aTab 353 6 = some (.invokestatic 65, 3, 2, 239, 0, 3, 6, 12) from rfl) (Nat.le_of_ble_eq_true rfl) (Nat.le_of_ble_eq_true rfl) (Nat.le_of_ble_eq_true rfl) ⟨by decide, by decide⟩ q1) ?_
      refine e_then (e_ifF hT (y := 353) (pc := 9) (q := (yX12_isNight, cX12_isNight, 2, (some .boolean), 12)) rfl (show aTab 353 9 = some (.ifCond .eq 19, 3, 0, 0, 0, 0, 0, 0) from rfl) rfl (t := 28) rfl (cdF (by show ¬ (1 : Int32).toInt = 0; decide))) ?_
      refine e_then (e_il1 hT (y := 353) (pc := 12) (q := (yX12_isNight, cX12_isNight, 2, (some .boolean), 12)) rfl (show aTab 353 12 = some (.iload_n 1, 1, 0, 0, 0, 0, 0, 0) from rfl) rfl rfl) ?_
      refine e_then (e_st hT (y := 353) (pc := 13) (q := (yX12_isNight, cX12_isNight, 2, (some .boolean), 12)) rfl (show aTab 353 13 = some (.i2l, 1, 0, 0, 0, 0, 0, 0) from rfl) (fr' := (353, 14, (lv_args 0 [.int n, .int m]), [.long (m).toInt64])) (M' := M) rfl) ?_
      refine e_then (e_st hT (y := 353) (pc := 14) (q := (yX12_isNight, cX12_isNight, 2, (some .boolean), 12)) rfl (show aTab 353 14 = some (.lconst 1, 1, 0, 0, 0, 0, 0, 0) from rfl) (fr' := (353, 15, (lv_args 0 [.int n, .int m]), [.long (Int64.ofNat 1), .long (m).toInt64])) (M' := M) rfl) ?_
      refine e_then (e_st hT (y := 353) (pc := 15) (q := (yX12_isNight, cX12_isNight, 2, (some .boolean), 12)) rfl (show aTab 353 15 = some (.ldc2_w 390, 3, 8, 0, 999, 0, 0, 0) from rfl) (fr' := (353, 18, (lv_args 0 [.int n, .int m]), [.long (Int64.ofInt 999), .long (Int64.ofNat 1), .long (m).toInt64])) (M' := M) rfl) ?_
      refine e_then (e_calls hT (y := 353) (pc := 18) (q := (yX12_isNight, cX12_isNight, 2, (some .boolean), 12)) rfl (show aTab 353 18 = some (.invokestatic 65, 3, 2, 239, 0, 3, 6, 12) from rfl) (Nat.le_of_ble_eq_true rfl) (Nat.le_of_ble_eq_true rfl) (Nat.le_of_ble_eq_true rfl) ⟨by decide, by decide⟩ q2) ?_
      refine e_then (e_ifF hT (y := 353) (pc := 21) (q := (yX12_isNight, cX12_isNight, 2, (some .boolean), 12)) rfl (show aTab 353 21 = some (.ifCond .eq 7, 3, 0, 0, 0, 0, 0, 0) from rfl) rfl (t := 28) rfl (cdF (by show ¬ (1 : Int32).toInt = 0; decide))) ?_
      refine e_then (e_st hT (y := 353) (pc := 24) (q := (yX12_isNight, cX12_isNight, 2, (some .boolean), 12)) rfl (show aTab 353 24 = some (.iconst 1, 1, 0, 0, 0, 0, 0, 0) from rfl) (fr' := (353, 25, (lv_args 0 [.int n, .int m]), [.int 1])) (M' := M) rfl) ?_
      refine e_then (e_st hT (y := 353) (pc := 25) (q := (yX12_isNight, cX12_isNight, 2, (some .boolean), 12)) rfl (show aTab 353 25 = some (.goto 4, 3, 0, 0, 0, 0, 0, 0) from rfl) (fr' := (353, 29, (lv_args 0 [.int n, .int m]), [.int 1])) (M' := M) rfl) ?_
      exact e_fin (e_zret hT (y := 353) (pc := 29) (q := (yX12_isNight, cX12_isNight, 2, (some .boolean), 12)) rfl (show aTab 353 29 = some (.ireturn, 1, 0, 0, 0, 0, 0, 0) from rfl) ⟨rfl, rfl⟩ (Or.inr rfl)) ⟨rfl, rfl⟩
    · rw [gB_f c2] at q2
      rw [gB_f (fun z : (1 ≤ n.toInt ∧ n.toInt ≤ 99) ∧ (1 ≤ m.toInt ∧ m.toInt ≤ 999) => c2 z.2)]
      refine e_then (e_il1 hT (y := 353) (pc := 0) (q := (yX12_isNight, cX12_isNight, 2, (some .boolean), 12)) rfl (show aTab 353 0 = some (.iload_n 0, 1, 0, 0, 0, 0, 0, 0) from rfl) rfl rfl) ?_
      refine e_then (e_st hT (y := 353) (pc := 1) (q := (yX12_isNight, cX12_isNight, 2, (some .boolean), 12)) rfl (show aTab 353 1 = some (.i2l, 1, 0, 0, 0, 0, 0, 0) from rfl) (fr' := (353, 2, (lv_args 0 [.int n, .int m]), [.long (n).toInt64])) (M' := M) rfl) ?_
      refine e_then (e_st hT (y := 353) (pc := 2) (q := (yX12_isNight, cX12_isNight, 2, (some .boolean), 12)) rfl (show aTab 353 2 = some (.lconst 1, 1, 0, 0, 0, 0, 0, 0) from rfl) (fr' := (353, 3, (lv_args 0 [.int n, .int m]), [.long (Int64.ofNat 1), .long (n).toInt64])) (M' := M) rfl) ?_
      refine e_then (e_st hT (y := 353) (pc := 3) (q := (yX12_isNight, cX12_isNight, 2, (some .boolean), 12)) rfl (show aTab 353 3 = some (.ldc2_w 160, 3, 8, 0, 99, 0, 0, 0) from rfl) (fr' := (353, 6, (lv_args 0 [.int n, .int m]), [.long (Int64.ofInt 99), .long (Int64.ofNat 1), .long (n).toInt64])) (M' := M) rfl) ?_
      refine e_then (e_calls hT (y := 353) (pc := 6) (q := (yX12_isNight, cX12_isNight, 2, (some .boolean), 12)) rfl (show aTab 353 6 = some (.invokestatic 65, 3, 2, 239, 0, 3, 6, 12) from rfl) (Nat.le_of_ble_eq_true rfl) (Nat.le_of_ble_eq_true rfl) (Nat.le_of_ble_eq_true rfl) ⟨by decide, by decide⟩ q1) ?_
      refine e_then (e_ifF hT (y := 353) (pc := 9) (q := (yX12_isNight, cX12_isNight, 2, (some .boolean), 12)) rfl (show aTab 353 9 = some (.ifCond .eq 19, 3, 0, 0, 0, 0, 0, 0) from rfl) rfl (t := 28) rfl (cdF (by show ¬ (1 : Int32).toInt = 0; decide))) ?_
      refine e_then (e_il1 hT (y := 353) (pc := 12) (q := (yX12_isNight, cX12_isNight, 2, (some .boolean), 12)) rfl (show aTab 353 12 = some (.iload_n 1, 1, 0, 0, 0, 0, 0, 0) from rfl) rfl rfl) ?_
      refine e_then (e_st hT (y := 353) (pc := 13) (q := (yX12_isNight, cX12_isNight, 2, (some .boolean), 12)) rfl (show aTab 353 13 = some (.i2l, 1, 0, 0, 0, 0, 0, 0) from rfl) (fr' := (353, 14, (lv_args 0 [.int n, .int m]), [.long (m).toInt64])) (M' := M) rfl) ?_
      refine e_then (e_st hT (y := 353) (pc := 14) (q := (yX12_isNight, cX12_isNight, 2, (some .boolean), 12)) rfl (show aTab 353 14 = some (.lconst 1, 1, 0, 0, 0, 0, 0, 0) from rfl) (fr' := (353, 15, (lv_args 0 [.int n, .int m]), [.long (Int64.ofNat 1), .long (m).toInt64])) (M' := M) rfl) ?_
      refine e_then (e_st hT (y := 353) (pc := 15) (q := (yX12_isNight, cX12_isNight, 2, (some .boolean), 12)) rfl (show aTab 353 15 = some (.ldc2_w 390, 3, 8, 0, 999, 0, 0, 0) from rfl) (fr' := (353, 18, (lv_args 0 [.int n, .int m]), [.long (Int64.ofInt 999), .long (Int64.ofNat 1), .long (m).toInt64])) (M' := M) rfl) ?_
      refine e_then (e_calls hT (y := 353) (pc := 18) (q := (yX12_isNight, cX12_isNight, 2, (some .boolean), 12)) rfl (show aTab 353 18 = some (.invokestatic 65, 3, 2, 239, 0, 3, 6, 12) from rfl) (Nat.le_of_ble_eq_true rfl) (Nat.le_of_ble_eq_true rfl) (Nat.le_of_ble_eq_true rfl) ⟨by decide, by decide⟩ q2) ?_
      refine e_then (e_ifT hT (y := 353) (pc := 21) (q := (yX12_isNight, cX12_isNight, 2, (some .boolean), 12)) rfl (show aTab 353 21 = some (.ifCond .eq 7, 3, 0, 0, 0, 0, 0, 0) from rfl) rfl (t := 28) rfl (cdT (by show (0 : Int32).toInt = 0; rfl))) ?_
      refine e_then (e_st hT (y := 353) (pc := 28) (q := (yX12_isNight, cX12_isNight, 2, (some .boolean), 12)) rfl (show aTab 353 28 = some (.iconst 0, 1, 0, 0, 0, 0, 0, 0) from rfl) (fr' := (353, 29, (lv_args 0 [.int n, .int m]), [.int 0])) (M' := M) rfl) ?_
      exact e_fin (e_zret hT (y := 353) (pc := 29) (q := (yX12_isNight, cX12_isNight, 2, (some .boolean), 12)) rfl (show aTab 353 29 = some (.ireturn, 1, 0, 0, 0, 0, 0, 0) from rfl) ⟨rfl, rfl⟩ (Or.inl rfl)) ⟨rfl, rfl⟩
  · rw [gB_f c1] at q1
    rw [gB_f (fun z : (1 ≤ n.toInt ∧ n.toInt ≤ 99) ∧ (1 ≤ m.toInt ∧ m.toInt ≤ 999) => c1 z.1)]
    refine e_then (e_il1 hT (y := 353) (pc := 0) (q := (yX12_isNight, cX12_isNight, 2, (some .boolean), 12)) rfl (show aTab 353 0 = some (.iload_n 0, 1, 0, 0, 0, 0, 0, 0) from rfl) rfl rfl) ?_
    refine e_then (e_st hT (y := 353) (pc := 1) (q := (yX12_isNight, cX12_isNight, 2, (some .boolean), 12)) rfl (show aTab 353 1 = some (.i2l, 1, 0, 0, 0, 0, 0, 0) from rfl) (fr' := (353, 2, (lv_args 0 [.int n, .int m]), [.long (n).toInt64])) (M' := M) rfl) ?_
    refine e_then (e_st hT (y := 353) (pc := 2) (q := (yX12_isNight, cX12_isNight, 2, (some .boolean), 12)) rfl (show aTab 353 2 = some (.lconst 1, 1, 0, 0, 0, 0, 0, 0) from rfl) (fr' := (353, 3, (lv_args 0 [.int n, .int m]), [.long (Int64.ofNat 1), .long (n).toInt64])) (M' := M) rfl) ?_
    refine e_then (e_st hT (y := 353) (pc := 3) (q := (yX12_isNight, cX12_isNight, 2, (some .boolean), 12)) rfl (show aTab 353 3 = some (.ldc2_w 160, 3, 8, 0, 99, 0, 0, 0) from rfl) (fr' := (353, 6, (lv_args 0 [.int n, .int m]), [.long (Int64.ofInt 99), .long (Int64.ofNat 1), .long (n).toInt64])) (M' := M) rfl) ?_
    refine e_then (e_calls hT (y := 353) (pc := 6) (q := (yX12_isNight, cX12_isNight, 2, (some .boolean), 12)) rfl (show aTab 353 6 = some (.invokestatic 65, 3, 2, 239, 0, 3, 6, 12) from rfl) (Nat.le_of_ble_eq_true rfl) (Nat.le_of_ble_eq_true rfl) (Nat.le_of_ble_eq_true rfl) ⟨by decide, by decide⟩ q1) ?_
    refine e_then (e_ifT hT (y := 353) (pc := 9) (q := (yX12_isNight, cX12_isNight, 2, (some .boolean), 12)) rfl (show aTab 353 9 = some (.ifCond .eq 19, 3, 0, 0, 0, 0, 0, 0) from rfl) rfl (t := 28) rfl (cdT (by show (0 : Int32).toInt = 0; rfl))) ?_
    refine e_then (e_st hT (y := 353) (pc := 28) (q := (yX12_isNight, cX12_isNight, 2, (some .boolean), 12)) rfl (show aTab 353 28 = some (.iconst 0, 1, 0, 0, 0, 0, 0, 0) from rfl) (fr' := (353, 29, (lv_args 0 [.int n, .int m]), [.int 0])) (M' := M) rfl) ?_
    exact e_fin (e_zret hT (y := 353) (pc := 29) (q := (yX12_isNight, cX12_isNight, 2, (some .boolean), 12)) rfl (show aTab 353 29 = some (.ireturn, 1, 0, 0, 0, 0, 0, 0) from rfl) ⟨rfl, rfl⟩ (Or.inl rfl)) ⟨rfl, rfl⟩
section NTR
variable {v m p a : Nat → Int32} {S : Nat} {n mm : Int32}
theorem ntF_r : ∀ t : Nat, t < 1000 → ntF v m p a S n mm t = -1 ∨ (1 ≤ (ntF v m p a S n mm t).toInt ∧ (ntF v m p a S n mm t).toInt ≤ t) := by
  intro t
  induction t with
  | zero => exact fun _ => Or.inl rfl
  | succ t ih =>
    intro ht
    have h1 := ih (by omega)
    have hs : (Int32.ofNat (t + 1)).toInt = ((t + 1 : Nat) : Int) := i32n (by omega)
    by_cases h : ntS v (Int32.ofNat (t + 1)) S < n ∨ mm < ntS m (Int32.ofNat (t + 1)) S ∨ ntG a (Int32.ofNat (t + 1)) S = false
    · rw [ntF_s h]
      rcases h1 with h1 | h1
      · exact Or.inl h1
      · exact Or.inr ⟨h1.1, by omega⟩
    · by_cases hb : ntF v m p a S n mm t < 0 ∨ ntS p (Int32.ofNat (t + 1)) S < ntS p (ntF v m p a S n mm t) S ∨ (ntS p (Int32.ofNat (t + 1)) S = ntS p (ntF v m p a S n mm t) S ∧ ntS m (Int32.ofNat (t + 1)) S < ntS m (ntF v m p a S n mm t) S)
      · rw [ntF_b h hb]
        exact Or.inr ⟨by omega, by omega⟩
      · rw [ntF_n h hb]
        rcases h1 with h1 | h1
        · exact Or.inl h1
        · exact Or.inr ⟨h1.1, by omega⟩
end NTR
theorem i0lt {x : Int32} : x < 0 ↔ x.toInt < 0 := by
  have h : (0 : Int32).toInt = 0 := rfl
  rw [Int32.lt_iff_toInt_lt, h]
theorem ntA_bad {v m p a : Nat → Int32} {S : Nat} {n mm w : Int32} (h : ¬ ((1 ≤ n.toInt ∧ n.toInt ≤ 99) ∧ (1 ≤ mm.toInt ∧ mm.toInt ≤ 999)) ∨ ¬ (0 ≤ w.toInt ∧ w.toInt ≤ 2)) : ntA v m p a S n mm w = -1000000001 := by
  unfold ntA
  rw [if_pos h]
theorem ntA_go {v m p a : Nat → Int32} {S : Nat} {n mm w : Int32} (h1 : (1 ≤ n.toInt ∧ n.toInt ≤ 99) ∧ (1 ≤ mm.toInt ∧ mm.toInt ≤ 999)) (h2 : 0 ≤ w.toInt ∧ w.toInt ≤ 2) : ntA v m p a S n mm w = if ntF v m p a S n mm (2 ^ S - 1) < 0 then -1000000005 else if w = 0 then ntF v m p a S n mm (2 ^ S - 1) else if w = 1 then ntS p (ntF v m p a S n mm (2 ^ S - 1)) S else ntS m (ntF v m p a S n mm (2 ^ S - 1)) S := by
  unfold ntA
  rw [if_neg (fun z => z.elim (fun z => z h1) (fun z => z h2))]
theorem rnt_run (hT : aTabOk) {M : mHe} (hM : yTy M) {S : Nat} (hS : S ≤ 8) (hz : ∀ xs : tXs, yRd xs M 120 10 = some (.int (Int32.ofNat S))) {v m p a : Nat → Int32} (hv : ntRows M 120 3760 4 v) (hm : ntRows M 120 3761 4 m) (hp : ntRows M 120 3762 4 p) (ha : ntRows M 120 3763 4 a) {n mm w : Int32} : mEv none 80 (354, 0, lv_args 0 [.ref 128, .int n, .int mm, .int w], []) M (fun r M' => r = some (.int (ntA v m p a S n mm w)) ∧ M' = M) := by
  have hpb := ntP_b hS
  obtain ⟨fs, hfs, -⟩ := yTy_obj hM (rfl : tTy 119 = some (.inr (12, _)))
  obtain ⟨K1, r1, N1, q1, hr1, hN1⟩ := isNight_run hT (M := M) (n := n) (m := mm)
  rw [hr1, hN1] at q1
  have q1 := mRun_dm q1 (show 10 ≤ 79 by decide)
  obtain ⟨K2, q2⟩ := isIn_i hT (M := M) (v := w) (l := Int64.ofNat 0) (h := Int64.ofInt 2) (d := 79) (by decide)
  rw [show (Int64.ofNat 0).toInt = 0 from rfl, show (Int64.ofInt 2).toInt = 2 from rfl] at q2
  obtain ⟨K3, r3, N3, q3, hr3, hN3⟩ := rfn_run hT hM hS hz hv hm hp ha (n := n) (mm := mm)
  rw [hr3, hN3] at q3
  have q3 := mRun_dm q3 (show 70 ≤ 79 by decide)
  obtain ⟨b, hb⟩ : ∃ b, b = ntF v m p a S n mm (2 ^ S - 1) := ⟨_, rfl⟩
  rw [← hb] at q3
  have rs : ∀ (ob : Nat) (w : Int32) (F : Nat → Int32), ob < 4 → w.toInt = (ob : Int) → ntRows M 120 (3760 + ob) 4 F → ∃ K, mRun none K 79 (350, 0, lv_args 0 [.ref 128, .int b, .int w], []) M = some (some (.int (ntS F b S)), M) := fun ob w F h1 h2 h3 => by
    obtain ⟨K, r, M', q1, rfl, rfl⟩ := rsm_run hT hM hS h1 hz h3 (set := b) h2
    exact ⟨K, mRun_dm q1 (show 60 ≤ 79 by decide)⟩
  obtain ⟨K4, q4⟩ := rs 2 2 p (by decide) rfl hp
  obtain ⟨K5, q5⟩ := rs 1 1 m (by decide) rfl hm
  by_cases c1 : (1 ≤ n.toInt ∧ n.toInt ≤ 99) ∧ (1 ≤ mm.toInt ∧ mm.toInt ≤ 999)
  · rw [gB_t c1] at q1
    by_cases c2 : 0 ≤ w.toInt ∧ w.toInt ≤ 2
    · rw [gB_t c2] at q2
      rw [ntA_go c1 c2, ← hb]
      by_cases c3 : b < 0
      · rw [if_pos c3]
        refine e_then (e_il1 hT (y := 354) (pc := 0) (q := (yX12_night, cX12_night, 5, (some .int), 12)) rfl (show aTab 354 0 = some (.iload_n 1, 1, 0, 0, 0, 0, 0, 0) from rfl) rfl rfl) ?_
        refine e_then (e_il1 hT (y := 354) (pc := 1) (q := (yX12_night, cX12_night, 5, (some .int), 12)) rfl (show aTab 354 1 = some (.iload_n 2, 1, 0, 0, 0, 0, 0, 0) from rfl) rfl rfl) ?_
        refine e_then (e_calls hT (y := 354) (pc := 2) (q := (yX12_night, cX12_night, 5, (some .int), 12)) rfl (show aTab 354 2 = some (.invokestatic 398, 3, 2, 353, 0, 2, 2, 12) from rfl) (Nat.le_of_ble_eq_true rfl) (Nat.le_of_ble_eq_true rfl) (Nat.le_of_ble_eq_true rfl) ⟨by decide, by decide⟩ q1) ?_
        refine e_then (e_ifF hT (y := 354) (pc := 5) (q := (yX12_night, cX12_night, 5, (some .int), 12)) rfl (show aTab 354 5 = some (.ifCond .eq 15, 3, 0, 0, 0, 0, 0, 0) from rfl) rfl (t := 20) rfl (cdF (by show ¬ (1 : Int32).toInt = 0; decide))) ?_
        refine e_then (e_il1 hT (y := 354) (pc := 8) (q := (yX12_night, cX12_night, 5, (some .int), 12)) rfl (show aTab 354 8 = some (.iload_n 3, 1, 0, 0, 0, 0, 0, 0) from rfl) rfl rfl) ?_
        refine e_then (e_st hT (y := 354) (pc := 9) (q := (yX12_night, cX12_night, 5, (some .int), 12)) rfl (show aTab 354 9 = some (.i2l, 1, 0, 0, 0, 0, 0, 0) from rfl) (fr' := (354, 10, (lv_args 0 [.ref 128, .int n, .int mm, .int w]), [.long (w).toInt64])) (M' := M) rfl) ?_
        refine e_then (e_st hT (y := 354) (pc := 10) (q := (yX12_night, cX12_night, 5, (some .int), 12)) rfl (show aTab 354 10 = some (.lconst 0, 1, 0, 0, 0, 0, 0, 0) from rfl) (fr' := (354, 11, (lv_args 0 [.ref 128, .int n, .int mm, .int w]), [.long (Int64.ofNat 0), .long (w).toInt64])) (M' := M) rfl) ?_
        refine e_then (e_st hT (y := 354) (pc := 11) (q := (yX12_night, cX12_night, 5, (some .int), 12)) rfl (show aTab 354 11 = some (.ldc2_w 336, 3, 8, 0, 2, 0, 0, 0) from rfl) (fr' := (354, 14, (lv_args 0 [.ref 128, .int n, .int mm, .int w]), [.long (Int64.ofInt 2), .long (Int64.ofNat 0), .long (w).toInt64])) (M' := M) rfl) ?_
        refine e_then (e_calls hT (y := 354) (pc := 14) (q := (yX12_night, cX12_night, 5, (some .int), 12)) rfl (show aTab 354 14 = some (.invokestatic 65, 3, 2, 239, 0, 3, 6, 12) from rfl) (Nat.le_of_ble_eq_true rfl) (Nat.le_of_ble_eq_true rfl) (Nat.le_of_ble_eq_true rfl) ⟨by decide, by decide⟩ q2) ?_
        refine e_then (e_ifT hT (y := 354) (pc := 17) (q := (yX12_night, cX12_night, 5, (some .int), 12)) rfl (show aTab 354 17 = some (.ifCond .ne 6, 3, 0, 0, 0, 0, 0, 0) from rfl) rfl (t := 23) rfl (cdT (by show ¬ (1 : Int32).toInt = 0; decide))) ?_
        refine e_then (e_al1 hT (y := 354) (pc := 23) (q := (yX12_night, cX12_night, 5, (some .int), 12)) rfl (show aTab 354 23 = some (.aload_n 0, 1, 0, 0, 0, 0, 0, 0) from rfl) rfl rfl) ?_
        refine e_then (e_il1 hT (y := 354) (pc := 24) (q := (yX12_night, cX12_night, 5, (some .int), 12)) rfl (show aTab 354 24 = some (.iload_n 1, 1, 0, 0, 0, 0, 0, 0) from rfl) rfl rfl) ?_
        refine e_then (e_il1 hT (y := 354) (pc := 25) (q := (yX12_night, cX12_night, 5, (some .int), 12)) rfl (show aTab 354 25 = some (.iload_n 2, 1, 0, 0, 0, 0, 0, 0) from rfl) rfl rfl) ?_
        refine e_then (e_call hT (y := 354) (pc := 26) (q := (yX12_night, cX12_night, 5, (some .int), 12)) rfl (show aTab 354 26 = some (.invokevirtual 401, 3, 1, 352, 0, 2, 6, 12) from rfl) rfl ⟨by decide, Nat.le_of_ble_eq_true rfl⟩ hfs (Nat.le_of_ble_eq_true rfl) (Nat.le_of_ble_eq_true rfl) ⟨by decide, by decide⟩ q3) ?_
        refine e_then (e_is2 hT (y := 354) (pc := 29) (q := (yX12_night, cX12_night, 5, (some .int), 12)) rfl (show aTab 354 29 = some (.istore 4, 2, 0, 0, 0, 0, 0, 0) from rfl) ⟨rfl, by decide⟩) ?_
        refine e_then (e_il2 hT (y := 354) (pc := 31) (q := (yX12_night, cX12_night, 5, (some .int), 12)) rfl (show aTab 354 31 = some (.iload 4, 2, 0, 0, 0, 0, 0, 0) from rfl) rfl (mlg_eq 4 _ _)) ?_
        refine e_then (e_ifF hT (y := 354) (pc := 33) (q := (yX12_night, cX12_night, 5, (some .int), 12)) rfl (show aTab 354 33 = some (.ifCond .ge 8, 3, 0, 0, 0, 0, 0, 0) from rfl) rfl (t := 41) rfl (cdF (by show ¬ (0 : Int) ≤ _; have := i0lt.mp c3; omega))) ?_
        refine e_then (e_st hT (y := 354) (pc := 36) (q := (yX12_night, cX12_night, 5, (some .int), 12)) rfl (show aTab 354 36 = some (.ldc 64, 2, 7, 0, (-1000000005), 0, 0, 0) from rfl) (fr' := (354, 38, (mlp 4 (.int b) (lv_args 0 [.ref 128, .int n, .int mm, .int w])), [.int (-1000000005)])) (M' := M) rfl) ?_
        refine e_then (e_st hT (y := 354) (pc := 38) (q := (yX12_night, cX12_night, 5, (some .int), 12)) rfl (show aTab 354 38 = some (.goto 34, 3, 0, 0, 0, 0, 0, 0) from rfl) (fr' := (354, 72, (mlp 4 (.int b) (lv_args 0 [.ref 128, .int n, .int mm, .int w])), [.int (-1000000005)])) (M' := M) rfl) ?_
        exact e_fin (e_iret hT (y := 354) (pc := 72) (q := (yX12_night, cX12_night, 5, (some .int), 12)) rfl (show aTab 354 72 = some (.ireturn, 1, 0, 0, 0, 0, 0, 0) from rfl) ⟨rfl, rfl⟩) ⟨rfl, rfl⟩
      rw [if_neg c3]
      by_cases c4 : w = 0
      · rw [if_pos c4]
        refine e_then (e_il1 hT (y := 354) (pc := 0) (q := (yX12_night, cX12_night, 5, (some .int), 12)) rfl (show aTab 354 0 = some (.iload_n 1, 1, 0, 0, 0, 0, 0, 0) from rfl) rfl rfl) ?_
        refine e_then (e_il1 hT (y := 354) (pc := 1) (q := (yX12_night, cX12_night, 5, (some .int), 12)) rfl (show aTab 354 1 = some (.iload_n 2, 1, 0, 0, 0, 0, 0, 0) from rfl) rfl rfl) ?_
        refine e_then (e_calls hT (y := 354) (pc := 2) (q := (yX12_night, cX12_night, 5, (some .int), 12)) rfl (show aTab 354 2 = some (.invokestatic 398, 3, 2, 353, 0, 2, 2, 12) from rfl) (Nat.le_of_ble_eq_true rfl) (Nat.le_of_ble_eq_true rfl) (Nat.le_of_ble_eq_true rfl) ⟨by decide, by decide⟩ q1) ?_
        refine e_then (e_ifF hT (y := 354) (pc := 5) (q := (yX12_night, cX12_night, 5, (some .int), 12)) rfl (show aTab 354 5 = some (.ifCond .eq 15, 3, 0, 0, 0, 0, 0, 0) from rfl) rfl (t := 20) rfl (cdF (by show ¬ (1 : Int32).toInt = 0; decide))) ?_
        refine e_then (e_il1 hT (y := 354) (pc := 8) (q := (yX12_night, cX12_night, 5, (some .int), 12)) rfl (show aTab 354 8 = some (.iload_n 3, 1, 0, 0, 0, 0, 0, 0) from rfl) rfl rfl) ?_
        refine e_then (e_st hT (y := 354) (pc := 9) (q := (yX12_night, cX12_night, 5, (some .int), 12)) rfl (show aTab 354 9 = some (.i2l, 1, 0, 0, 0, 0, 0, 0) from rfl) (fr' := (354, 10, (lv_args 0 [.ref 128, .int n, .int mm, .int w]), [.long (w).toInt64])) (M' := M) rfl) ?_
        refine e_then (e_st hT (y := 354) (pc := 10) (q := (yX12_night, cX12_night, 5, (some .int), 12)) rfl (show aTab 354 10 = some (.lconst 0, 1, 0, 0, 0, 0, 0, 0) from rfl) (fr' := (354, 11, (lv_args 0 [.ref 128, .int n, .int mm, .int w]), [.long (Int64.ofNat 0), .long (w).toInt64])) (M' := M) rfl) ?_
        refine e_then (e_st hT (y := 354) (pc := 11) (q := (yX12_night, cX12_night, 5, (some .int), 12)) rfl (show aTab 354 11 = some (.ldc2_w 336, 3, 8, 0, 2, 0, 0, 0) from rfl) (fr' := (354, 14, (lv_args 0 [.ref 128, .int n, .int mm, .int w]), [.long (Int64.ofInt 2), .long (Int64.ofNat 0), .long (w).toInt64])) (M' := M) rfl) ?_
        refine e_then (e_calls hT (y := 354) (pc := 14) (q := (yX12_night, cX12_night, 5, (some .int), 12)) rfl (show aTab 354 14 = some (.invokestatic 65, 3, 2, 239, 0, 3, 6, 12) from rfl) (Nat.le_of_ble_eq_true rfl) (Nat.le_of_ble_eq_true rfl) (Nat.le_of_ble_eq_true rfl) ⟨by decide, by decide⟩ q2) ?_
        refine e_then (e_ifT hT (y := 354) (pc := 17) (q := (yX12_night, cX12_night, 5, (some .int), 12)) rfl (show aTab 354 17 = some (.ifCond .ne 6, 3, 0, 0, 0, 0, 0, 0) from rfl) rfl (t := 23) rfl (cdT (by show ¬ (1 : Int32).toInt = 0; decide))) ?_
        refine e_then (e_al1 hT (y := 354) (pc := 23) (q := (yX12_night, cX12_night, 5, (some .int), 12)) rfl (show aTab 354 23 = some (.aload_n 0, 1, 0, 0, 0, 0, 0, 0) from rfl) rfl rfl) ?_
        refine e_then (e_il1 hT (y := 354) (pc := 24) (q := (yX12_night, cX12_night, 5, (some .int), 12)) rfl (show aTab 354 24 = some (.iload_n 1, 1, 0, 0, 0, 0, 0, 0) from rfl) rfl rfl) ?_
        refine e_then (e_il1 hT (y := 354) (pc := 25) (q := (yX12_night, cX12_night, 5, (some .int), 12)) rfl (show aTab 354 25 = some (.iload_n 2, 1, 0, 0, 0, 0, 0, 0) from rfl) rfl rfl) ?_
        refine e_then (e_call hT (y := 354) (pc := 26) (q := (yX12_night, cX12_night, 5, (some .int), 12)) rfl (show aTab 354 26 = some (.invokevirtual 401, 3, 1, 352, 0, 2, 6, 12) from rfl) rfl ⟨by decide, Nat.le_of_ble_eq_true rfl⟩ hfs (Nat.le_of_ble_eq_true rfl) (Nat.le_of_ble_eq_true rfl) ⟨by decide, by decide⟩ q3) ?_
        refine e_then (e_is2 hT (y := 354) (pc := 29) (q := (yX12_night, cX12_night, 5, (some .int), 12)) rfl (show aTab 354 29 = some (.istore 4, 2, 0, 0, 0, 0, 0, 0) from rfl) ⟨rfl, by decide⟩) ?_
        refine e_then (e_il2 hT (y := 354) (pc := 31) (q := (yX12_night, cX12_night, 5, (some .int), 12)) rfl (show aTab 354 31 = some (.iload 4, 2, 0, 0, 0, 0, 0, 0) from rfl) rfl (mlg_eq 4 _ _)) ?_
        refine e_then (e_ifT hT (y := 354) (pc := 33) (q := (yX12_night, cX12_night, 5, (some .int), 12)) rfl (show aTab 354 33 = some (.ifCond .ge 8, 3, 0, 0, 0, 0, 0, 0) from rfl) rfl (t := 41) rfl (cdT (by show (0 : Int) ≤ _; have := Int.not_lt.mp (fun z => c3 (i0lt.mpr z)); omega))) ?_
        refine e_then (e_il1 hT (y := 354) (pc := 41) (q := (yX12_night, cX12_night, 5, (some .int), 12)) rfl (show aTab 354 41 = some (.iload_n 3, 1, 0, 0, 0, 0, 0, 0) from rfl) rfl (mlg_i rfl (by decide))) ?_
        refine e_then (e_ifF hT (y := 354) (pc := 42) (q := (yX12_night, cX12_night, 5, (some .int), 12)) rfl (show aTab 354 42 = some (.ifCond .ne 8, 3, 0, 0, 0, 0, 0, 0) from rfl) rfl (t := 50) rfl (cdF (by show ¬ ¬ _ = _; rw [c4]; decide))) ?_
        refine e_then (e_il2 hT (y := 354) (pc := 45) (q := (yX12_night, cX12_night, 5, (some .int), 12)) rfl (show aTab 354 45 = some (.iload 4, 2, 0, 0, 0, 0, 0, 0) from rfl) rfl (mlg_eq 4 _ _)) ?_
        refine e_then (e_st hT (y := 354) (pc := 47) (q := (yX12_night, cX12_night, 5, (some .int), 12)) rfl (show aTab 354 47 = some (.goto 25, 3, 0, 0, 0, 0, 0, 0) from rfl) (fr' := (354, 72, (mlp 4 (.int b) (lv_args 0 [.ref 128, .int n, .int mm, .int w])), [.int b])) (M' := M) rfl) ?_
        exact e_fin (e_iret hT (y := 354) (pc := 72) (q := (yX12_night, cX12_night, 5, (some .int), 12)) rfl (show aTab 354 72 = some (.ireturn, 1, 0, 0, 0, 0, 0, 0) from rfl) ⟨rfl, rfl⟩) ⟨rfl, rfl⟩
      rw [if_neg c4]
      by_cases c5 : w = 1
      · rw [if_pos c5]
        refine e_then (e_il1 hT (y := 354) (pc := 0) (q := (yX12_night, cX12_night, 5, (some .int), 12)) rfl (show aTab 354 0 = some (.iload_n 1, 1, 0, 0, 0, 0, 0, 0) from rfl) rfl rfl) ?_
        refine e_then (e_il1 hT (y := 354) (pc := 1) (q := (yX12_night, cX12_night, 5, (some .int), 12)) rfl (show aTab 354 1 = some (.iload_n 2, 1, 0, 0, 0, 0, 0, 0) from rfl) rfl rfl) ?_
        refine e_then (e_calls hT (y := 354) (pc := 2) (q := (yX12_night, cX12_night, 5, (some .int), 12)) rfl (show aTab 354 2 = some (.invokestatic 398, 3, 2, 353, 0, 2, 2, 12) from rfl) (Nat.le_of_ble_eq_true rfl) (Nat.le_of_ble_eq_true rfl) (Nat.le_of_ble_eq_true rfl) ⟨by decide, by decide⟩ q1) ?_
        refine e_then (e_ifF hT (y := 354) (pc := 5) (q := (yX12_night, cX12_night, 5, (some .int), 12)) rfl (show aTab 354 5 = some (.ifCond .eq 15, 3, 0, 0, 0, 0, 0, 0) from rfl) rfl (t := 20) rfl (cdF (by show ¬ (1 : Int32).toInt = 0; decide))) ?_
        refine e_then (e_il1 hT (y := 354) (pc := 8) (q := (yX12_night, cX12_night, 5, (some .int), 12)) rfl (show aTab 354 8 = some (.iload_n 3, 1, 0, 0, 0, 0, 0, 0) from rfl) rfl rfl) ?_
        refine e_then (e_st hT (y := 354) (pc := 9) (q := (yX12_night, cX12_night, 5, (some .int), 12)) rfl (show aTab 354 9 = some (.i2l, 1, 0, 0, 0, 0, 0, 0) from rfl) (fr' := (354, 10, (lv_args 0 [.ref 128, .int n, .int mm, .int w]), [.long (w).toInt64])) (M' := M) rfl) ?_
        refine e_then (e_st hT (y := 354) (pc := 10) (q := (yX12_night, cX12_night, 5, (some .int), 12)) rfl (show aTab 354 10 = some (.lconst 0, 1, 0, 0, 0, 0, 0, 0) from rfl) (fr' := (354, 11, (lv_args 0 [.ref 128, .int n, .int mm, .int w]), [.long (Int64.ofNat 0), .long (w).toInt64])) (M' := M) rfl) ?_
        refine e_then (e_st hT (y := 354) (pc := 11) (q := (yX12_night, cX12_night, 5, (some .int), 12)) rfl (show aTab 354 11 = some (.ldc2_w 336, 3, 8, 0, 2, 0, 0, 0) from rfl) (fr' := (354, 14, (lv_args 0 [.ref 128, .int n, .int mm, .int w]), [.long (Int64.ofInt 2), .long (Int64.ofNat 0), .long (w).toInt64])) (M' := M) rfl) ?_
        refine e_then (e_calls hT (y := 354) (pc := 14) (q := (yX12_night, cX12_night, 5, (some .int), 12)) rfl (show aTab 354 14 = some (.invokestatic 65, 3, 2, 239, 0, 3, 6, 12) from rfl) (Nat.le_of_ble_eq_true rfl) (Nat.le_of_ble_eq_true rfl) (Nat.le_of_ble_eq_true rfl) ⟨by decide, by decide⟩ q2) ?_
        refine e_then (e_ifT hT (y := 354) (pc := 17) (q := (yX12_night, cX12_night, 5, (some .int), 12)) rfl (show aTab 354 17 = some (.ifCond .ne 6, 3, 0, 0, 0, 0, 0, 0) from rfl) rfl (t := 23) rfl (cdT (by show ¬ (1 : Int32).toInt = 0; decide))) ?_
        refine e_then (e_al1 hT (y := 354) (pc := 23) (q := (yX12_night, cX12_night, 5, (some .int), 12)) rfl (show aTab 354 23 = some (.aload_n 0, 1, 0, 0, 0, 0, 0, 0) from rfl) rfl rfl) ?_
        refine e_then (e_il1 hT (y := 354) (pc := 24) (q := (yX12_night, cX12_night, 5, (some .int), 12)) rfl (show aTab 354 24 = some (.iload_n 1, 1, 0, 0, 0, 0, 0, 0) from rfl) rfl rfl) ?_
        refine e_then (e_il1 hT (y := 354) (pc := 25) (q := (yX12_night, cX12_night, 5, (some .int), 12)) rfl (show aTab 354 25 = some (.iload_n 2, 1, 0, 0, 0, 0, 0, 0) from rfl) rfl rfl) ?_
        refine e_then (e_call hT (y := 354) (pc := 26) (q := (yX12_night, cX12_night, 5, (some .int), 12)) rfl (show aTab 354 26 = some (.invokevirtual 401, 3, 1, 352, 0, 2, 6, 12) from rfl) rfl ⟨by decide, Nat.le_of_ble_eq_true rfl⟩ hfs (Nat.le_of_ble_eq_true rfl) (Nat.le_of_ble_eq_true rfl) ⟨by decide, by decide⟩ q3) ?_
        refine e_then (e_is2 hT (y := 354) (pc := 29) (q := (yX12_night, cX12_night, 5, (some .int), 12)) rfl (show aTab 354 29 = some (.istore 4, 2, 0, 0, 0, 0, 0, 0) from rfl) ⟨rfl, by decide⟩) ?_
        refine e_then (e_il2 hT (y := 354) (pc := 31) (q := (yX12_night, cX12_night, 5, (some .int), 12)) rfl (show aTab 354 31 = some (.iload 4, 2, 0, 0, 0, 0, 0, 0) from rfl) rfl (mlg_eq 4 _ _)) ?_
        refine e_then (e_ifT hT (y := 354) (pc := 33) (q := (yX12_night, cX12_night, 5, (some .int), 12)) rfl (show aTab 354 33 = some (.ifCond .ge 8, 3, 0, 0, 0, 0, 0, 0) from rfl) rfl (t := 41) rfl (cdT (by show (0 : Int) ≤ _; have := Int.not_lt.mp (fun z => c3 (i0lt.mpr z)); omega))) ?_
        refine e_then (e_il1 hT (y := 354) (pc := 41) (q := (yX12_night, cX12_night, 5, (some .int), 12)) rfl (show aTab 354 41 = some (.iload_n 3, 1, 0, 0, 0, 0, 0, 0) from rfl) rfl (mlg_i rfl (by decide))) ?_
        refine e_then (e_ifT hT (y := 354) (pc := 42) (q := (yX12_night, cX12_night, 5, (some .int), 12)) rfl (show aTab 354 42 = some (.ifCond .ne 8, 3, 0, 0, 0, 0, 0, 0) from rfl) rfl (t := 50) rfl (cdT (by show ¬ _ = _; exact fun z => c4 (Int32.toInt_inj.mp z)))) ?_
        refine e_then (e_il1 hT (y := 354) (pc := 50) (q := (yX12_night, cX12_night, 5, (some .int), 12)) rfl (show aTab 354 50 = some (.iload_n 3, 1, 0, 0, 0, 0, 0, 0) from rfl) rfl (mlg_i rfl (by decide))) ?_
        refine e_then (e_st hT (y := 354) (pc := 51) (q := (yX12_night, cX12_night, 5, (some .int), 12)) rfl (show aTab 354 51 = some (.iconst 1, 1, 0, 0, 0, 0, 0, 0) from rfl) (fr' := (354, 52, (mlp 4 (.int b) (lv_args 0 [.ref 128, .int n, .int mm, .int w])), [.int 1, .int w])) (M' := M) rfl) ?_
        refine e_then (e_icF hT (y := 354) (pc := 52) (q := (yX12_night, cX12_night, 5, (some .int), 12)) rfl (show aTab 354 52 = some (.if_icmp .ne 13, 3, 0, 0, 0, 0, 0, 0) from rfl) rfl (t := 65) rfl (cdF (by show ¬ ¬ _ = _; rw [c5]; decide))) ?_
        refine e_then (e_al1 hT (y := 354) (pc := 55) (q := (yX12_night, cX12_night, 5, (some .int), 12)) rfl (show aTab 354 55 = some (.aload_n 0, 1, 0, 0, 0, 0, 0, 0) from rfl) rfl (mlg_r rfl (by decide))) ?_
        refine e_then (e_il2 hT (y := 354) (pc := 56) (q := (yX12_night, cX12_night, 5, (some .int), 12)) rfl (show aTab 354 56 = some (.iload 4, 2, 0, 0, 0, 0, 0, 0) from rfl) rfl (mlg_eq 4 _ _)) ?_
        refine e_then (e_st hT (y := 354) (pc := 58) (q := (yX12_night, cX12_night, 5, (some .int), 12)) rfl (show aTab 354 58 = some (.iconst 2, 1, 0, 0, 0, 0, 0, 0) from rfl) (fr' := (354, 59, (mlp 4 (.int b) (lv_args 0 [.ref 128, .int n, .int mm, .int w])), [.int 2, .int b, .ref 128])) (M' := M) rfl) ?_
        refine e_then (e_call hT (y := 354) (pc := 59) (q := (yX12_night, cX12_night, 5, (some .int), 12)) rfl (show aTab 354 59 = some (.invokevirtual 392, 3, 1, 350, 0, 2, 5, 12) from rfl) rfl ⟨by decide, Nat.le_of_ble_eq_true rfl⟩ hfs (Nat.le_of_ble_eq_true rfl) (Nat.le_of_ble_eq_true rfl) ⟨by decide, by decide⟩ q4) ?_
        refine e_then (e_st hT (y := 354) (pc := 62) (q := (yX12_night, cX12_night, 5, (some .int), 12)) rfl (show aTab 354 62 = some (.goto 10, 3, 0, 0, 0, 0, 0, 0) from rfl) (fr' := (354, 72, (mlp 4 (.int b) (lv_args 0 [.ref 128, .int n, .int mm, .int w])), [.int (ntS p b S)])) (M' := M) rfl) ?_
        exact e_fin (e_iret hT (y := 354) (pc := 72) (q := (yX12_night, cX12_night, 5, (some .int), 12)) rfl (show aTab 354 72 = some (.ireturn, 1, 0, 0, 0, 0, 0, 0) from rfl) ⟨rfl, rfl⟩) ⟨rfl, rfl⟩
      · rw [if_neg c5]
        refine e_then (e_il1 hT (y := 354) (pc := 0) (q := (yX12_night, cX12_night, 5, (some .int), 12)) rfl (show aTab 354 0 = some (.iload_n 1, 1, 0, 0, 0, 0, 0, 0) from rfl) rfl rfl) ?_
        refine e_then (e_il1 hT (y := 354) (pc := 1) (q := (yX12_night, cX12_night, 5, (some .int), 12)) rfl (show aTab 354 1 = some (.iload_n 2, 1, 0, 0, 0, 0, 0, 0) from rfl) rfl rfl) ?_
        refine e_then (e_calls hT (y := 354) (pc := 2) (q := (yX12_night, cX12_night, 5, (some .int), 12)) rfl (show aTab 354 2 = some (.invokestatic 398, 3, 2, 353, 0, 2, 2, 12) from rfl) (Nat.le_of_ble_eq_true rfl) (Nat.le_of_ble_eq_true rfl) (Nat.le_of_ble_eq_true rfl) ⟨by decide, by decide⟩ q1) ?_
        refine e_then (e_ifF hT (y := 354) (pc := 5) (q := (yX12_night, cX12_night, 5, (some .int), 12)) rfl (show aTab 354 5 = some (.ifCond .eq 15, 3, 0, 0, 0, 0, 0, 0) from rfl) rfl (t := 20) rfl (cdF (by show ¬ (1 : Int32).toInt = 0; decide))) ?_
        refine e_then (e_il1 hT (y := 354) (pc := 8) (q := (yX12_night, cX12_night, 5, (some .int), 12)) rfl (show aTab 354 8 = some (.iload_n 3, 1, 0, 0, 0, 0, 0, 0) from rfl) rfl rfl) ?_
        refine e_then (e_st hT (y := 354) (pc := 9) (q := (yX12_night, cX12_night, 5, (some .int), 12)) rfl (show aTab 354 9 = some (.i2l, 1, 0, 0, 0, 0, 0, 0) from rfl) (fr' := (354, 10, (lv_args 0 [.ref 128, .int n, .int mm, .int w]), [.long (w).toInt64])) (M' := M) rfl) ?_
        refine e_then (e_st hT (y := 354) (pc := 10) (q := (yX12_night, cX12_night, 5, (some .int), 12)) rfl (show aTab 354 10 = some (.lconst 0, 1, 0, 0, 0, 0, 0, 0) from rfl) (fr' := (354, 11, (lv_args 0 [.ref 128, .int n, .int mm, .int w]), [.long (Int64.ofNat 0), .long (w).toInt64])) (M' := M) rfl) ?_
        refine e_then (e_st hT (y := 354) (pc := 11) (q := (yX12_night, cX12_night, 5, (some .int), 12)) rfl (show aTab 354 11 = some (.ldc2_w 336, 3, 8, 0, 2, 0, 0, 0) from rfl) (fr' := (354, 14, (lv_args 0 [.ref 128, .int n, .int mm, .int w]), [.long (Int64.ofInt 2), .long (Int64.ofNat 0), .long (w).toInt64])) (M' := M) rfl) ?_
        refine e_then (e_calls hT (y := 354) (pc := 14) (q := (yX12_night, cX12_night, 5, (some .int), 12)) rfl (show aTab 354 14 = some (.invokestatic 65, 3, 2, 239, 0, 3, 6, 12) from rfl) (Nat.le_of_ble_eq_true rfl) (Nat.le_of_ble_eq_true rfl) (Nat.le_of_ble_eq_true rfl) ⟨by decide, by decide⟩ q2) ?_
        refine e_then (e_ifT hT (y := 354) (pc := 17) (q := (yX12_night, cX12_night, 5, (some .int), 12)) rfl (show aTab 354 17 = some (.ifCond .ne 6, 3, 0, 0, 0, 0, 0, 0) from rfl) rfl (t := 23) rfl (cdT (by show ¬ (1 : Int32).toInt = 0; decide))) ?_
        refine e_then (e_al1 hT (y := 354) (pc := 23) (q := (yX12_night, cX12_night, 5, (some .int), 12)) rfl (show aTab 354 23 = some (.aload_n 0, 1, 0, 0, 0, 0, 0, 0) from rfl) rfl rfl) ?_
        refine e_then (e_il1 hT (y := 354) (pc := 24) (q := (yX12_night, cX12_night, 5, (some .int), 12)) rfl (show aTab 354 24 = some (.iload_n 1, 1, 0, 0, 0, 0, 0, 0) from rfl) rfl rfl) ?_
        refine e_then (e_il1 hT (y := 354) (pc := 25) (q := (yX12_night, cX12_night, 5, (some .int), 12)) rfl (show aTab 354 25 = some (.iload_n 2, 1, 0, 0, 0, 0, 0, 0) from rfl) rfl rfl) ?_
        refine e_then (e_call hT (y := 354) (pc := 26) (q := (yX12_night, cX12_night, 5, (some .int), 12)) rfl (show aTab 354 26 = some (.invokevirtual 401, 3, 1, 352, 0, 2, 6, 12) from rfl) rfl ⟨by decide, Nat.le_of_ble_eq_true rfl⟩ hfs (Nat.le_of_ble_eq_true rfl) (Nat.le_of_ble_eq_true rfl) ⟨by decide, by decide⟩ q3) ?_
        refine e_then (e_is2 hT (y := 354) (pc := 29) (q := (yX12_night, cX12_night, 5, (some .int), 12)) rfl (show aTab 354 29 = some (.istore 4, 2, 0, 0, 0, 0, 0, 0) from rfl) ⟨rfl, by decide⟩) ?_
        refine e_then (e_il2 hT (y := 354) (pc := 31) (q := (yX12_night, cX12_night, 5, (some .int), 12)) rfl (show aTab 354 31 = some (.iload 4, 2, 0, 0, 0, 0, 0, 0) from rfl) rfl (mlg_eq 4 _ _)) ?_
        refine e_then (e_ifT hT (y := 354) (pc := 33) (q := (yX12_night, cX12_night, 5, (some .int), 12)) rfl (show aTab 354 33 = some (.ifCond .ge 8, 3, 0, 0, 0, 0, 0, 0) from rfl) rfl (t := 41) rfl (cdT (by show (0 : Int) ≤ _; have := Int.not_lt.mp (fun z => c3 (i0lt.mpr z)); omega))) ?_
        refine e_then (e_il1 hT (y := 354) (pc := 41) (q := (yX12_night, cX12_night, 5, (some .int), 12)) rfl (show aTab 354 41 = some (.iload_n 3, 1, 0, 0, 0, 0, 0, 0) from rfl) rfl (mlg_i rfl (by decide))) ?_
        refine e_then (e_ifT hT (y := 354) (pc := 42) (q := (yX12_night, cX12_night, 5, (some .int), 12)) rfl (show aTab 354 42 = some (.ifCond .ne 8, 3, 0, 0, 0, 0, 0, 0) from rfl) rfl (t := 50) rfl (cdT (by show ¬ _ = _; exact fun z => c4 (Int32.toInt_inj.mp z)))) ?_
        refine e_then (e_il1 hT (y := 354) (pc := 50) (q := (yX12_night, cX12_night, 5, (some .int), 12)) rfl (show aTab 354 50 = some (.iload_n 3, 1, 0, 0, 0, 0, 0, 0) from rfl) rfl (mlg_i rfl (by decide))) ?_
        refine e_then (e_st hT (y := 354) (pc := 51) (q := (yX12_night, cX12_night, 5, (some .int), 12)) rfl (show aTab 354 51 = some (.iconst 1, 1, 0, 0, 0, 0, 0, 0) from rfl) (fr' := (354, 52, (mlp 4 (.int b) (lv_args 0 [.ref 128, .int n, .int mm, .int w])), [.int 1, .int w])) (M' := M) rfl) ?_
        refine e_then (e_icT hT (y := 354) (pc := 52) (q := (yX12_night, cX12_night, 5, (some .int), 12)) rfl (show aTab 354 52 = some (.if_icmp .ne 13, 3, 0, 0, 0, 0, 0, 0) from rfl) rfl (t := 65) rfl (cdT (by show ¬ _ = _; exact fun z => c5 (Int32.toInt_inj.mp z)))) ?_
        refine e_then (e_al1 hT (y := 354) (pc := 65) (q := (yX12_night, cX12_night, 5, (some .int), 12)) rfl (show aTab 354 65 = some (.aload_n 0, 1, 0, 0, 0, 0, 0, 0) from rfl) rfl (mlg_r rfl (by decide))) ?_
        refine e_then (e_il2 hT (y := 354) (pc := 66) (q := (yX12_night, cX12_night, 5, (some .int), 12)) rfl (show aTab 354 66 = some (.iload 4, 2, 0, 0, 0, 0, 0, 0) from rfl) rfl (mlg_eq 4 _ _)) ?_
        refine e_then (e_st hT (y := 354) (pc := 68) (q := (yX12_night, cX12_night, 5, (some .int), 12)) rfl (show aTab 354 68 = some (.iconst 1, 1, 0, 0, 0, 0, 0, 0) from rfl) (fr' := (354, 69, (mlp 4 (.int b) (lv_args 0 [.ref 128, .int n, .int mm, .int w])), [.int 1, .int b, .ref 128])) (M' := M) rfl) ?_
        refine e_then (e_call hT (y := 354) (pc := 69) (q := (yX12_night, cX12_night, 5, (some .int), 12)) rfl (show aTab 354 69 = some (.invokevirtual 392, 3, 1, 350, 0, 2, 5, 12) from rfl) rfl ⟨by decide, Nat.le_of_ble_eq_true rfl⟩ hfs (Nat.le_of_ble_eq_true rfl) (Nat.le_of_ble_eq_true rfl) ⟨by decide, by decide⟩ q5) ?_
        exact e_fin (e_iret hT (y := 354) (pc := 72) (q := (yX12_night, cX12_night, 5, (some .int), 12)) rfl (show aTab 354 72 = some (.ireturn, 1, 0, 0, 0, 0, 0, 0) from rfl) ⟨rfl, rfl⟩) ⟨rfl, rfl⟩
    · rw [gB_f c2] at q2
      rw [ntA_bad (Or.inr c2)]
      refine e_then (e_il1 hT (y := 354) (pc := 0) (q := (yX12_night, cX12_night, 5, (some .int), 12)) rfl (show aTab 354 0 = some (.iload_n 1, 1, 0, 0, 0, 0, 0, 0) from rfl) rfl rfl) ?_
      refine e_then (e_il1 hT (y := 354) (pc := 1) (q := (yX12_night, cX12_night, 5, (some .int), 12)) rfl (show aTab 354 1 = some (.iload_n 2, 1, 0, 0, 0, 0, 0, 0) from rfl) rfl rfl) ?_
      refine e_then (e_calls hT (y := 354) (pc := 2) (q := (yX12_night, cX12_night, 5, (some .int), 12)) rfl (show aTab 354 2 = some (.invokestatic 398, 3, 2, 353, 0, 2, 2, 12) from rfl) (Nat.le_of_ble_eq_true rfl) (Nat.le_of_ble_eq_true rfl) (Nat.le_of_ble_eq_true rfl) ⟨by decide, by decide⟩ q1) ?_
      refine e_then (e_ifF hT (y := 354) (pc := 5) (q := (yX12_night, cX12_night, 5, (some .int), 12)) rfl (show aTab 354 5 = some (.ifCond .eq 15, 3, 0, 0, 0, 0, 0, 0) from rfl) rfl (t := 20) rfl (cdF (by show ¬ (1 : Int32).toInt = 0; decide))) ?_
      refine e_then (e_il1 hT (y := 354) (pc := 8) (q := (yX12_night, cX12_night, 5, (some .int), 12)) rfl (show aTab 354 8 = some (.iload_n 3, 1, 0, 0, 0, 0, 0, 0) from rfl) rfl rfl) ?_
      refine e_then (e_st hT (y := 354) (pc := 9) (q := (yX12_night, cX12_night, 5, (some .int), 12)) rfl (show aTab 354 9 = some (.i2l, 1, 0, 0, 0, 0, 0, 0) from rfl) (fr' := (354, 10, (lv_args 0 [.ref 128, .int n, .int mm, .int w]), [.long (w).toInt64])) (M' := M) rfl) ?_
      refine e_then (e_st hT (y := 354) (pc := 10) (q := (yX12_night, cX12_night, 5, (some .int), 12)) rfl (show aTab 354 10 = some (.lconst 0, 1, 0, 0, 0, 0, 0, 0) from rfl) (fr' := (354, 11, (lv_args 0 [.ref 128, .int n, .int mm, .int w]), [.long (Int64.ofNat 0), .long (w).toInt64])) (M' := M) rfl) ?_
      refine e_then (e_st hT (y := 354) (pc := 11) (q := (yX12_night, cX12_night, 5, (some .int), 12)) rfl (show aTab 354 11 = some (.ldc2_w 336, 3, 8, 0, 2, 0, 0, 0) from rfl) (fr' := (354, 14, (lv_args 0 [.ref 128, .int n, .int mm, .int w]), [.long (Int64.ofInt 2), .long (Int64.ofNat 0), .long (w).toInt64])) (M' := M) rfl) ?_
      refine e_then (e_calls hT (y := 354) (pc := 14) (q := (yX12_night, cX12_night, 5, (some .int), 12)) rfl (show aTab 354 14 = some (.invokestatic 65, 3, 2, 239, 0, 3, 6, 12) from rfl) (Nat.le_of_ble_eq_true rfl) (Nat.le_of_ble_eq_true rfl) (Nat.le_of_ble_eq_true rfl) ⟨by decide, by decide⟩ q2) ?_
      refine e_then (e_ifF hT (y := 354) (pc := 17) (q := (yX12_night, cX12_night, 5, (some .int), 12)) rfl (show aTab 354 17 = some (.ifCond .ne 6, 3, 0, 0, 0, 0, 0, 0) from rfl) rfl (t := 23) rfl (cdF (by show ¬ ¬ (0 : Int32).toInt = 0; decide))) ?_
      refine e_then (e_st hT (y := 354) (pc := 20) (q := (yX12_night, cX12_night, 5, (some .int), 12)) rfl (show aTab 354 20 = some (.ldc 89, 2, 7, 0, (-1000000001), 0, 0, 0) from rfl) (fr' := (354, 22, (lv_args 0 [.ref 128, .int n, .int mm, .int w]), [.int (-1000000001)])) (M' := M) rfl) ?_
      exact e_fin (e_iret hT (y := 354) (pc := 22) (q := (yX12_night, cX12_night, 5, (some .int), 12)) rfl (show aTab 354 22 = some (.ireturn, 1, 0, 0, 0, 0, 0, 0) from rfl) ⟨rfl, rfl⟩) ⟨rfl, rfl⟩
  · rw [gB_f c1] at q1
    rw [ntA_bad (Or.inl c1)]
    refine e_then (e_il1 hT (y := 354) (pc := 0) (q := (yX12_night, cX12_night, 5, (some .int), 12)) rfl (show aTab 354 0 = some (.iload_n 1, 1, 0, 0, 0, 0, 0, 0) from rfl) rfl rfl) ?_
    refine e_then (e_il1 hT (y := 354) (pc := 1) (q := (yX12_night, cX12_night, 5, (some .int), 12)) rfl (show aTab 354 1 = some (.iload_n 2, 1, 0, 0, 0, 0, 0, 0) from rfl) rfl rfl) ?_
    refine e_then (e_calls hT (y := 354) (pc := 2) (q := (yX12_night, cX12_night, 5, (some .int), 12)) rfl (show aTab 354 2 = some (.invokestatic 398, 3, 2, 353, 0, 2, 2, 12) from rfl) (Nat.le_of_ble_eq_true rfl) (Nat.le_of_ble_eq_true rfl) (Nat.le_of_ble_eq_true rfl) ⟨by decide, by decide⟩ q1) ?_
    refine e_then (e_ifT hT (y := 354) (pc := 5) (q := (yX12_night, cX12_night, 5, (some .int), 12)) rfl (show aTab 354 5 = some (.ifCond .eq 15, 3, 0, 0, 0, 0, 0, 0) from rfl) rfl (t := 20) rfl (cdT (by show (0 : Int32).toInt = 0; rfl))) ?_
    refine e_then (e_st hT (y := 354) (pc := 20) (q := (yX12_night, cX12_night, 5, (some .int), 12)) rfl (show aTab 354 20 = some (.ldc 89, 2, 7, 0, (-1000000001), 0, 0, 0) from rfl) (fr' := (354, 22, (lv_args 0 [.ref 128, .int n, .int mm, .int w]), [.int (-1000000001)])) (M' := M) rfl) ?_
    exact e_fin (e_iret hT (y := 354) (pc := 22) (q := (yX12_night, cX12_night, 5, (some .int), 12)) rfl (show aTab 354 22 = some (.ireturn, 1, 0, 0, 0, 0, 0, 0) from rfl) ⟨rfl, rfl⟩) ⟨rfl, rfl⟩
/-! HAND: night here -/
/-- an object's number that is put -/
theorem ob_put {M : mHe} (hM : yTy M) {c ci k : Nat} {fts : List (Nat × Nat × Int × Int)} (ht : tTy c = some (.inr (ci, fts))) {l u : Int} (hk : fts[k]? = some (1, 0, l, u)) {x : Int32} (hx : l ≤ x.toInt ∧ x.toInt ≤ u) : ∃ fs, M[c]? = some (.inr (ci, fs)) ∧ k < fs.length ∧ yTy (M.set c (.inr (ci, fs.set k (.int x)))) ∧ (∀ xs : tXs, yRd xs (M.set c (.inr (ci, fs.set k (.int x)))) c k = some (.int x)) ∧ ∀ (xs : tXs) (c' k' : Nat), ¬ (c' = c ∧ k' = k) → yRd xs (M.set c (.inr (ci, fs.set k (.int x)))) c' k' = yRd xs M c' k' := by
  obtain ⟨fs, hfs, hty⟩ := yTy_obj hM ht
  have hc := tTy_lt ht
  have hkl : k < fs.length := by rw [hty.1]; exact (List.getElem?_eq_some_iff.mp hk).1
  have hlt := (List.getElem?_eq_some_iff.mp hfs).1
  refine ⟨fs, hfs, hkl, yTy_setO hM ht ⟨by rw [List.length_set]; exact hty.1, fun j ft hj => ?_⟩, fun xs => ?_, fun xs c' k' hn => ?_⟩
  · by_cases ej : j = k
    · subst ej
      rw [hk] at hj
      cases hj
      exact ⟨_, List.getElem?_set_self hkl, x, rfl, hx.1, hx.2⟩
    · obtain ⟨v, v1, v2⟩ := hty.2 j ft hj
      exact ⟨v, by rw [List.getElem?_set_ne (fun z => ej z.symm)]; exact v1, v2⟩
  · rw [yRd_obj _ hc (List.getElem?_set_self hlt), List.getElem?_set_self hkl]
  · by_cases h : c' = c
    · subst h
      rw [yRd_obj _ hc (List.getElem?_set_self hlt), yRd_obj _ hc hfs, List.getElem?_set_ne (fun z => hn ⟨rfl, z.symm⟩)]
    · exact yRd_ne h
theorem ob_get {M : mHe} {c ci k : Nat} {fs : List Value} {v : Value} (hc : c < 144) (hfs : M[c]? = some (.inr (ci, fs))) (h : ∀ xs : tXs, yRd xs M c k = some v) : fs[k]? = some v := by
  have := h o00
  rwa [yRd_obj _ hc hfs] at this
theorem ntS_p {F : Nat → Int32} {s : Int32} {k : Nat} (h : ntB s k = 1) : ntS F s k + F k = ntS F s (k + 1) := by
  show _ = ntS F s k + (if ntB s k = 1 then F k else 0)
  rw [if_pos h]
theorem ntS_n {F : Nat → Int32} {s : Int32} {k : Nat} (h : ¬ ntB s k = 1) : ntS F s k + 0 = ntS F s (k + 1) := by
  show _ = ntS F s k + (if ntB s k = 1 then F k else 0)
  rw [if_neg h]
theorem ntRow_at {M : mHe} {c : Nat} {f F : Nat → Int32} (hc : c < 144) (hf : M[c]? = some (.inl (8, f))) (hF : ntRows M c 0 1 F) {k : Nat} (hk : k < 8) : f k = F k := by
  have h := hF k hk o00
  rw [show 0 + 1 * k = k by omega, yRd_arr _ hc hf hk] at h
  exact Value.int.inj (Option.some.inj h)
theorem xsm45_loop (hT : aTabOk) {M : mHe} (hM : yTy M) {S : Nat} (hS : S ≤ 8) (hz : ∀ xs : tXs, yRd xs M 44 0 = some (.int (Int32.ofNat S))) {F : Nat → Int32} (hF : ntRows M 45 0 1 F) {set : Int32} : ∀ (d k : Nat) (lv : List (Nat × Value)), k + d = S → mlg 0 lv = some (.ref 53) → mlg 1 lv = some (.ref 54) → mlg 2 lv = some (.int set) → mlg 3 lv = some (.int (ntS F set k)) → mlg 4 lv = some (.int (Int32.ofNat k)) → mEv none 60 (62, 5, lv, []) M (fun r M' => r = some (.int (ntS F set S)) ∧ M' = M) := by
  obtain ⟨fs, hfs, -⟩ := yTy_obj hM (rfl : tTy 44 = some (.inr (3, _)))
  have hf0 := ob_get (by decide) hfs hz
  obtain ⟨f, hf, -, -⟩ := yTy_arr hM (rfl : tTy 45 = some (.inl (8, 0, [])))
  intro d
  induction d with
  | zero =>
    intro k lv hk h0 h1 h2 h3 h4
    have hk : k = S := by omega
    subst hk
    refine e_then (e_il2 hT (y := 62) (pc := 5) (q := (yX3_sumOf, cX3_sumOf, 5, (some .int), 3)) rfl (show aTab 62 5 = some (.iload 4, 2, 0, 0, 0, 0, 0, 0) from rfl) rfl h4) ?_
    refine e_then (e_al1 hT (y := 62) (pc := 7) (q := (yX3_sumOf, cX3_sumOf, 5, (some .int), 3)) rfl (show aTab 62 7 = some (.aload_n 0, 1, 0, 0, 0, 0, 0, 0) from rfl) rfl h0) ?_
    refine e_then (e_getf hT (y := 62) (pc := 8) (q := (yX3_sumOf, cX3_sumOf, 5, (some .int), 3)) rfl (show aTab 62 8 = some (.getfield 24, 3, 0, 3, 0, 0, 0, 0) from rfl) rfl (by decide) (by decide) hfs hf0) ?_
    refine e_then (e_icT hT (y := 62) (pc := 11) (q := (yX3_sumOf, cX3_sumOf, 5, (some .int), 3)) rfl (show aTab 62 11 = some (.if_icmp .ge 37, 3, 0, 0, 0, 0, 0, 0) from rfl) rfl (t := 48) rfl (cdT (Int.le_refl _))) ?_
    refine e_then (e_il1 hT (y := 62) (pc := 48) (q := (yX3_sumOf, cX3_sumOf, 5, (some .int), 3)) rfl (show aTab 62 48 = some (.iload_n 3, 1, 0, 0, 0, 0, 0, 0) from rfl) rfl h3) ?_
    exact e_fin (e_iret hT (y := 62) (pc := 49) (q := (yX3_sumOf, cX3_sumOf, 5, (some .int), 3)) rfl (show aTab 62 49 = some (.ireturn, 1, 0, 0, 0, 0, 0, 0) from rfl) ⟨rfl, rfl⟩) ⟨rfl, rfl⟩
  | succ d ih =>
    intro k lv hk h0 h1 h2 h3 h4
    have hkn : (Int32.ofNat k).toInt = (k : Int) := i32n (by omega)
    have hSn : (Int32.ofNat S).toInt = (S : Int) := i32n (by omega)
    have h8 : (Int32.ofNat 8).toInt = 8 := rfl
    have hfk : f (Int32.ofNat k).toInt.toNat = F k := by
      rw [hkn, show ((k : Int)).toNat = k by omega]
      exact ntRow_at (by decide) hf hF (by omega)
    by_cases hb : ntB set k = 1
    · refine e_then (e_il2 hT (y := 62) (pc := 5) (q := (yX3_sumOf, cX3_sumOf, 5, (some .int), 3)) rfl (show aTab 62 5 = some (.iload 4, 2, 0, 0, 0, 0, 0, 0) from rfl) rfl h4) ?_
      refine e_then (e_al1 hT (y := 62) (pc := 7) (q := (yX3_sumOf, cX3_sumOf, 5, (some .int), 3)) rfl (show aTab 62 7 = some (.aload_n 0, 1, 0, 0, 0, 0, 0, 0) from rfl) rfl h0) ?_
      refine e_then (e_getf hT (y := 62) (pc := 8) (q := (yX3_sumOf, cX3_sumOf, 5, (some .int), 3)) rfl (show aTab 62 8 = some (.getfield 24, 3, 0, 3, 0, 0, 0, 0) from rfl) rfl (by decide) (by decide) hfs hf0) ?_
      refine e_then (e_icF hT (y := 62) (pc := 11) (q := (yX3_sumOf, cX3_sumOf, 5, (some .int), 3)) rfl (show aTab 62 11 = some (.if_icmp .ge 37, 3, 0, 0, 0, 0, 0, 0) from rfl) rfl (t := 48) rfl (cdF (by show ¬ _ ≤ _; omega))) ?_
      refine e_then (e_il2 hT (y := 62) (pc := 14) (q := (yX3_sumOf, cX3_sumOf, 5, (some .int), 3)) rfl (show aTab 62 14 = some (.iload 4, 2, 0, 0, 0, 0, 0, 0) from rfl) rfl h4) ?_
      refine e_then (e_al1 hT (y := 62) (pc := 16) (q := (yX3_sumOf, cX3_sumOf, 5, (some .int), 3)) rfl (show aTab 62 16 = some (.aload_n 1, 1, 0, 0, 0, 0, 0, 0) from rfl) rfl h1) ?_
      refine e_then (e_lenA hT (y := 62) (pc := 17) (q := (yX3_sumOf, cX3_sumOf, 5, (some .int), 3)) rfl (show aTab 62 17 = some (.arraylength, 1, 0, 0, 0, 0, 0, 0) from rfl) ⟨rfl, by decide⟩ hf) ?_
      refine e_then (e_icF hT (y := 62) (pc := 18) (q := (yX3_sumOf, cX3_sumOf, 5, (some .int), 3)) rfl (show aTab 62 18 = some (.if_icmp .ge 30, 3, 0, 0, 0, 0, 0, 0) from rfl) rfl (t := 48) rfl (cdF (by show ¬ _ ≤ _; omega))) ?_
      refine e_then (e_il1 hT (y := 62) (pc := 21) (q := (yX3_sumOf, cX3_sumOf, 5, (some .int), 3)) rfl (show aTab 62 21 = some (.iload_n 3, 1, 0, 0, 0, 0, 0, 0) from rfl) rfl h3) ?_
      refine e_then (e_il1 hT (y := 62) (pc := 22) (q := (yX3_sumOf, cX3_sumOf, 5, (some .int), 3)) rfl (show aTab 62 22 = some (.iload_n 2, 1, 0, 0, 0, 0, 0, 0) from rfl) rfl h2) ?_
      refine e_then (e_il2 hT (y := 62) (pc := 23) (q := (yX3_sumOf, cX3_sumOf, 5, (some .int), 3)) rfl (show aTab 62 23 = some (.iload 4, 2, 0, 0, 0, 0, 0, 0) from rfl) rfl h4) ?_
      refine e_then (e_st hT (y := 62) (pc := 25) (q := (yX3_sumOf, cX3_sumOf, 5, (some .int), 3)) rfl (show aTab 62 25 = some (.ishr, 1, 0, 0, 0, 0, 0, 0) from rfl) (fr' := (62, 26, lv, [.int (set >>> ((Int32.ofNat k) &&& 31)), .int (ntS F set k)])) (M' := M) rfl) ?_
      refine e_then (e_st hT (y := 62) (pc := 26) (q := (yX3_sumOf, cX3_sumOf, 5, (some .int), 3)) rfl (show aTab 62 26 = some (.iconst 1, 1, 0, 0, 0, 0, 0, 0) from rfl) (fr' := (62, 27, lv, [.int 1, .int (set >>> ((Int32.ofNat k) &&& 31)), .int (ntS F set k)])) (M' := M) rfl) ?_
      refine e_then (e_st hT (y := 62) (pc := 27) (q := (yX3_sumOf, cX3_sumOf, 5, (some .int), 3)) rfl (show aTab 62 27 = some (.iand, 1, 0, 0, 0, 0, 0, 0) from rfl) (fr' := (62, 28, lv, [.int ((set >>> ((Int32.ofNat k) &&& 31)) &&& 1), .int (ntS F set k)])) (M' := M) rfl) ?_
      refine e_then (e_st hT (y := 62) (pc := 28) (q := (yX3_sumOf, cX3_sumOf, 5, (some .int), 3)) rfl (show aTab 62 28 = some (.iconst 1, 1, 0, 0, 0, 0, 0, 0) from rfl) (fr' := (62, 29, lv, [.int 1, .int ((set >>> ((Int32.ofNat k) &&& 31)) &&& 1), .int (ntS F set k)])) (M' := M) rfl) ?_
      refine e_then (e_icF hT (y := 62) (pc := 29) (q := (yX3_sumOf, cX3_sumOf, 5, (some .int), 3)) rfl (show aTab 62 29 = some (.if_icmp .ne 10, 3, 0, 0, 0, 0, 0, 0) from rfl) rfl (t := 39) rfl (cdF (by show ¬ ¬ (ntB set k).toInt = _; rw [hb]; decide))) ?_
      refine e_then (e_al1 hT (y := 62) (pc := 32) (q := (yX3_sumOf, cX3_sumOf, 5, (some .int), 3)) rfl (show aTab 62 32 = some (.aload_n 1, 1, 0, 0, 0, 0, 0, 0) from rfl) rfl h1) ?_
      refine e_then (e_il2 hT (y := 62) (pc := 33) (q := (yX3_sumOf, cX3_sumOf, 5, (some .int), 3)) rfl (show aTab 62 33 = some (.iload 4, 2, 0, 0, 0, 0, 0, 0) from rfl) rfl h4) ?_
      refine e_then (e_ald hT (y := 62) (pc := 35) (q := (yX3_sumOf, cX3_sumOf, 5, (some .int), 3)) rfl (show aTab 62 35 = some (.iaload, 1, 0, 0, 0, 0, 0, 0) from rfl) ⟨rfl, by omega⟩ hf (by omega)) ?_
      refine e_then (e_st hT (y := 62) (pc := 36) (q := (yX3_sumOf, cX3_sumOf, 5, (some .int), 3)) rfl (show aTab 62 36 = some (.goto 4, 3, 0, 0, 0, 0, 0, 0) from rfl) (fr' := (62, 40, lv, [.int (f (Int32.ofNat k).toInt.toNat), .int (ntS F set k)])) (M' := M) rfl) ?_
      refine e_then (e_st hT (y := 62) (pc := 40) (q := (yX3_sumOf, cX3_sumOf, 5, (some .int), 3)) rfl (show aTab 62 40 = some (.iadd, 1, 0, 0, 0, 0, 0, 0) from rfl) (fr' := (62, 41, lv, [.int ((ntS F set k) + (f (Int32.ofNat k).toInt.toNat))])) (M' := M) rfl) ?_
      refine e_then (e_is1 hT (y := 62) (pc := 41) (q := (yX3_sumOf, cX3_sumOf, 5, (some .int), 3)) rfl (show aTab 62 41 = some (.istore_n 3, 1, 0, 0, 0, 0, 0, 0) from rfl) ⟨rfl, by decide⟩) ?_
      refine e_then (e_ii hT (y := 62) (pc := 42) (q := (yX3_sumOf, cX3_sumOf, 5, (some .int), 3)) rfl (show aTab 62 42 = some (.iinc 4 1, 3, 0, 0, 0, 0, 0, 0) from rfl) ⟨rfl, by decide⟩ (mlg_i h4 (by decide))) ?_
      refine e_then (e_st hT (y := 62) (pc := 45) (q := (yX3_sumOf, cX3_sumOf, 5, (some .int), 3)) rfl (show aTab 62 45 = some (.goto (-40), 3, 0, 0, 0, 0, 0, 0) from rfl) (fr' := (62, 5, (mlp 4 (.int ((Int32.ofNat k) + Int32.ofInt 1)) (mlp 3 (.int ((ntS F set k) + (f (Int32.ofNat k).toInt.toNat))) lv)), [])) (M' := M) rfl) ?_
      rw [hfk, ntS_p hb, os1 (by omega)]
      exact ih (k + 1) _ (by omega) (mlg_r (mlg_r h0 (by decide)) (by decide)) (mlg_r (mlg_r h1 (by decide)) (by decide)) (mlg_i (mlg_i h2 (by decide)) (by decide)) (mlg_i (mlg_eq 3 _ _) (by decide)) (mlg_eq 4 _ _)
    · refine e_then (e_il2 hT (y := 62) (pc := 5) (q := (yX3_sumOf, cX3_sumOf, 5, (some .int), 3)) rfl (show aTab 62 5 = some (.iload 4, 2, 0, 0, 0, 0, 0, 0) from rfl) rfl h4) ?_
      refine e_then (e_al1 hT (y := 62) (pc := 7) (q := (yX3_sumOf, cX3_sumOf, 5, (some .int), 3)) rfl (show aTab 62 7 = some (.aload_n 0, 1, 0, 0, 0, 0, 0, 0) from rfl) rfl h0) ?_
      refine e_then (e_getf hT (y := 62) (pc := 8) (q := (yX3_sumOf, cX3_sumOf, 5, (some .int), 3)) rfl (show aTab 62 8 = some (.getfield 24, 3, 0, 3, 0, 0, 0, 0) from rfl) rfl (by decide) (by decide) hfs hf0) ?_
      refine e_then (e_icF hT (y := 62) (pc := 11) (q := (yX3_sumOf, cX3_sumOf, 5, (some .int), 3)) rfl (show aTab 62 11 = some (.if_icmp .ge 37, 3, 0, 0, 0, 0, 0, 0) from rfl) rfl (t := 48) rfl (cdF (by show ¬ _ ≤ _; omega))) ?_
      refine e_then (e_il2 hT (y := 62) (pc := 14) (q := (yX3_sumOf, cX3_sumOf, 5, (some .int), 3)) rfl (show aTab 62 14 = some (.iload 4, 2, 0, 0, 0, 0, 0, 0) from rfl) rfl h4) ?_
      refine e_then (e_al1 hT (y := 62) (pc := 16) (q := (yX3_sumOf, cX3_sumOf, 5, (some .int), 3)) rfl (show aTab 62 16 = some (.aload_n 1, 1, 0, 0, 0, 0, 0, 0) from rfl) rfl h1) ?_
      refine e_then (e_lenA hT (y := 62) (pc := 17) (q := (yX3_sumOf, cX3_sumOf, 5, (some .int), 3)) rfl (show aTab 62 17 = some (.arraylength, 1, 0, 0, 0, 0, 0, 0) from rfl) ⟨rfl, by decide⟩ hf) ?_
      refine e_then (e_icF hT (y := 62) (pc := 18) (q := (yX3_sumOf, cX3_sumOf, 5, (some .int), 3)) rfl (show aTab 62 18 = some (.if_icmp .ge 30, 3, 0, 0, 0, 0, 0, 0) from rfl) rfl (t := 48) rfl (cdF (by show ¬ _ ≤ _; omega))) ?_
      refine e_then (e_il1 hT (y := 62) (pc := 21) (q := (yX3_sumOf, cX3_sumOf, 5, (some .int), 3)) rfl (show aTab 62 21 = some (.iload_n 3, 1, 0, 0, 0, 0, 0, 0) from rfl) rfl h3) ?_
      refine e_then (e_il1 hT (y := 62) (pc := 22) (q := (yX3_sumOf, cX3_sumOf, 5, (some .int), 3)) rfl (show aTab 62 22 = some (.iload_n 2, 1, 0, 0, 0, 0, 0, 0) from rfl) rfl h2) ?_
      refine e_then (e_il2 hT (y := 62) (pc := 23) (q := (yX3_sumOf, cX3_sumOf, 5, (some .int), 3)) rfl (show aTab 62 23 = some (.iload 4, 2, 0, 0, 0, 0, 0, 0) from rfl) rfl h4) ?_
      refine e_then (e_st hT (y := 62) (pc := 25) (q := (yX3_sumOf, cX3_sumOf, 5, (some .int), 3)) rfl (show aTab 62 25 = some (.ishr, 1, 0, 0, 0, 0, 0, 0) from rfl) (fr' := (62, 26, lv, [.int (set >>> ((Int32.ofNat k) &&& 31)), .int (ntS F set k)])) (M' := M) rfl) ?_
      refine e_then (e_st hT (y := 62) (pc := 26) (q := (yX3_sumOf, cX3_sumOf, 5, (some .int), 3)) rfl (show aTab 62 26 = some (.iconst 1, 1, 0, 0, 0, 0, 0, 0) from rfl) (fr' := (62, 27, lv, [.int 1, .int (set >>> ((Int32.ofNat k) &&& 31)), .int (ntS F set k)])) (M' := M) rfl) ?_
      refine e_then (e_st hT (y := 62) (pc := 27) (q := (yX3_sumOf, cX3_sumOf, 5, (some .int), 3)) rfl (show aTab 62 27 = some (.iand, 1, 0, 0, 0, 0, 0, 0) from rfl) (fr' := (62, 28, lv, [.int ((set >>> ((Int32.ofNat k) &&& 31)) &&& 1), .int (ntS F set k)])) (M' := M) rfl) ?_
      refine e_then (e_st hT (y := 62) (pc := 28) (q := (yX3_sumOf, cX3_sumOf, 5, (some .int), 3)) rfl (show aTab 62 28 = some (.iconst 1, 1, 0, 0, 0, 0, 0, 0) from rfl) (fr' := (62, 29, lv, [.int 1, .int ((set >>> ((Int32.ofNat k) &&& 31)) &&& 1), .int (ntS F set k)])) (M' := M) rfl) ?_
      refine e_then (e_icT hT (y := 62) (pc := 29) (q := (yX3_sumOf, cX3_sumOf, 5, (some .int), 3)) rfl (show aTab 62 29 = some (.if_icmp .ne 10, 3, 0, 0, 0, 0, 0, 0) from rfl) rfl (t := 39) rfl (cdT (by show ¬ (ntB set k).toInt = _; exact fun z => hb (Int32.toInt_inj.mp z)))) ?_
      refine e_then (e_st hT (y := 62) (pc := 39) (q := (yX3_sumOf, cX3_sumOf, 5, (some .int), 3)) rfl (show aTab 62 39 = some (.iconst 0, 1, 0, 0, 0, 0, 0, 0) from rfl) (fr' := (62, 40, lv, [.int 0, .int (ntS F set k)])) (M' := M) rfl) ?_
      refine e_then (e_st hT (y := 62) (pc := 40) (q := (yX3_sumOf, cX3_sumOf, 5, (some .int), 3)) rfl (show aTab 62 40 = some (.iadd, 1, 0, 0, 0, 0, 0, 0) from rfl) (fr' := (62, 41, lv, [.int ((ntS F set k) + 0)])) (M' := M) rfl) ?_
      refine e_then (e_is1 hT (y := 62) (pc := 41) (q := (yX3_sumOf, cX3_sumOf, 5, (some .int), 3)) rfl (show aTab 62 41 = some (.istore_n 3, 1, 0, 0, 0, 0, 0, 0) from rfl) ⟨rfl, by decide⟩) ?_
      refine e_then (e_ii hT (y := 62) (pc := 42) (q := (yX3_sumOf, cX3_sumOf, 5, (some .int), 3)) rfl (show aTab 62 42 = some (.iinc 4 1, 3, 0, 0, 0, 0, 0, 0) from rfl) ⟨rfl, by decide⟩ (mlg_i h4 (by decide))) ?_
      refine e_then (e_st hT (y := 62) (pc := 45) (q := (yX3_sumOf, cX3_sumOf, 5, (some .int), 3)) rfl (show aTab 62 45 = some (.goto (-40), 3, 0, 0, 0, 0, 0, 0) from rfl) (fr' := (62, 5, (mlp 4 (.int ((Int32.ofNat k) + Int32.ofInt 1)) (mlp 3 (.int ((ntS F set k) + 0)) lv)), [])) (M' := M) rfl) ?_
      rw [ntS_n hb, os1 (by omega)]
      exact ih (k + 1) _ (by omega) (mlg_r (mlg_r h0 (by decide)) (by decide)) (mlg_r (mlg_r h1 (by decide)) (by decide)) (mlg_i (mlg_i h2 (by decide)) (by decide)) (mlg_i (mlg_eq 3 _ _) (by decide)) (mlg_eq 4 _ _)
theorem xsm45_run (hT : aTabOk) {M : mHe} (hM : yTy M) {S : Nat} (hS : S ≤ 8) (hz : ∀ xs : tXs, yRd xs M 44 0 = some (.int (Int32.ofNat S))) {F : Nat → Int32} (hF : ntRows M 45 0 1 F) {set : Int32} {d : Nat} (hd : 60 ≤ d) : ∃ K, mRun none K d (62, 0, lv_args 0 [.ref 53, .ref 54, .int set], []) M = some (some (.int (ntS F set S)), M) := by
  have go : mEv none 60 (62, 0, lv_args 0 [.ref 53, .ref 54, .int set], []) M (fun r M' => r = some (.int (ntS F set S)) ∧ M' = M) := by
    refine e_then (e_st hT (y := 62) (pc := 0) (q := (yX3_sumOf, cX3_sumOf, 5, (some .int), 3)) rfl (show aTab 62 0 = some (.iconst 0, 1, 0, 0, 0, 0, 0, 0) from rfl) (fr' := (62, 1, (lv_args 0 [.ref 53, .ref 54, .int set]), [.int 0])) (M' := M) rfl) ?_
    refine e_then (e_is1 hT (y := 62) (pc := 1) (q := (yX3_sumOf, cX3_sumOf, 5, (some .int), 3)) rfl (show aTab 62 1 = some (.istore_n 3, 1, 0, 0, 0, 0, 0, 0) from rfl) ⟨rfl, by decide⟩) ?_
    refine e_then (e_st hT (y := 62) (pc := 2) (q := (yX3_sumOf, cX3_sumOf, 5, (some .int), 3)) rfl (show aTab 62 2 = some (.iconst 0, 1, 0, 0, 0, 0, 0, 0) from rfl) (fr' := (62, 3, (mlp 3 (.int 0) (lv_args 0 [.ref 53, .ref 54, .int set])), [.int 0])) (M' := M) rfl) ?_
    refine e_then (e_is2 hT (y := 62) (pc := 3) (q := (yX3_sumOf, cX3_sumOf, 5, (some .int), 3)) rfl (show aTab 62 3 = some (.istore 4, 2, 0, 0, 0, 0, 0, 0) from rfl) ⟨rfl, by decide⟩) ?_
    exact xsm45_loop hT hM hS hz hF S 0 _ (by omega) (mlg_r (mlg_r rfl (by decide)) (by decide)) (mlg_r (mlg_r rfl (by decide)) (by decide)) (mlg_i (mlg_i rfl (by decide)) (by decide)) (mlg_i (mlg_eq 3 _ _) (by decide)) (mlg_eq 4 _ _)
  obtain ⟨K, r, M', q1, rfl, rfl⟩ := go
  exact ⟨K, mRun_dm q1 hd⟩
theorem xsm46_loop (hT : aTabOk) {M : mHe} (hM : yTy M) {S : Nat} (hS : S ≤ 8) (hz : ∀ xs : tXs, yRd xs M 44 0 = some (.int (Int32.ofNat S))) {F : Nat → Int32} (hF : ntRows M 46 0 1 F) {set : Int32} : ∀ (d k : Nat) (lv : List (Nat × Value)), k + d = S → mlg 0 lv = some (.ref 53) → mlg 1 lv = some (.ref 55) → mlg 2 lv = some (.int set) → mlg 3 lv = some (.int (ntS F set k)) → mlg 4 lv = some (.int (Int32.ofNat k)) → mEv none 60 (62, 5, lv, []) M (fun r M' => r = some (.int (ntS F set S)) ∧ M' = M) := by
  obtain ⟨fs, hfs, -⟩ := yTy_obj hM (rfl : tTy 44 = some (.inr (3, _)))
  have hf0 := ob_get (by decide) hfs hz
  obtain ⟨f, hf, -, -⟩ := yTy_arr hM (rfl : tTy 46 = some (.inl (8, 0, [])))
  intro d
  induction d with
  | zero =>
    intro k lv hk h0 h1 h2 h3 h4
    have hk : k = S := by omega
    subst hk
    refine e_then (e_il2 hT (y := 62) (pc := 5) (q := (yX3_sumOf, cX3_sumOf, 5, (some .int), 3)) rfl (show aTab 62 5 = some (.iload 4, 2, 0, 0, 0, 0, 0, 0) from rfl) rfl h4) ?_
    refine e_then (e_al1 hT (y := 62) (pc := 7) (q := (yX3_sumOf, cX3_sumOf, 5, (some .int), 3)) rfl (show aTab 62 7 = some (.aload_n 0, 1, 0, 0, 0, 0, 0, 0) from rfl) rfl h0) ?_
    refine e_then (e_getf hT (y := 62) (pc := 8) (q := (yX3_sumOf, cX3_sumOf, 5, (some .int), 3)) rfl (show aTab 62 8 = some (.getfield 24, 3, 0, 3, 0, 0, 0, 0) from rfl) rfl (by decide) (by decide) hfs hf0) ?_
    refine e_then (e_icT hT (y := 62) (pc := 11) (q := (yX3_sumOf, cX3_sumOf, 5, (some .int), 3)) rfl (show aTab 62 11 = some (.if_icmp .ge 37, 3, 0, 0, 0, 0, 0, 0) from rfl) rfl (t := 48) rfl (cdT (Int.le_refl _))) ?_
    refine e_then (e_il1 hT (y := 62) (pc := 48) (q := (yX3_sumOf, cX3_sumOf, 5, (some .int), 3)) rfl (show aTab 62 48 = some (.iload_n 3, 1, 0, 0, 0, 0, 0, 0) from rfl) rfl h3) ?_
    exact e_fin (e_iret hT (y := 62) (pc := 49) (q := (yX3_sumOf, cX3_sumOf, 5, (some .int), 3)) rfl (show aTab 62 49 = some (.ireturn, 1, 0, 0, 0, 0, 0, 0) from rfl) ⟨rfl, rfl⟩) ⟨rfl, rfl⟩
  | succ d ih =>
    intro k lv hk h0 h1 h2 h3 h4
    have hkn : (Int32.ofNat k).toInt = (k : Int) := i32n (by omega)
    have hSn : (Int32.ofNat S).toInt = (S : Int) := i32n (by omega)
    have h8 : (Int32.ofNat 8).toInt = 8 := rfl
    have hfk : f (Int32.ofNat k).toInt.toNat = F k := by
      rw [hkn, show ((k : Int)).toNat = k by omega]
      exact ntRow_at (by decide) hf hF (by omega)
    by_cases hb : ntB set k = 1
    · refine e_then (e_il2 hT (y := 62) (pc := 5) (q := (yX3_sumOf, cX3_sumOf, 5, (some .int), 3)) rfl (show aTab 62 5 = some (.iload 4, 2, 0, 0, 0, 0, 0, 0) from rfl) rfl h4) ?_
      refine e_then (e_al1 hT (y := 62) (pc := 7) (q := (yX3_sumOf, cX3_sumOf, 5, (some .int), 3)) rfl (show aTab 62 7 = some (.aload_n 0, 1, 0, 0, 0, 0, 0, 0) from rfl) rfl h0) ?_
      refine e_then (e_getf hT (y := 62) (pc := 8) (q := (yX3_sumOf, cX3_sumOf, 5, (some .int), 3)) rfl (show aTab 62 8 = some (.getfield 24, 3, 0, 3, 0, 0, 0, 0) from rfl) rfl (by decide) (by decide) hfs hf0) ?_
      refine e_then (e_icF hT (y := 62) (pc := 11) (q := (yX3_sumOf, cX3_sumOf, 5, (some .int), 3)) rfl (show aTab 62 11 = some (.if_icmp .ge 37, 3, 0, 0, 0, 0, 0, 0) from rfl) rfl (t := 48) rfl (cdF (by show ¬ _ ≤ _; omega))) ?_
      refine e_then (e_il2 hT (y := 62) (pc := 14) (q := (yX3_sumOf, cX3_sumOf, 5, (some .int), 3)) rfl (show aTab 62 14 = some (.iload 4, 2, 0, 0, 0, 0, 0, 0) from rfl) rfl h4) ?_
      refine e_then (e_al1 hT (y := 62) (pc := 16) (q := (yX3_sumOf, cX3_sumOf, 5, (some .int), 3)) rfl (show aTab 62 16 = some (.aload_n 1, 1, 0, 0, 0, 0, 0, 0) from rfl) rfl h1) ?_
      refine e_then (e_lenA hT (y := 62) (pc := 17) (q := (yX3_sumOf, cX3_sumOf, 5, (some .int), 3)) rfl (show aTab 62 17 = some (.arraylength, 1, 0, 0, 0, 0, 0, 0) from rfl) ⟨rfl, by decide⟩ hf) ?_
      refine e_then (e_icF hT (y := 62) (pc := 18) (q := (yX3_sumOf, cX3_sumOf, 5, (some .int), 3)) rfl (show aTab 62 18 = some (.if_icmp .ge 30, 3, 0, 0, 0, 0, 0, 0) from rfl) rfl (t := 48) rfl (cdF (by show ¬ _ ≤ _; omega))) ?_
      refine e_then (e_il1 hT (y := 62) (pc := 21) (q := (yX3_sumOf, cX3_sumOf, 5, (some .int), 3)) rfl (show aTab 62 21 = some (.iload_n 3, 1, 0, 0, 0, 0, 0, 0) from rfl) rfl h3) ?_
      refine e_then (e_il1 hT (y := 62) (pc := 22) (q := (yX3_sumOf, cX3_sumOf, 5, (some .int), 3)) rfl (show aTab 62 22 = some (.iload_n 2, 1, 0, 0, 0, 0, 0, 0) from rfl) rfl h2) ?_
      refine e_then (e_il2 hT (y := 62) (pc := 23) (q := (yX3_sumOf, cX3_sumOf, 5, (some .int), 3)) rfl (show aTab 62 23 = some (.iload 4, 2, 0, 0, 0, 0, 0, 0) from rfl) rfl h4) ?_
      refine e_then (e_st hT (y := 62) (pc := 25) (q := (yX3_sumOf, cX3_sumOf, 5, (some .int), 3)) rfl (show aTab 62 25 = some (.ishr, 1, 0, 0, 0, 0, 0, 0) from rfl) (fr' := (62, 26, lv, [.int (set >>> ((Int32.ofNat k) &&& 31)), .int (ntS F set k)])) (M' := M) rfl) ?_
      refine e_then (e_st hT (y := 62) (pc := 26) (q := (yX3_sumOf, cX3_sumOf, 5, (some .int), 3)) rfl (show aTab 62 26 = some (.iconst 1, 1, 0, 0, 0, 0, 0, 0) from rfl) (fr' := (62, 27, lv, [.int 1, .int (set >>> ((Int32.ofNat k) &&& 31)), .int (ntS F set k)])) (M' := M) rfl) ?_
      refine e_then (e_st hT (y := 62) (pc := 27) (q := (yX3_sumOf, cX3_sumOf, 5, (some .int), 3)) rfl (show aTab 62 27 = some (.iand, 1, 0, 0, 0, 0, 0, 0) from rfl) (fr' := (62, 28, lv, [.int ((set >>> ((Int32.ofNat k) &&& 31)) &&& 1), .int (ntS F set k)])) (M' := M) rfl) ?_
      refine e_then (e_st hT (y := 62) (pc := 28) (q := (yX3_sumOf, cX3_sumOf, 5, (some .int), 3)) rfl (show aTab 62 28 = some (.iconst 1, 1, 0, 0, 0, 0, 0, 0) from rfl) (fr' := (62, 29, lv, [.int 1, .int ((set >>> ((Int32.ofNat k) &&& 31)) &&& 1), .int (ntS F set k)])) (M' := M) rfl) ?_
      refine e_then (e_icF hT (y := 62) (pc := 29) (q := (yX3_sumOf, cX3_sumOf, 5, (some .int), 3)) rfl (show aTab 62 29 = some (.if_icmp .ne 10, 3, 0, 0, 0, 0, 0, 0) from rfl) rfl (t := 39) rfl (cdF (by show ¬ ¬ (ntB set k).toInt = _; rw [hb]; decide))) ?_
      refine e_then (e_al1 hT (y := 62) (pc := 32) (q := (yX3_sumOf, cX3_sumOf, 5, (some .int), 3)) rfl (show aTab 62 32 = some (.aload_n 1, 1, 0, 0, 0, 0, 0, 0) from rfl) rfl h1) ?_
      refine e_then (e_il2 hT (y := 62) (pc := 33) (q := (yX3_sumOf, cX3_sumOf, 5, (some .int), 3)) rfl (show aTab 62 33 = some (.iload 4, 2, 0, 0, 0, 0, 0, 0) from rfl) rfl h4) ?_
      refine e_then (e_ald hT (y := 62) (pc := 35) (q := (yX3_sumOf, cX3_sumOf, 5, (some .int), 3)) rfl (show aTab 62 35 = some (.iaload, 1, 0, 0, 0, 0, 0, 0) from rfl) ⟨rfl, by omega⟩ hf (by omega)) ?_
      refine e_then (e_st hT (y := 62) (pc := 36) (q := (yX3_sumOf, cX3_sumOf, 5, (some .int), 3)) rfl (show aTab 62 36 = some (.goto 4, 3, 0, 0, 0, 0, 0, 0) from rfl) (fr' := (62, 40, lv, [.int (f (Int32.ofNat k).toInt.toNat), .int (ntS F set k)])) (M' := M) rfl) ?_
      refine e_then (e_st hT (y := 62) (pc := 40) (q := (yX3_sumOf, cX3_sumOf, 5, (some .int), 3)) rfl (show aTab 62 40 = some (.iadd, 1, 0, 0, 0, 0, 0, 0) from rfl) (fr' := (62, 41, lv, [.int ((ntS F set k) + (f (Int32.ofNat k).toInt.toNat))])) (M' := M) rfl) ?_
      refine e_then (e_is1 hT (y := 62) (pc := 41) (q := (yX3_sumOf, cX3_sumOf, 5, (some .int), 3)) rfl (show aTab 62 41 = some (.istore_n 3, 1, 0, 0, 0, 0, 0, 0) from rfl) ⟨rfl, by decide⟩) ?_
      refine e_then (e_ii hT (y := 62) (pc := 42) (q := (yX3_sumOf, cX3_sumOf, 5, (some .int), 3)) rfl (show aTab 62 42 = some (.iinc 4 1, 3, 0, 0, 0, 0, 0, 0) from rfl) ⟨rfl, by decide⟩ (mlg_i h4 (by decide))) ?_
      refine e_then (e_st hT (y := 62) (pc := 45) (q := (yX3_sumOf, cX3_sumOf, 5, (some .int), 3)) rfl (show aTab 62 45 = some (.goto (-40), 3, 0, 0, 0, 0, 0, 0) from rfl) (fr' := (62, 5, (mlp 4 (.int ((Int32.ofNat k) + Int32.ofInt 1)) (mlp 3 (.int ((ntS F set k) + (f (Int32.ofNat k).toInt.toNat))) lv)), [])) (M' := M) rfl) ?_
      rw [hfk, ntS_p hb, os1 (by omega)]
      exact ih (k + 1) _ (by omega) (mlg_r (mlg_r h0 (by decide)) (by decide)) (mlg_r (mlg_r h1 (by decide)) (by decide)) (mlg_i (mlg_i h2 (by decide)) (by decide)) (mlg_i (mlg_eq 3 _ _) (by decide)) (mlg_eq 4 _ _)
    · refine e_then (e_il2 hT (y := 62) (pc := 5) (q := (yX3_sumOf, cX3_sumOf, 5, (some .int), 3)) rfl (show aTab 62 5 = some (.iload 4, 2, 0, 0, 0, 0, 0, 0) from rfl) rfl h4) ?_
      refine e_then (e_al1 hT (y := 62) (pc := 7) (q := (yX3_sumOf, cX3_sumOf, 5, (some .int), 3)) rfl (show aTab 62 7 = some (.aload_n 0, 1, 0, 0, 0, 0, 0, 0) from rfl) rfl h0) ?_
      refine e_then (e_getf hT (y := 62) (pc := 8) (q := (yX3_sumOf, cX3_sumOf, 5, (some .int), 3)) rfl (show aTab 62 8 = some (.getfield 24, 3, 0, 3, 0, 0, 0, 0) from rfl) rfl (by decide) (by decide) hfs hf0) ?_
      refine e_then (e_icF hT (y := 62) (pc := 11) (q := (yX3_sumOf, cX3_sumOf, 5, (some .int), 3)) rfl (show aTab 62 11 = some (.if_icmp .ge 37, 3, 0, 0, 0, 0, 0, 0) from rfl) rfl (t := 48) rfl (cdF (by show ¬ _ ≤ _; omega))) ?_
      refine e_then (e_il2 hT (y := 62) (pc := 14) (q := (yX3_sumOf, cX3_sumOf, 5, (some .int), 3)) rfl (show aTab 62 14 = some (.iload 4, 2, 0, 0, 0, 0, 0, 0) from rfl) rfl h4) ?_
      refine e_then (e_al1 hT (y := 62) (pc := 16) (q := (yX3_sumOf, cX3_sumOf, 5, (some .int), 3)) rfl (show aTab 62 16 = some (.aload_n 1, 1, 0, 0, 0, 0, 0, 0) from rfl) rfl h1) ?_
      refine e_then (e_lenA hT (y := 62) (pc := 17) (q := (yX3_sumOf, cX3_sumOf, 5, (some .int), 3)) rfl (show aTab 62 17 = some (.arraylength, 1, 0, 0, 0, 0, 0, 0) from rfl) ⟨rfl, by decide⟩ hf) ?_
      refine e_then (e_icF hT (y := 62) (pc := 18) (q := (yX3_sumOf, cX3_sumOf, 5, (some .int), 3)) rfl (show aTab 62 18 = some (.if_icmp .ge 30, 3, 0, 0, 0, 0, 0, 0) from rfl) rfl (t := 48) rfl (cdF (by show ¬ _ ≤ _; omega))) ?_
      refine e_then (e_il1 hT (y := 62) (pc := 21) (q := (yX3_sumOf, cX3_sumOf, 5, (some .int), 3)) rfl (show aTab 62 21 = some (.iload_n 3, 1, 0, 0, 0, 0, 0, 0) from rfl) rfl h3) ?_
      refine e_then (e_il1 hT (y := 62) (pc := 22) (q := (yX3_sumOf, cX3_sumOf, 5, (some .int), 3)) rfl (show aTab 62 22 = some (.iload_n 2, 1, 0, 0, 0, 0, 0, 0) from rfl) rfl h2) ?_
      refine e_then (e_il2 hT (y := 62) (pc := 23) (q := (yX3_sumOf, cX3_sumOf, 5, (some .int), 3)) rfl (show aTab 62 23 = some (.iload 4, 2, 0, 0, 0, 0, 0, 0) from rfl) rfl h4) ?_
      refine e_then (e_st hT (y := 62) (pc := 25) (q := (yX3_sumOf, cX3_sumOf, 5, (some .int), 3)) rfl (show aTab 62 25 = some (.ishr, 1, 0, 0, 0, 0, 0, 0) from rfl) (fr' := (62, 26, lv, [.int (set >>> ((Int32.ofNat k) &&& 31)), .int (ntS F set k)])) (M' := M) rfl) ?_
      refine e_then (e_st hT (y := 62) (pc := 26) (q := (yX3_sumOf, cX3_sumOf, 5, (some .int), 3)) rfl (show aTab 62 26 = some (.iconst 1, 1, 0, 0, 0, 0, 0, 0) from rfl) (fr' := (62, 27, lv, [.int 1, .int (set >>> ((Int32.ofNat k) &&& 31)), .int (ntS F set k)])) (M' := M) rfl) ?_
      refine e_then (e_st hT (y := 62) (pc := 27) (q := (yX3_sumOf, cX3_sumOf, 5, (some .int), 3)) rfl (show aTab 62 27 = some (.iand, 1, 0, 0, 0, 0, 0, 0) from rfl) (fr' := (62, 28, lv, [.int ((set >>> ((Int32.ofNat k) &&& 31)) &&& 1), .int (ntS F set k)])) (M' := M) rfl) ?_
      refine e_then (e_st hT (y := 62) (pc := 28) (q := (yX3_sumOf, cX3_sumOf, 5, (some .int), 3)) rfl (show aTab 62 28 = some (.iconst 1, 1, 0, 0, 0, 0, 0, 0) from rfl) (fr' := (62, 29, lv, [.int 1, .int ((set >>> ((Int32.ofNat k) &&& 31)) &&& 1), .int (ntS F set k)])) (M' := M) rfl) ?_
      refine e_then (e_icT hT (y := 62) (pc := 29) (q := (yX3_sumOf, cX3_sumOf, 5, (some .int), 3)) rfl (show aTab 62 29 = some (.if_icmp .ne 10, 3, 0, 0, 0, 0, 0, 0) from rfl) rfl (t := 39) rfl (cdT (by show ¬ (ntB set k).toInt = _; exact fun z => hb (Int32.toInt_inj.mp z)))) ?_
      refine e_then (e_st hT (y := 62) (pc := 39) (q := (yX3_sumOf, cX3_sumOf, 5, (some .int), 3)) rfl (show aTab 62 39 = some (.iconst 0, 1, 0, 0, 0, 0, 0, 0) from rfl) (fr' := (62, 40, lv, [.int 0, .int (ntS F set k)])) (M' := M) rfl) ?_
      refine e_then (e_st hT (y := 62) (pc := 40) (q := (yX3_sumOf, cX3_sumOf, 5, (some .int), 3)) rfl (show aTab 62 40 = some (.iadd, 1, 0, 0, 0, 0, 0, 0) from rfl) (fr' := (62, 41, lv, [.int ((ntS F set k) + 0)])) (M' := M) rfl) ?_
      refine e_then (e_is1 hT (y := 62) (pc := 41) (q := (yX3_sumOf, cX3_sumOf, 5, (some .int), 3)) rfl (show aTab 62 41 = some (.istore_n 3, 1, 0, 0, 0, 0, 0, 0) from rfl) ⟨rfl, by decide⟩) ?_
      refine e_then (e_ii hT (y := 62) (pc := 42) (q := (yX3_sumOf, cX3_sumOf, 5, (some .int), 3)) rfl (show aTab 62 42 = some (.iinc 4 1, 3, 0, 0, 0, 0, 0, 0) from rfl) ⟨rfl, by decide⟩ (mlg_i h4 (by decide))) ?_
      refine e_then (e_st hT (y := 62) (pc := 45) (q := (yX3_sumOf, cX3_sumOf, 5, (some .int), 3)) rfl (show aTab 62 45 = some (.goto (-40), 3, 0, 0, 0, 0, 0, 0) from rfl) (fr' := (62, 5, (mlp 4 (.int ((Int32.ofNat k) + Int32.ofInt 1)) (mlp 3 (.int ((ntS F set k) + 0)) lv)), [])) (M' := M) rfl) ?_
      rw [ntS_n hb, os1 (by omega)]
      exact ih (k + 1) _ (by omega) (mlg_r (mlg_r h0 (by decide)) (by decide)) (mlg_r (mlg_r h1 (by decide)) (by decide)) (mlg_i (mlg_i h2 (by decide)) (by decide)) (mlg_i (mlg_eq 3 _ _) (by decide)) (mlg_eq 4 _ _)
theorem xsm46_run (hT : aTabOk) {M : mHe} (hM : yTy M) {S : Nat} (hS : S ≤ 8) (hz : ∀ xs : tXs, yRd xs M 44 0 = some (.int (Int32.ofNat S))) {F : Nat → Int32} (hF : ntRows M 46 0 1 F) {set : Int32} {d : Nat} (hd : 60 ≤ d) : ∃ K, mRun none K d (62, 0, lv_args 0 [.ref 53, .ref 55, .int set], []) M = some (some (.int (ntS F set S)), M) := by
  have go : mEv none 60 (62, 0, lv_args 0 [.ref 53, .ref 55, .int set], []) M (fun r M' => r = some (.int (ntS F set S)) ∧ M' = M) := by
    refine e_then (e_st hT (y := 62) (pc := 0) (q := (yX3_sumOf, cX3_sumOf, 5, (some .int), 3)) rfl (show aTab 62 0 = some (.iconst 0, 1, 0, 0, 0, 0, 0, 0) from rfl) (fr' := (62, 1, (lv_args 0 [.ref 53, .ref 55, .int set]), [.int 0])) (M' := M) rfl) ?_
    refine e_then (e_is1 hT (y := 62) (pc := 1) (q := (yX3_sumOf, cX3_sumOf, 5, (some .int), 3)) rfl (show aTab 62 1 = some (.istore_n 3, 1, 0, 0, 0, 0, 0, 0) from rfl) ⟨rfl, by decide⟩) ?_
    refine e_then (e_st hT (y := 62) (pc := 2) (q := (yX3_sumOf, cX3_sumOf, 5, (some .int), 3)) rfl (show aTab 62 2 = some (.iconst 0, 1, 0, 0, 0, 0, 0, 0) from rfl) (fr' := (62, 3, (mlp 3 (.int 0) (lv_args 0 [.ref 53, .ref 55, .int set])), [.int 0])) (M' := M) rfl) ?_
    refine e_then (e_is2 hT (y := 62) (pc := 3) (q := (yX3_sumOf, cX3_sumOf, 5, (some .int), 3)) rfl (show aTab 62 3 = some (.istore 4, 2, 0, 0, 0, 0, 0, 0) from rfl) ⟨rfl, by decide⟩) ?_
    exact xsm46_loop hT hM hS hz hF S 0 _ (by omega) (mlg_r (mlg_r rfl (by decide)) (by decide)) (mlg_r (mlg_r rfl (by decide)) (by decide)) (mlg_i (mlg_i rfl (by decide)) (by decide)) (mlg_i (mlg_eq 3 _ _) (by decide)) (mlg_eq 4 _ _)
  obtain ⟨K, r, M', q1, rfl, rfl⟩ := go
  exact ⟨K, mRun_dm q1 hd⟩
theorem xsm47_loop (hT : aTabOk) {M : mHe} (hM : yTy M) {S : Nat} (hS : S ≤ 8) (hz : ∀ xs : tXs, yRd xs M 44 0 = some (.int (Int32.ofNat S))) {F : Nat → Int32} (hF : ntRows M 47 0 1 F) {set : Int32} : ∀ (d k : Nat) (lv : List (Nat × Value)), k + d = S → mlg 0 lv = some (.ref 53) → mlg 1 lv = some (.ref 56) → mlg 2 lv = some (.int set) → mlg 3 lv = some (.int (ntS F set k)) → mlg 4 lv = some (.int (Int32.ofNat k)) → mEv none 60 (62, 5, lv, []) M (fun r M' => r = some (.int (ntS F set S)) ∧ M' = M) := by
  obtain ⟨fs, hfs, -⟩ := yTy_obj hM (rfl : tTy 44 = some (.inr (3, _)))
  have hf0 := ob_get (by decide) hfs hz
  obtain ⟨f, hf, -, -⟩ := yTy_arr hM (rfl : tTy 47 = some (.inl (8, 0, [])))
  intro d
  induction d with
  | zero =>
    intro k lv hk h0 h1 h2 h3 h4
    have hk : k = S := by omega
    subst hk
    refine e_then (e_il2 hT (y := 62) (pc := 5) (q := (yX3_sumOf, cX3_sumOf, 5, (some .int), 3)) rfl (show aTab 62 5 = some (.iload 4, 2, 0, 0, 0, 0, 0, 0) from rfl) rfl h4) ?_
    refine e_then (e_al1 hT (y := 62) (pc := 7) (q := (yX3_sumOf, cX3_sumOf, 5, (some .int), 3)) rfl (show aTab 62 7 = some (.aload_n 0, 1, 0, 0, 0, 0, 0, 0) from rfl) rfl h0) ?_
    refine e_then (e_getf hT (y := 62) (pc := 8) (q := (yX3_sumOf, cX3_sumOf, 5, (some .int), 3)) rfl (show aTab 62 8 = some (.getfield 24, 3, 0, 3, 0, 0, 0, 0) from rfl) rfl (by decide) (by decide) hfs hf0) ?_
    refine e_then (e_icT hT (y := 62) (pc := 11) (q := (yX3_sumOf, cX3_sumOf, 5, (some .int), 3)) rfl (show aTab 62 11 = some (.if_icmp .ge 37, 3, 0, 0, 0, 0, 0, 0) from rfl) rfl (t := 48) rfl (cdT (Int.le_refl _))) ?_
    refine e_then (e_il1 hT (y := 62) (pc := 48) (q := (yX3_sumOf, cX3_sumOf, 5, (some .int), 3)) rfl (show aTab 62 48 = some (.iload_n 3, 1, 0, 0, 0, 0, 0, 0) from rfl) rfl h3) ?_
    exact e_fin (e_iret hT (y := 62) (pc := 49) (q := (yX3_sumOf, cX3_sumOf, 5, (some .int), 3)) rfl (show aTab 62 49 = some (.ireturn, 1, 0, 0, 0, 0, 0, 0) from rfl) ⟨rfl, rfl⟩) ⟨rfl, rfl⟩
  | succ d ih =>
    intro k lv hk h0 h1 h2 h3 h4
    have hkn : (Int32.ofNat k).toInt = (k : Int) := i32n (by omega)
    have hSn : (Int32.ofNat S).toInt = (S : Int) := i32n (by omega)
    have h8 : (Int32.ofNat 8).toInt = 8 := rfl
    have hfk : f (Int32.ofNat k).toInt.toNat = F k := by
      rw [hkn, show ((k : Int)).toNat = k by omega]
      exact ntRow_at (by decide) hf hF (by omega)
    by_cases hb : ntB set k = 1
    · refine e_then (e_il2 hT (y := 62) (pc := 5) (q := (yX3_sumOf, cX3_sumOf, 5, (some .int), 3)) rfl (show aTab 62 5 = some (.iload 4, 2, 0, 0, 0, 0, 0, 0) from rfl) rfl h4) ?_
      refine e_then (e_al1 hT (y := 62) (pc := 7) (q := (yX3_sumOf, cX3_sumOf, 5, (some .int), 3)) rfl (show aTab 62 7 = some (.aload_n 0, 1, 0, 0, 0, 0, 0, 0) from rfl) rfl h0) ?_
      refine e_then (e_getf hT (y := 62) (pc := 8) (q := (yX3_sumOf, cX3_sumOf, 5, (some .int), 3)) rfl (show aTab 62 8 = some (.getfield 24, 3, 0, 3, 0, 0, 0, 0) from rfl) rfl (by decide) (by decide) hfs hf0) ?_
      refine e_then (e_icF hT (y := 62) (pc := 11) (q := (yX3_sumOf, cX3_sumOf, 5, (some .int), 3)) rfl (show aTab 62 11 = some (.if_icmp .ge 37, 3, 0, 0, 0, 0, 0, 0) from rfl) rfl (t := 48) rfl (cdF (by show ¬ _ ≤ _; omega))) ?_
      refine e_then (e_il2 hT (y := 62) (pc := 14) (q := (yX3_sumOf, cX3_sumOf, 5, (some .int), 3)) rfl (show aTab 62 14 = some (.iload 4, 2, 0, 0, 0, 0, 0, 0) from rfl) rfl h4) ?_
      refine e_then (e_al1 hT (y := 62) (pc := 16) (q := (yX3_sumOf, cX3_sumOf, 5, (some .int), 3)) rfl (show aTab 62 16 = some (.aload_n 1, 1, 0, 0, 0, 0, 0, 0) from rfl) rfl h1) ?_
      refine e_then (e_lenA hT (y := 62) (pc := 17) (q := (yX3_sumOf, cX3_sumOf, 5, (some .int), 3)) rfl (show aTab 62 17 = some (.arraylength, 1, 0, 0, 0, 0, 0, 0) from rfl) ⟨rfl, by decide⟩ hf) ?_
      refine e_then (e_icF hT (y := 62) (pc := 18) (q := (yX3_sumOf, cX3_sumOf, 5, (some .int), 3)) rfl (show aTab 62 18 = some (.if_icmp .ge 30, 3, 0, 0, 0, 0, 0, 0) from rfl) rfl (t := 48) rfl (cdF (by show ¬ _ ≤ _; omega))) ?_
      refine e_then (e_il1 hT (y := 62) (pc := 21) (q := (yX3_sumOf, cX3_sumOf, 5, (some .int), 3)) rfl (show aTab 62 21 = some (.iload_n 3, 1, 0, 0, 0, 0, 0, 0) from rfl) rfl h3) ?_
      refine e_then (e_il1 hT (y := 62) (pc := 22) (q := (yX3_sumOf, cX3_sumOf, 5, (some .int), 3)) rfl (show aTab 62 22 = some (.iload_n 2, 1, 0, 0, 0, 0, 0, 0) from rfl) rfl h2) ?_
      refine e_then (e_il2 hT (y := 62) (pc := 23) (q := (yX3_sumOf, cX3_sumOf, 5, (some .int), 3)) rfl (show aTab 62 23 = some (.iload 4, 2, 0, 0, 0, 0, 0, 0) from rfl) rfl h4) ?_
      refine e_then (e_st hT (y := 62) (pc := 25) (q := (yX3_sumOf, cX3_sumOf, 5, (some .int), 3)) rfl (show aTab 62 25 = some (.ishr, 1, 0, 0, 0, 0, 0, 0) from rfl) (fr' := (62, 26, lv, [.int (set >>> ((Int32.ofNat k) &&& 31)), .int (ntS F set k)])) (M' := M) rfl) ?_
      refine e_then (e_st hT (y := 62) (pc := 26) (q := (yX3_sumOf, cX3_sumOf, 5, (some .int), 3)) rfl (show aTab 62 26 = some (.iconst 1, 1, 0, 0, 0, 0, 0, 0) from rfl) (fr' := (62, 27, lv, [.int 1, .int (set >>> ((Int32.ofNat k) &&& 31)), .int (ntS F set k)])) (M' := M) rfl) ?_
      refine e_then (e_st hT (y := 62) (pc := 27) (q := (yX3_sumOf, cX3_sumOf, 5, (some .int), 3)) rfl (show aTab 62 27 = some (.iand, 1, 0, 0, 0, 0, 0, 0) from rfl) (fr' := (62, 28, lv, [.int ((set >>> ((Int32.ofNat k) &&& 31)) &&& 1), .int (ntS F set k)])) (M' := M) rfl) ?_
      refine e_then (e_st hT (y := 62) (pc := 28) (q := (yX3_sumOf, cX3_sumOf, 5, (some .int), 3)) rfl (show aTab 62 28 = some (.iconst 1, 1, 0, 0, 0, 0, 0, 0) from rfl) (fr' := (62, 29, lv, [.int 1, .int ((set >>> ((Int32.ofNat k) &&& 31)) &&& 1), .int (ntS F set k)])) (M' := M) rfl) ?_
      refine e_then (e_icF hT (y := 62) (pc := 29) (q := (yX3_sumOf, cX3_sumOf, 5, (some .int), 3)) rfl (show aTab 62 29 = some (.if_icmp .ne 10, 3, 0, 0, 0, 0, 0, 0) from rfl) rfl (t := 39) rfl (cdF (by show ¬ ¬ (ntB set k).toInt = _; rw [hb]; decide))) ?_
      refine e_then (e_al1 hT (y := 62) (pc := 32) (q := (yX3_sumOf, cX3_sumOf, 5, (some .int), 3)) rfl (show aTab 62 32 = some (.aload_n 1, 1, 0, 0, 0, 0, 0, 0) from rfl) rfl h1) ?_
      refine e_then (e_il2 hT (y := 62) (pc := 33) (q := (yX3_sumOf, cX3_sumOf, 5, (some .int), 3)) rfl (show aTab 62 33 = some (.iload 4, 2, 0, 0, 0, 0, 0, 0) from rfl) rfl h4) ?_
      refine e_then (e_ald hT (y := 62) (pc := 35) (q := (yX3_sumOf, cX3_sumOf, 5, (some .int), 3)) rfl (show aTab 62 35 = some (.iaload, 1, 0, 0, 0, 0, 0, 0) from rfl) ⟨rfl, by omega⟩ hf (by omega)) ?_
      refine e_then (e_st hT (y := 62) (pc := 36) (q := (yX3_sumOf, cX3_sumOf, 5, (some .int), 3)) rfl (show aTab 62 36 = some (.goto 4, 3, 0, 0, 0, 0, 0, 0) from rfl) (fr' := (62, 40, lv, [.int (f (Int32.ofNat k).toInt.toNat), .int (ntS F set k)])) (M' := M) rfl) ?_
      refine e_then (e_st hT (y := 62) (pc := 40) (q := (yX3_sumOf, cX3_sumOf, 5, (some .int), 3)) rfl (show aTab 62 40 = some (.iadd, 1, 0, 0, 0, 0, 0, 0) from rfl) (fr' := (62, 41, lv, [.int ((ntS F set k) + (f (Int32.ofNat k).toInt.toNat))])) (M' := M) rfl) ?_
      refine e_then (e_is1 hT (y := 62) (pc := 41) (q := (yX3_sumOf, cX3_sumOf, 5, (some .int), 3)) rfl (show aTab 62 41 = some (.istore_n 3, 1, 0, 0, 0, 0, 0, 0) from rfl) ⟨rfl, by decide⟩) ?_
      refine e_then (e_ii hT (y := 62) (pc := 42) (q := (yX3_sumOf, cX3_sumOf, 5, (some .int), 3)) rfl (show aTab 62 42 = some (.iinc 4 1, 3, 0, 0, 0, 0, 0, 0) from rfl) ⟨rfl, by decide⟩ (mlg_i h4 (by decide))) ?_
      refine e_then (e_st hT (y := 62) (pc := 45) (q := (yX3_sumOf, cX3_sumOf, 5, (some .int), 3)) rfl (show aTab 62 45 = some (.goto (-40), 3, 0, 0, 0, 0, 0, 0) from rfl) (fr' := (62, 5, (mlp 4 (.int ((Int32.ofNat k) + Int32.ofInt 1)) (mlp 3 (.int ((ntS F set k) + (f (Int32.ofNat k).toInt.toNat))) lv)), [])) (M' := M) rfl) ?_
      rw [hfk, ntS_p hb, os1 (by omega)]
      exact ih (k + 1) _ (by omega) (mlg_r (mlg_r h0 (by decide)) (by decide)) (mlg_r (mlg_r h1 (by decide)) (by decide)) (mlg_i (mlg_i h2 (by decide)) (by decide)) (mlg_i (mlg_eq 3 _ _) (by decide)) (mlg_eq 4 _ _)
    · refine e_then (e_il2 hT (y := 62) (pc := 5) (q := (yX3_sumOf, cX3_sumOf, 5, (some .int), 3)) rfl (show aTab 62 5 = some (.iload 4, 2, 0, 0, 0, 0, 0, 0) from rfl) rfl h4) ?_
      refine e_then (e_al1 hT (y := 62) (pc := 7) (q := (yX3_sumOf, cX3_sumOf, 5, (some .int), 3)) rfl (show aTab 62 7 = some (.aload_n 0, 1, 0, 0, 0, 0, 0, 0) from rfl) rfl h0) ?_
      refine e_then (e_getf hT (y := 62) (pc := 8) (q := (yX3_sumOf, cX3_sumOf, 5, (some .int), 3)) rfl (show aTab 62 8 = some (.getfield 24, 3, 0, 3, 0, 0, 0, 0) from rfl) rfl (by decide) (by decide) hfs hf0) ?_
      refine e_then (e_icF hT (y := 62) (pc := 11) (q := (yX3_sumOf, cX3_sumOf, 5, (some .int), 3)) rfl (show aTab 62 11 = some (.if_icmp .ge 37, 3, 0, 0, 0, 0, 0, 0) from rfl) rfl (t := 48) rfl (cdF (by show ¬ _ ≤ _; omega))) ?_
      refine e_then (e_il2 hT (y := 62) (pc := 14) (q := (yX3_sumOf, cX3_sumOf, 5, (some .int), 3)) rfl (show aTab 62 14 = some (.iload 4, 2, 0, 0, 0, 0, 0, 0) from rfl) rfl h4) ?_
      refine e_then (e_al1 hT (y := 62) (pc := 16) (q := (yX3_sumOf, cX3_sumOf, 5, (some .int), 3)) rfl (show aTab 62 16 = some (.aload_n 1, 1, 0, 0, 0, 0, 0, 0) from rfl) rfl h1) ?_
      refine e_then (e_lenA hT (y := 62) (pc := 17) (q := (yX3_sumOf, cX3_sumOf, 5, (some .int), 3)) rfl (show aTab 62 17 = some (.arraylength, 1, 0, 0, 0, 0, 0, 0) from rfl) ⟨rfl, by decide⟩ hf) ?_
      refine e_then (e_icF hT (y := 62) (pc := 18) (q := (yX3_sumOf, cX3_sumOf, 5, (some .int), 3)) rfl (show aTab 62 18 = some (.if_icmp .ge 30, 3, 0, 0, 0, 0, 0, 0) from rfl) rfl (t := 48) rfl (cdF (by show ¬ _ ≤ _; omega))) ?_
      refine e_then (e_il1 hT (y := 62) (pc := 21) (q := (yX3_sumOf, cX3_sumOf, 5, (some .int), 3)) rfl (show aTab 62 21 = some (.iload_n 3, 1, 0, 0, 0, 0, 0, 0) from rfl) rfl h3) ?_
      refine e_then (e_il1 hT (y := 62) (pc := 22) (q := (yX3_sumOf, cX3_sumOf, 5, (some .int), 3)) rfl (show aTab 62 22 = some (.iload_n 2, 1, 0, 0, 0, 0, 0, 0) from rfl) rfl h2) ?_
      refine e_then (e_il2 hT (y := 62) (pc := 23) (q := (yX3_sumOf, cX3_sumOf, 5, (some .int), 3)) rfl (show aTab 62 23 = some (.iload 4, 2, 0, 0, 0, 0, 0, 0) from rfl) rfl h4) ?_
      refine e_then (e_st hT (y := 62) (pc := 25) (q := (yX3_sumOf, cX3_sumOf, 5, (some .int), 3)) rfl (show aTab 62 25 = some (.ishr, 1, 0, 0, 0, 0, 0, 0) from rfl) (fr' := (62, 26, lv, [.int (set >>> ((Int32.ofNat k) &&& 31)), .int (ntS F set k)])) (M' := M) rfl) ?_
      refine e_then (e_st hT (y := 62) (pc := 26) (q := (yX3_sumOf, cX3_sumOf, 5, (some .int), 3)) rfl (show aTab 62 26 = some (.iconst 1, 1, 0, 0, 0, 0, 0, 0) from rfl) (fr' := (62, 27, lv, [.int 1, .int (set >>> ((Int32.ofNat k) &&& 31)), .int (ntS F set k)])) (M' := M) rfl) ?_
      refine e_then (e_st hT (y := 62) (pc := 27) (q := (yX3_sumOf, cX3_sumOf, 5, (some .int), 3)) rfl (show aTab 62 27 = some (.iand, 1, 0, 0, 0, 0, 0, 0) from rfl) (fr' := (62, 28, lv, [.int ((set >>> ((Int32.ofNat k) &&& 31)) &&& 1), .int (ntS F set k)])) (M' := M) rfl) ?_
      refine e_then (e_st hT (y := 62) (pc := 28) (q := (yX3_sumOf, cX3_sumOf, 5, (some .int), 3)) rfl (show aTab 62 28 = some (.iconst 1, 1, 0, 0, 0, 0, 0, 0) from rfl) (fr' := (62, 29, lv, [.int 1, .int ((set >>> ((Int32.ofNat k) &&& 31)) &&& 1), .int (ntS F set k)])) (M' := M) rfl) ?_
      refine e_then (e_icT hT (y := 62) (pc := 29) (q := (yX3_sumOf, cX3_sumOf, 5, (some .int), 3)) rfl (show aTab 62 29 = some (.if_icmp .ne 10, 3, 0, 0, 0, 0, 0, 0) from rfl) rfl (t := 39) rfl (cdT (by show ¬ (ntB set k).toInt = _; exact fun z => hb (Int32.toInt_inj.mp z)))) ?_
      refine e_then (e_st hT (y := 62) (pc := 39) (q := (yX3_sumOf, cX3_sumOf, 5, (some .int), 3)) rfl (show aTab 62 39 = some (.iconst 0, 1, 0, 0, 0, 0, 0, 0) from rfl) (fr' := (62, 40, lv, [.int 0, .int (ntS F set k)])) (M' := M) rfl) ?_
      refine e_then (e_st hT (y := 62) (pc := 40) (q := (yX3_sumOf, cX3_sumOf, 5, (some .int), 3)) rfl (show aTab 62 40 = some (.iadd, 1, 0, 0, 0, 0, 0, 0) from rfl) (fr' := (62, 41, lv, [.int ((ntS F set k) + 0)])) (M' := M) rfl) ?_
      refine e_then (e_is1 hT (y := 62) (pc := 41) (q := (yX3_sumOf, cX3_sumOf, 5, (some .int), 3)) rfl (show aTab 62 41 = some (.istore_n 3, 1, 0, 0, 0, 0, 0, 0) from rfl) ⟨rfl, by decide⟩) ?_
      refine e_then (e_ii hT (y := 62) (pc := 42) (q := (yX3_sumOf, cX3_sumOf, 5, (some .int), 3)) rfl (show aTab 62 42 = some (.iinc 4 1, 3, 0, 0, 0, 0, 0, 0) from rfl) ⟨rfl, by decide⟩ (mlg_i h4 (by decide))) ?_
      refine e_then (e_st hT (y := 62) (pc := 45) (q := (yX3_sumOf, cX3_sumOf, 5, (some .int), 3)) rfl (show aTab 62 45 = some (.goto (-40), 3, 0, 0, 0, 0, 0, 0) from rfl) (fr' := (62, 5, (mlp 4 (.int ((Int32.ofNat k) + Int32.ofInt 1)) (mlp 3 (.int ((ntS F set k) + 0)) lv)), [])) (M' := M) rfl) ?_
      rw [ntS_n hb, os1 (by omega)]
      exact ih (k + 1) _ (by omega) (mlg_r (mlg_r h0 (by decide)) (by decide)) (mlg_r (mlg_r h1 (by decide)) (by decide)) (mlg_i (mlg_i h2 (by decide)) (by decide)) (mlg_i (mlg_eq 3 _ _) (by decide)) (mlg_eq 4 _ _)
theorem xsm47_run (hT : aTabOk) {M : mHe} (hM : yTy M) {S : Nat} (hS : S ≤ 8) (hz : ∀ xs : tXs, yRd xs M 44 0 = some (.int (Int32.ofNat S))) {F : Nat → Int32} (hF : ntRows M 47 0 1 F) {set : Int32} {d : Nat} (hd : 60 ≤ d) : ∃ K, mRun none K d (62, 0, lv_args 0 [.ref 53, .ref 56, .int set], []) M = some (some (.int (ntS F set S)), M) := by
  have go : mEv none 60 (62, 0, lv_args 0 [.ref 53, .ref 56, .int set], []) M (fun r M' => r = some (.int (ntS F set S)) ∧ M' = M) := by
    refine e_then (e_st hT (y := 62) (pc := 0) (q := (yX3_sumOf, cX3_sumOf, 5, (some .int), 3)) rfl (show aTab 62 0 = some (.iconst 0, 1, 0, 0, 0, 0, 0, 0) from rfl) (fr' := (62, 1, (lv_args 0 [.ref 53, .ref 56, .int set]), [.int 0])) (M' := M) rfl) ?_
    refine e_then (e_is1 hT (y := 62) (pc := 1) (q := (yX3_sumOf, cX3_sumOf, 5, (some .int), 3)) rfl (show aTab 62 1 = some (.istore_n 3, 1, 0, 0, 0, 0, 0, 0) from rfl) ⟨rfl, by decide⟩) ?_
    refine e_then (e_st hT (y := 62) (pc := 2) (q := (yX3_sumOf, cX3_sumOf, 5, (some .int), 3)) rfl (show aTab 62 2 = some (.iconst 0, 1, 0, 0, 0, 0, 0, 0) from rfl) (fr' := (62, 3, (mlp 3 (.int 0) (lv_args 0 [.ref 53, .ref 56, .int set])), [.int 0])) (M' := M) rfl) ?_
    refine e_then (e_is2 hT (y := 62) (pc := 3) (q := (yX3_sumOf, cX3_sumOf, 5, (some .int), 3)) rfl (show aTab 62 3 = some (.istore 4, 2, 0, 0, 0, 0, 0, 0) from rfl) ⟨rfl, by decide⟩) ?_
    exact xsm47_loop hT hM hS hz hF S 0 _ (by omega) (mlg_r (mlg_r rfl (by decide)) (by decide)) (mlg_r (mlg_r rfl (by decide)) (by decide)) (mlg_i (mlg_i rfl (by decide)) (by decide)) (mlg_i (mlg_eq 3 _ _) (by decide)) (mlg_eq 4 _ _)
  obtain ⟨K, r, M', q1, rfl, rfl⟩ := go
  exact ⟨K, mRun_dm q1 hd⟩
theorem ntG_up {F : Nat → Int32} {s : Int32} {k : Nat} (h : ntG F s k = false) : ∀ d : Nat, ntG F s (k + d) = false := by
  intro d
  induction d with
  | zero => exact h
  | succ d ih => exact ntG_f ih
theorem xag_loop (hT : aTabOk) {M : mHe} (hM : yTy M) {S : Nat} (hS : S ≤ 8) (hz : ∀ xs : tXs, yRd xs M 44 0 = some (.int (Int32.ofNat S))) {F : Nat → Int32} (hF : ntRows M 48 0 1 F) {set : Int32} : ∀ (d k : Nat) (lv : List (Nat × Value)), k + d = S → ntG F set k = true → mlg 0 lv = some (.ref 53) → mlg 1 lv = some (.int set) → mlg 2 lv = some (.int (Int32.ofNat k)) → mEv none 60 (63, 2, lv, []) M (fun r M' => r = some (.int (gB (ntG F set S))) ∧ M' = M) := by
  obtain ⟨fs, hfs, -⟩ := yTy_obj hM (rfl : tTy 44 = some (.inr (3, _)))
  have hf0 := ob_get (by decide) hfs hz
  obtain ⟨f, hf, -, -⟩ := yTy_arr hM (rfl : tTy 48 = some (.inl (8, 0, [])))
  intro d
  induction d with
  | zero =>
    intro k lv hk hg h0 h1 h2
    have hk : k = S := by omega
    subst hk
    rw [hg]
    refine e_then (e_il1 hT (y := 63) (pc := 2) (q := (yX3_agrees, cX3_agrees, 3, (some .boolean), 3)) rfl (show aTab 63 2 = some (.iload_n 2, 1, 0, 0, 0, 0, 0, 0) from rfl) rfl h2) ?_
    refine e_then (e_al1 hT (y := 63) (pc := 3) (q := (yX3_agrees, cX3_agrees, 3, (some .boolean), 3)) rfl (show aTab 63 3 = some (.aload_n 0, 1, 0, 0, 0, 0, 0, 0) from rfl) rfl h0) ?_
    refine e_then (e_getf hT (y := 63) (pc := 4) (q := (yX3_agrees, cX3_agrees, 3, (some .boolean), 3)) rfl (show aTab 63 4 = some (.getfield 24, 3, 0, 3, 0, 0, 0, 0) from rfl) rfl (by decide) (by decide) hfs hf0) ?_
    refine e_then (e_icT hT (y := 63) (pc := 7) (q := (yX3_agrees, cX3_agrees, 3, (some .boolean), 3)) rfl (show aTab 63 7 = some (.if_icmp .ge 43, 3, 0, 0, 0, 0, 0, 0) from rfl) rfl (t := 50) rfl (cdT (Int.le_refl _))) ?_
    refine e_then (e_st hT (y := 63) (pc := 50) (q := (yX3_agrees, cX3_agrees, 3, (some .boolean), 3)) rfl (show aTab 63 50 = some (.iconst 1, 1, 0, 0, 0, 0, 0, 0) from rfl) (fr' := (63, 51, lv, [.int 1])) (M' := M) rfl) ?_
    exact e_fin (e_zret hT (y := 63) (pc := 51) (q := (yX3_agrees, cX3_agrees, 3, (some .boolean), 3)) rfl (show aTab 63 51 = some (.ireturn, 1, 0, 0, 0, 0, 0, 0) from rfl) ⟨rfl, rfl⟩ (Or.inr rfl)) ⟨rfl, rfl⟩
  | succ d ih =>
    intro k lv hk hg h0 h1 h2
    have hkn : (Int32.ofNat k).toInt = (k : Int) := i32n (by omega)
    have hSn : (Int32.ofNat S).toInt = (S : Int) := i32n (by omega)
    have h8 : (8 : Int32).toInt = 8 := rfl
    have hfk : f (Int32.ofNat k).toInt.toNat = F k := by
      rw [hkn, show ((k : Int)).toNat = k by omega]
      exact ntRow_at (by decide) hf hF (by omega)
    rcases ntB_01 set k with hb | hb
    · refine e_then (e_il1 hT (y := 63) (pc := 2) (q := (yX3_agrees, cX3_agrees, 3, (some .boolean), 3)) rfl (show aTab 63 2 = some (.iload_n 2, 1, 0, 0, 0, 0, 0, 0) from rfl) rfl h2) ?_
      refine e_then (e_al1 hT (y := 63) (pc := 3) (q := (yX3_agrees, cX3_agrees, 3, (some .boolean), 3)) rfl (show aTab 63 3 = some (.aload_n 0, 1, 0, 0, 0, 0, 0, 0) from rfl) rfl h0) ?_
      refine e_then (e_getf hT (y := 63) (pc := 4) (q := (yX3_agrees, cX3_agrees, 3, (some .boolean), 3)) rfl (show aTab 63 4 = some (.getfield 24, 3, 0, 3, 0, 0, 0, 0) from rfl) rfl (by decide) (by decide) hfs hf0) ?_
      refine e_then (e_icF hT (y := 63) (pc := 7) (q := (yX3_agrees, cX3_agrees, 3, (some .boolean), 3)) rfl (show aTab 63 7 = some (.if_icmp .ge 43, 3, 0, 0, 0, 0, 0, 0) from rfl) rfl (t := 50) rfl (cdF (by show ¬ _ ≤ _; omega))) ?_
      refine e_then (e_il1 hT (y := 63) (pc := 10) (q := (yX3_agrees, cX3_agrees, 3, (some .boolean), 3)) rfl (show aTab 63 10 = some (.iload_n 2, 1, 0, 0, 0, 0, 0, 0) from rfl) rfl h2) ?_
      refine e_then (e_st hT (y := 63) (pc := 11) (q := (yX3_agrees, cX3_agrees, 3, (some .boolean), 3)) rfl (show aTab 63 11 = some (.bipush 8, 2, 0, 0, 0, 0, 0, 0) from rfl) (fr' := (63, 13, lv, [.int 8, .int (Int32.ofNat k)])) (M' := M) rfl) ?_
      refine e_then (e_icF hT (y := 63) (pc := 13) (q := (yX3_agrees, cX3_agrees, 3, (some .boolean), 3)) rfl (show aTab 63 13 = some (.if_icmp .ge 37, 3, 0, 0, 0, 0, 0, 0) from rfl) rfl (t := 50) rfl (cdF (by show ¬ _ ≤ _; omega))) ?_
      refine e_then (e_il1 hT (y := 63) (pc := 16) (q := (yX3_agrees, cX3_agrees, 3, (some .boolean), 3)) rfl (show aTab 63 16 = some (.iload_n 1, 1, 0, 0, 0, 0, 0, 0) from rfl) rfl h1) ?_
      refine e_then (e_il1 hT (y := 63) (pc := 17) (q := (yX3_agrees, cX3_agrees, 3, (some .boolean), 3)) rfl (show aTab 63 17 = some (.iload_n 2, 1, 0, 0, 0, 0, 0, 0) from rfl) rfl h2) ?_
      refine e_then (e_st hT (y := 63) (pc := 18) (q := (yX3_agrees, cX3_agrees, 3, (some .boolean), 3)) rfl (show aTab 63 18 = some (.ishr, 1, 0, 0, 0, 0, 0, 0) from rfl) (fr' := (63, 19, lv, [.int (set >>> ((Int32.ofNat k) &&& 31))])) (M' := M) rfl) ?_
      refine e_then (e_st hT (y := 63) (pc := 19) (q := (yX3_agrees, cX3_agrees, 3, (some .boolean), 3)) rfl (show aTab 63 19 = some (.iconst 1, 1, 0, 0, 0, 0, 0, 0) from rfl) (fr' := (63, 20, lv, [.int 1, .int (set >>> ((Int32.ofNat k) &&& 31))])) (M' := M) rfl) ?_
      refine e_then (e_st hT (y := 63) (pc := 20) (q := (yX3_agrees, cX3_agrees, 3, (some .boolean), 3)) rfl (show aTab 63 20 = some (.iand, 1, 0, 0, 0, 0, 0, 0) from rfl) (fr' := (63, 21, lv, [.int ((set >>> ((Int32.ofNat k) &&& 31)) &&& 1)])) (M' := M) rfl) ?_
      refine e_then (e_st hT (y := 63) (pc := 21) (q := (yX3_agrees, cX3_agrees, 3, (some .boolean), 3)) rfl (show aTab 63 21 = some (.iconst 1, 1, 0, 0, 0, 0, 0, 0) from rfl) (fr' := (63, 22, lv, [.int 1, .int ((set >>> ((Int32.ofNat k) &&& 31)) &&& 1)])) (M' := M) rfl) ?_
      refine e_then (e_icT hT (y := 63) (pc := 22) (q := (yX3_agrees, cX3_agrees, 3, (some .boolean), 3)) rfl (show aTab 63 22 = some (.if_icmp .ne 22, 3, 0, 0, 0, 0, 0, 0) from rfl) rfl (t := 44) rfl (cdT (by show ¬ (ntB set k).toInt = _; rw [hb]; decide))) ?_
      refine e_then (e_ii hT (y := 63) (pc := 44) (q := (yX3_agrees, cX3_agrees, 3, (some .boolean), 3)) rfl (show aTab 63 44 = some (.iinc 2 1, 3, 0, 0, 0, 0, 0, 0) from rfl) ⟨rfl, by decide⟩ h2) ?_
      refine e_then (e_st hT (y := 63) (pc := 47) (q := (yX3_agrees, cX3_agrees, 3, (some .boolean), 3)) rfl (show aTab 63 47 = some (.goto (-45), 3, 0, 0, 0, 0, 0, 0) from rfl) (fr' := (63, 2, (mlp 2 (.int ((Int32.ofNat k) + Int32.ofInt 1)) lv), [])) (M' := M) rfl) ?_
      rw [os1 (by omega)]
      exact ih (k + 1) _ (by omega) (ntG_0 hg hb) (mlg_r h0 (by decide)) (mlg_i h1 (by decide)) (mlg_eq 2 _ _)
    by_cases he : F k &&& set &&& ((1 <<< (Int32.ofNat k &&& 31)) ^^^ -1) = 0
    · refine e_then (e_il1 hT (y := 63) (pc := 2) (q := (yX3_agrees, cX3_agrees, 3, (some .boolean), 3)) rfl (show aTab 63 2 = some (.iload_n 2, 1, 0, 0, 0, 0, 0, 0) from rfl) rfl h2) ?_
      refine e_then (e_al1 hT (y := 63) (pc := 3) (q := (yX3_agrees, cX3_agrees, 3, (some .boolean), 3)) rfl (show aTab 63 3 = some (.aload_n 0, 1, 0, 0, 0, 0, 0, 0) from rfl) rfl h0) ?_
      refine e_then (e_getf hT (y := 63) (pc := 4) (q := (yX3_agrees, cX3_agrees, 3, (some .boolean), 3)) rfl (show aTab 63 4 = some (.getfield 24, 3, 0, 3, 0, 0, 0, 0) from rfl) rfl (by decide) (by decide) hfs hf0) ?_
      refine e_then (e_icF hT (y := 63) (pc := 7) (q := (yX3_agrees, cX3_agrees, 3, (some .boolean), 3)) rfl (show aTab 63 7 = some (.if_icmp .ge 43, 3, 0, 0, 0, 0, 0, 0) from rfl) rfl (t := 50) rfl (cdF (by show ¬ _ ≤ _; omega))) ?_
      refine e_then (e_il1 hT (y := 63) (pc := 10) (q := (yX3_agrees, cX3_agrees, 3, (some .boolean), 3)) rfl (show aTab 63 10 = some (.iload_n 2, 1, 0, 0, 0, 0, 0, 0) from rfl) rfl h2) ?_
      refine e_then (e_st hT (y := 63) (pc := 11) (q := (yX3_agrees, cX3_agrees, 3, (some .boolean), 3)) rfl (show aTab 63 11 = some (.bipush 8, 2, 0, 0, 0, 0, 0, 0) from rfl) (fr' := (63, 13, lv, [.int 8, .int (Int32.ofNat k)])) (M' := M) rfl) ?_
      refine e_then (e_icF hT (y := 63) (pc := 13) (q := (yX3_agrees, cX3_agrees, 3, (some .boolean), 3)) rfl (show aTab 63 13 = some (.if_icmp .ge 37, 3, 0, 0, 0, 0, 0, 0) from rfl) rfl (t := 50) rfl (cdF (by show ¬ _ ≤ _; omega))) ?_
      refine e_then (e_il1 hT (y := 63) (pc := 16) (q := (yX3_agrees, cX3_agrees, 3, (some .boolean), 3)) rfl (show aTab 63 16 = some (.iload_n 1, 1, 0, 0, 0, 0, 0, 0) from rfl) rfl h1) ?_
      refine e_then (e_il1 hT (y := 63) (pc := 17) (q := (yX3_agrees, cX3_agrees, 3, (some .boolean), 3)) rfl (show aTab 63 17 = some (.iload_n 2, 1, 0, 0, 0, 0, 0, 0) from rfl) rfl h2) ?_
      refine e_then (e_st hT (y := 63) (pc := 18) (q := (yX3_agrees, cX3_agrees, 3, (some .boolean), 3)) rfl (show aTab 63 18 = some (.ishr, 1, 0, 0, 0, 0, 0, 0) from rfl) (fr' := (63, 19, lv, [.int (set >>> ((Int32.ofNat k) &&& 31))])) (M' := M) rfl) ?_
      refine e_then (e_st hT (y := 63) (pc := 19) (q := (yX3_agrees, cX3_agrees, 3, (some .boolean), 3)) rfl (show aTab 63 19 = some (.iconst 1, 1, 0, 0, 0, 0, 0, 0) from rfl) (fr' := (63, 20, lv, [.int 1, .int (set >>> ((Int32.ofNat k) &&& 31))])) (M' := M) rfl) ?_
      refine e_then (e_st hT (y := 63) (pc := 20) (q := (yX3_agrees, cX3_agrees, 3, (some .boolean), 3)) rfl (show aTab 63 20 = some (.iand, 1, 0, 0, 0, 0, 0, 0) from rfl) (fr' := (63, 21, lv, [.int ((set >>> ((Int32.ofNat k) &&& 31)) &&& 1)])) (M' := M) rfl) ?_
      refine e_then (e_st hT (y := 63) (pc := 21) (q := (yX3_agrees, cX3_agrees, 3, (some .boolean), 3)) rfl (show aTab 63 21 = some (.iconst 1, 1, 0, 0, 0, 0, 0, 0) from rfl) (fr' := (63, 22, lv, [.int 1, .int ((set >>> ((Int32.ofNat k) &&& 31)) &&& 1)])) (M' := M) rfl) ?_
      refine e_then (e_icF hT (y := 63) (pc := 22) (q := (yX3_agrees, cX3_agrees, 3, (some .boolean), 3)) rfl (show aTab 63 22 = some (.if_icmp .ne 22, 3, 0, 0, 0, 0, 0, 0) from rfl) rfl (t := 44) rfl (cdF (by show ¬ ¬ (ntB set k).toInt = _; rw [hb]; decide))) ?_
      refine e_then (e_al1 hT (y := 63) (pc := 25) (q := (yX3_agrees, cX3_agrees, 3, (some .boolean), 3)) rfl (show aTab 63 25 = some (.aload_n 0, 1, 0, 0, 0, 0, 0, 0) from rfl) rfl h0) ?_
      refine e_then (e_getR hT (y := 63) (pc := 26) (q := (yX3_agrees, cX3_agrees, 3, (some .boolean), 3)) rfl (show aTab 63 26 = some (.getfield 21, 3, 0, 3, 4, 0, 0, 0) from rfl) rfl (by decide) (by decide) hM rfl rfl) ?_
      refine e_then (e_il1 hT (y := 63) (pc := 29) (q := (yX3_agrees, cX3_agrees, 3, (some .boolean), 3)) rfl (show aTab 63 29 = some (.iload_n 2, 1, 0, 0, 0, 0, 0, 0) from rfl) rfl h2) ?_
      refine e_then (e_ald hT (y := 63) (pc := 30) (q := (yX3_agrees, cX3_agrees, 3, (some .boolean), 3)) rfl (show aTab 63 30 = some (.iaload, 1, 0, 0, 0, 0, 0, 0) from rfl) ⟨rfl, by omega⟩ hf (by omega)) ?_
      refine e_then (e_il1 hT (y := 63) (pc := 31) (q := (yX3_agrees, cX3_agrees, 3, (some .boolean), 3)) rfl (show aTab 63 31 = some (.iload_n 1, 1, 0, 0, 0, 0, 0, 0) from rfl) rfl h1) ?_
      refine e_then (e_st hT (y := 63) (pc := 32) (q := (yX3_agrees, cX3_agrees, 3, (some .boolean), 3)) rfl (show aTab 63 32 = some (.iand, 1, 0, 0, 0, 0, 0, 0) from rfl) (fr' := (63, 33, lv, [.int ((f (Int32.ofNat k).toInt.toNat) &&& set)])) (M' := M) rfl) ?_
      refine e_then (e_st hT (y := 63) (pc := 33) (q := (yX3_agrees, cX3_agrees, 3, (some .boolean), 3)) rfl (show aTab 63 33 = some (.iconst 1, 1, 0, 0, 0, 0, 0, 0) from rfl) (fr' := (63, 34, lv, [.int 1, .int ((f (Int32.ofNat k).toInt.toNat) &&& set)])) (M' := M) rfl) ?_
      refine e_then (e_il1 hT (y := 63) (pc := 34) (q := (yX3_agrees, cX3_agrees, 3, (some .boolean), 3)) rfl (show aTab 63 34 = some (.iload_n 2, 1, 0, 0, 0, 0, 0, 0) from rfl) rfl h2) ?_
      refine e_then (e_st hT (y := 63) (pc := 35) (q := (yX3_agrees, cX3_agrees, 3, (some .boolean), 3)) rfl (show aTab 63 35 = some (.ishl, 1, 0, 0, 0, 0, 0, 0) from rfl) (fr' := (63, 36, lv, [.int (1 <<< ((Int32.ofNat k) &&& 31)), .int ((f (Int32.ofNat k).toInt.toNat) &&& set)])) (M' := M) rfl) ?_
      refine e_then (e_st hT (y := 63) (pc := 36) (q := (yX3_agrees, cX3_agrees, 3, (some .boolean), 3)) rfl (show aTab 63 36 = some (.iconst (-1), 1, 0, 0, 0, 0, 0, 0) from rfl) (fr' := (63, 37, lv, [.int (-1), .int (1 <<< ((Int32.ofNat k) &&& 31)), .int ((f (Int32.ofNat k).toInt.toNat) &&& set)])) (M' := M) rfl) ?_
      refine e_then (e_st hT (y := 63) (pc := 37) (q := (yX3_agrees, cX3_agrees, 3, (some .boolean), 3)) rfl (show aTab 63 37 = some (.ixor, 1, 0, 0, 0, 0, 0, 0) from rfl) (fr' := (63, 38, lv, [.int ((1 <<< ((Int32.ofNat k) &&& 31)) ^^^ (-1)), .int ((f (Int32.ofNat k).toInt.toNat) &&& set)])) (M' := M) rfl) ?_
      refine e_then (e_st hT (y := 63) (pc := 38) (q := (yX3_agrees, cX3_agrees, 3, (some .boolean), 3)) rfl (show aTab 63 38 = some (.iand, 1, 0, 0, 0, 0, 0, 0) from rfl) (fr' := (63, 39, lv, [.int (((f (Int32.ofNat k).toInt.toNat) &&& set) &&& ((1 <<< ((Int32.ofNat k) &&& 31)) ^^^ (-1)))])) (M' := M) rfl) ?_
      refine e_then (e_ifT hT (y := 63) (pc := 39) (q := (yX3_agrees, cX3_agrees, 3, (some .boolean), 3)) rfl (show aTab 63 39 = some (.ifCond .eq 5, 3, 0, 0, 0, 0, 0, 0) from rfl) rfl (t := 44) rfl (cdT (by show (f (Int32.ofNat k).toInt.toNat &&& set &&& ((1 <<< (Int32.ofNat k &&& 31)) ^^^ -1)).toInt = (0 : Int32).toInt; rw [hfk, he]))) ?_
      refine e_then (e_ii hT (y := 63) (pc := 44) (q := (yX3_agrees, cX3_agrees, 3, (some .boolean), 3)) rfl (show aTab 63 44 = some (.iinc 2 1, 3, 0, 0, 0, 0, 0, 0) from rfl) ⟨rfl, by decide⟩ h2) ?_
      refine e_then (e_st hT (y := 63) (pc := 47) (q := (yX3_agrees, cX3_agrees, 3, (some .boolean), 3)) rfl (show aTab 63 47 = some (.goto (-45), 3, 0, 0, 0, 0, 0, 0) from rfl) (fr' := (63, 2, (mlp 2 (.int ((Int32.ofNat k) + Int32.ofInt 1)) lv), [])) (M' := M) rfl) ?_
      rw [os1 (by omega)]
      exact ih (k + 1) _ (by omega) (ntG_1 hg hb (decide_eq_true he)) (mlg_r h0 (by decide)) (mlg_i h1 (by decide)) (mlg_eq 2 _ _)
    · have hno : ntG F set S = false := by
        have h := ntG_up (ntG_1 hg hb (decide_eq_false he)) d
        rwa [show k + 1 + d = S by omega] at h
      rw [hno]
      refine e_then (e_il1 hT (y := 63) (pc := 2) (q := (yX3_agrees, cX3_agrees, 3, (some .boolean), 3)) rfl (show aTab 63 2 = some (.iload_n 2, 1, 0, 0, 0, 0, 0, 0) from rfl) rfl h2) ?_
      refine e_then (e_al1 hT (y := 63) (pc := 3) (q := (yX3_agrees, cX3_agrees, 3, (some .boolean), 3)) rfl (show aTab 63 3 = some (.aload_n 0, 1, 0, 0, 0, 0, 0, 0) from rfl) rfl h0) ?_
      refine e_then (e_getf hT (y := 63) (pc := 4) (q := (yX3_agrees, cX3_agrees, 3, (some .boolean), 3)) rfl (show aTab 63 4 = some (.getfield 24, 3, 0, 3, 0, 0, 0, 0) from rfl) rfl (by decide) (by decide) hfs hf0) ?_
      refine e_then (e_icF hT (y := 63) (pc := 7) (q := (yX3_agrees, cX3_agrees, 3, (some .boolean), 3)) rfl (show aTab 63 7 = some (.if_icmp .ge 43, 3, 0, 0, 0, 0, 0, 0) from rfl) rfl (t := 50) rfl (cdF (by show ¬ _ ≤ _; omega))) ?_
      refine e_then (e_il1 hT (y := 63) (pc := 10) (q := (yX3_agrees, cX3_agrees, 3, (some .boolean), 3)) rfl (show aTab 63 10 = some (.iload_n 2, 1, 0, 0, 0, 0, 0, 0) from rfl) rfl h2) ?_
      refine e_then (e_st hT (y := 63) (pc := 11) (q := (yX3_agrees, cX3_agrees, 3, (some .boolean), 3)) rfl (show aTab 63 11 = some (.bipush 8, 2, 0, 0, 0, 0, 0, 0) from rfl) (fr' := (63, 13, lv, [.int 8, .int (Int32.ofNat k)])) (M' := M) rfl) ?_
      refine e_then (e_icF hT (y := 63) (pc := 13) (q := (yX3_agrees, cX3_agrees, 3, (some .boolean), 3)) rfl (show aTab 63 13 = some (.if_icmp .ge 37, 3, 0, 0, 0, 0, 0, 0) from rfl) rfl (t := 50) rfl (cdF (by show ¬ _ ≤ _; omega))) ?_
      refine e_then (e_il1 hT (y := 63) (pc := 16) (q := (yX3_agrees, cX3_agrees, 3, (some .boolean), 3)) rfl (show aTab 63 16 = some (.iload_n 1, 1, 0, 0, 0, 0, 0, 0) from rfl) rfl h1) ?_
      refine e_then (e_il1 hT (y := 63) (pc := 17) (q := (yX3_agrees, cX3_agrees, 3, (some .boolean), 3)) rfl (show aTab 63 17 = some (.iload_n 2, 1, 0, 0, 0, 0, 0, 0) from rfl) rfl h2) ?_
      refine e_then (e_st hT (y := 63) (pc := 18) (q := (yX3_agrees, cX3_agrees, 3, (some .boolean), 3)) rfl (show aTab 63 18 = some (.ishr, 1, 0, 0, 0, 0, 0, 0) from rfl) (fr' := (63, 19, lv, [.int (set >>> ((Int32.ofNat k) &&& 31))])) (M' := M) rfl) ?_
      refine e_then (e_st hT (y := 63) (pc := 19) (q := (yX3_agrees, cX3_agrees, 3, (some .boolean), 3)) rfl (show aTab 63 19 = some (.iconst 1, 1, 0, 0, 0, 0, 0, 0) from rfl) (fr' := (63, 20, lv, [.int 1, .int (set >>> ((Int32.ofNat k) &&& 31))])) (M' := M) rfl) ?_
      refine e_then (e_st hT (y := 63) (pc := 20) (q := (yX3_agrees, cX3_agrees, 3, (some .boolean), 3)) rfl (show aTab 63 20 = some (.iand, 1, 0, 0, 0, 0, 0, 0) from rfl) (fr' := (63, 21, lv, [.int ((set >>> ((Int32.ofNat k) &&& 31)) &&& 1)])) (M' := M) rfl) ?_
      refine e_then (e_st hT (y := 63) (pc := 21) (q := (yX3_agrees, cX3_agrees, 3, (some .boolean), 3)) rfl (show aTab 63 21 = some (.iconst 1, 1, 0, 0, 0, 0, 0, 0) from rfl) (fr' := (63, 22, lv, [.int 1, .int ((set >>> ((Int32.ofNat k) &&& 31)) &&& 1)])) (M' := M) rfl) ?_
      refine e_then (e_icF hT (y := 63) (pc := 22) (q := (yX3_agrees, cX3_agrees, 3, (some .boolean), 3)) rfl (show aTab 63 22 = some (.if_icmp .ne 22, 3, 0, 0, 0, 0, 0, 0) from rfl) rfl (t := 44) rfl (cdF (by show ¬ ¬ (ntB set k).toInt = _; rw [hb]; decide))) ?_
      refine e_then (e_al1 hT (y := 63) (pc := 25) (q := (yX3_agrees, cX3_agrees, 3, (some .boolean), 3)) rfl (show aTab 63 25 = some (.aload_n 0, 1, 0, 0, 0, 0, 0, 0) from rfl) rfl h0) ?_
      refine e_then (e_getR hT (y := 63) (pc := 26) (q := (yX3_agrees, cX3_agrees, 3, (some .boolean), 3)) rfl (show aTab 63 26 = some (.getfield 21, 3, 0, 3, 4, 0, 0, 0) from rfl) rfl (by decide) (by decide) hM rfl rfl) ?_
      refine e_then (e_il1 hT (y := 63) (pc := 29) (q := (yX3_agrees, cX3_agrees, 3, (some .boolean), 3)) rfl (show aTab 63 29 = some (.iload_n 2, 1, 0, 0, 0, 0, 0, 0) from rfl) rfl h2) ?_
      refine e_then (e_ald hT (y := 63) (pc := 30) (q := (yX3_agrees, cX3_agrees, 3, (some .boolean), 3)) rfl (show aTab 63 30 = some (.iaload, 1, 0, 0, 0, 0, 0, 0) from rfl) ⟨rfl, by omega⟩ hf (by omega)) ?_
      refine e_then (e_il1 hT (y := 63) (pc := 31) (q := (yX3_agrees, cX3_agrees, 3, (some .boolean), 3)) rfl (show aTab 63 31 = some (.iload_n 1, 1, 0, 0, 0, 0, 0, 0) from rfl) rfl h1) ?_
      refine e_then (e_st hT (y := 63) (pc := 32) (q := (yX3_agrees, cX3_agrees, 3, (some .boolean), 3)) rfl (show aTab 63 32 = some (.iand, 1, 0, 0, 0, 0, 0, 0) from rfl) (fr' := (63, 33, lv, [.int ((f (Int32.ofNat k).toInt.toNat) &&& set)])) (M' := M) rfl) ?_
      refine e_then (e_st hT (y := 63) (pc := 33) (q := (yX3_agrees, cX3_agrees, 3, (some .boolean), 3)) rfl (show aTab 63 33 = some (.iconst 1, 1, 0, 0, 0, 0, 0, 0) from rfl) (fr' := (63, 34, lv, [.int 1, .int ((f (Int32.ofNat k).toInt.toNat) &&& set)])) (M' := M) rfl) ?_
      refine e_then (e_il1 hT (y := 63) (pc := 34) (q := (yX3_agrees, cX3_agrees, 3, (some .boolean), 3)) rfl (show aTab 63 34 = some (.iload_n 2, 1, 0, 0, 0, 0, 0, 0) from rfl) rfl h2) ?_
      refine e_then (e_st hT (y := 63) (pc := 35) (q := (yX3_agrees, cX3_agrees, 3, (some .boolean), 3)) rfl (show aTab 63 35 = some (.ishl, 1, 0, 0, 0, 0, 0, 0) from rfl) (fr' := (63, 36, lv, [.int (1 <<< ((Int32.ofNat k) &&& 31)), .int ((f (Int32.ofNat k).toInt.toNat) &&& set)])) (M' := M) rfl) ?_
      refine e_then (e_st hT (y := 63) (pc := 36) (q := (yX3_agrees, cX3_agrees, 3, (some .boolean), 3)) rfl (show aTab 63 36 = some (.iconst (-1), 1, 0, 0, 0, 0, 0, 0) from rfl) (fr' := (63, 37, lv, [.int (-1), .int (1 <<< ((Int32.ofNat k) &&& 31)), .int ((f (Int32.ofNat k).toInt.toNat) &&& set)])) (M' := M) rfl) ?_
      refine e_then (e_st hT (y := 63) (pc := 37) (q := (yX3_agrees, cX3_agrees, 3, (some .boolean), 3)) rfl (show aTab 63 37 = some (.ixor, 1, 0, 0, 0, 0, 0, 0) from rfl) (fr' := (63, 38, lv, [.int ((1 <<< ((Int32.ofNat k) &&& 31)) ^^^ (-1)), .int ((f (Int32.ofNat k).toInt.toNat) &&& set)])) (M' := M) rfl) ?_
      refine e_then (e_st hT (y := 63) (pc := 38) (q := (yX3_agrees, cX3_agrees, 3, (some .boolean), 3)) rfl (show aTab 63 38 = some (.iand, 1, 0, 0, 0, 0, 0, 0) from rfl) (fr' := (63, 39, lv, [.int (((f (Int32.ofNat k).toInt.toNat) &&& set) &&& ((1 <<< ((Int32.ofNat k) &&& 31)) ^^^ (-1)))])) (M' := M) rfl) ?_
      refine e_then (e_ifF hT (y := 63) (pc := 39) (q := (yX3_agrees, cX3_agrees, 3, (some .boolean), 3)) rfl (show aTab 63 39 = some (.ifCond .eq 5, 3, 0, 0, 0, 0, 0, 0) from rfl) rfl (t := 44) rfl (cdF (by show ¬ (f (Int32.ofNat k).toInt.toNat &&& set &&& ((1 <<< (Int32.ofNat k &&& 31)) ^^^ -1)).toInt = (0 : Int32).toInt; rw [hfk]; exact fun z => he (Int32.toInt_inj.mp z)))) ?_
      refine e_then (e_st hT (y := 63) (pc := 42) (q := (yX3_agrees, cX3_agrees, 3, (some .boolean), 3)) rfl (show aTab 63 42 = some (.iconst 0, 1, 0, 0, 0, 0, 0, 0) from rfl) (fr' := (63, 43, lv, [.int 0])) (M' := M) rfl) ?_
      exact e_fin (e_zret hT (y := 63) (pc := 43) (q := (yX3_agrees, cX3_agrees, 3, (some .boolean), 3)) rfl (show aTab 63 43 = some (.ireturn, 1, 0, 0, 0, 0, 0, 0) from rfl) ⟨rfl, rfl⟩ (Or.inl rfl)) ⟨rfl, rfl⟩
theorem xag_run (hT : aTabOk) {M : mHe} (hM : yTy M) {S : Nat} (hS : S ≤ 8) (hz : ∀ xs : tXs, yRd xs M 44 0 = some (.int (Int32.ofNat S))) {F : Nat → Int32} (hF : ntRows M 48 0 1 F) {set : Int32} {d : Nat} (hd : 60 ≤ d) : ∃ K, mRun none K d (63, 0, lv_args 0 [.ref 53, .int set], []) M = some (some (.int (gB (ntG F set S))), M) := by
  have go : mEv none 60 (63, 0, lv_args 0 [.ref 53, .int set], []) M (fun r M' => r = some (.int (gB (ntG F set S))) ∧ M' = M) := by
    refine e_then (e_st hT (y := 63) (pc := 0) (q := (yX3_agrees, cX3_agrees, 3, (some .boolean), 3)) rfl (show aTab 63 0 = some (.iconst 0, 1, 0, 0, 0, 0, 0, 0) from rfl) (fr' := (63, 1, (lv_args 0 [.ref 53, .int set]), [.int 0])) (M' := M) rfl) ?_
    refine e_then (e_is1 hT (y := 63) (pc := 1) (q := (yX3_agrees, cX3_agrees, 3, (some .boolean), 3)) rfl (show aTab 63 1 = some (.istore_n 2, 1, 0, 0, 0, 0, 0, 0) from rfl) ⟨rfl, by decide⟩) ?_
    exact xag_loop hT hM hS hz hF S 0 _ (by omega) rfl (mlg_r rfl (by decide)) (mlg_i rfl (by decide)) (mlg_eq 2 _ _)
  obtain ⟨K, r, M', q1, rfl, rfl⟩ := go
  exact ⟨K, mRun_dm q1 hd⟩
def xnB (M : mHe) (x y z : Int32) : Prop := (∀ xs : tXs, yRd xs M 44 5 = some (.int x)) ∧ (∀ xs : tXs, yRd xs M 44 6 = some (.int y)) ∧ ∀ xs : tXs, yRd xs M 44 7 = some (.int z)
def xnL (price time bp bm : Int32) : Prop := (price = bp ∧ time < bm) ∨ (¬ price = bp ∧ price < bp)
theorem xtl_a (hT : aTabOk) {M : mHe} (hM : yTy M) {bs bp bm : Int32} (hB : xnB M bs bp bm) {set price time : Int32} : ∃ (c : Bool) (lv : List (Nat × Value)), (c = true ↔ xnL price time bp bm) ∧ mTo none 50 (65, 0, lv_args 0 [.ref 53, .int set, .int price, .int time], []) M (65, 39, lv, []) M ∧ mlg 0 lv = some (.ref 53) ∧ mlg 1 lv = some (.int set) ∧ mlg 2 lv = some (.int price) ∧ mlg 3 lv = some (.int time) ∧ mlg 4 lv = some (.int (gB c)) := by
  obtain ⟨fs, hfs, -⟩ := yTy_obj hM (rfl : tTy 44 = some (.inr (3, _)))
  have hf6 := ob_get (by decide) hfs hB.2.1
  have hf7 := ob_get (by decide) hfs hB.2.2
  by_cases c1 : price = bp
  · by_cases c2 : time < bm
    · refine ⟨true, (mlp 4 (.int 1) (lv_args 0 [.ref 53, .int set, .int price, .int time])), ⟨fun _ => Or.inl ⟨c1, c2⟩, fun _ => rfl⟩, ?_, (mlg_r rfl (by decide)), (mlg_i rfl (by decide)), (mlg_i rfl (by decide)), (mlg_i rfl (by decide)), (mlg_eq 4 _ _)⟩
      refine mTo_tr (e_il1 hT (y := 65) (pc := 0) (q := (yX3_takeIfLess, cX3_takeIfLess, 5, none, 3)) rfl (show aTab 65 0 = some (.iload_n 2, 1, 0, 0, 0, 0, 0, 0) from rfl) rfl rfl) ?_
      refine mTo_tr (e_al1 hT (y := 65) (pc := 1) (q := (yX3_takeIfLess, cX3_takeIfLess, 5, none, 3)) rfl (show aTab 65 1 = some (.aload_n 0, 1, 0, 0, 0, 0, 0, 0) from rfl) rfl rfl) ?_
      refine mTo_tr (e_getf hT (y := 65) (pc := 2) (q := (yX3_takeIfLess, cX3_takeIfLess, 5, none, 3)) rfl (show aTab 65 2 = some (.getfield 54, 3, 0, 3, 6, 0, 0, 0) from rfl) rfl (by decide) (by decide) hfs hf6) ?_
      refine mTo_tr (e_icF hT (y := 65) (pc := 5) (q := (yX3_takeIfLess, cX3_takeIfLess, 5, none, 3)) rfl (show aTab 65 5 = some (.if_icmp .ne 19, 3, 0, 0, 0, 0, 0, 0) from rfl) rfl (t := 24) rfl (cdF (by show ¬ ¬ _ = _; rw [c1]; exact fun z => z rfl))) ?_
      refine mTo_tr (e_il1 hT (y := 65) (pc := 8) (q := (yX3_takeIfLess, cX3_takeIfLess, 5, none, 3)) rfl (show aTab 65 8 = some (.iload_n 3, 1, 0, 0, 0, 0, 0, 0) from rfl) rfl rfl) ?_
      refine mTo_tr (e_al1 hT (y := 65) (pc := 9) (q := (yX3_takeIfLess, cX3_takeIfLess, 5, none, 3)) rfl (show aTab 65 9 = some (.aload_n 0, 1, 0, 0, 0, 0, 0, 0) from rfl) rfl rfl) ?_
      refine mTo_tr (e_getf hT (y := 65) (pc := 10) (q := (yX3_takeIfLess, cX3_takeIfLess, 5, none, 3)) rfl (show aTab 65 10 = some (.getfield 57, 3, 0, 3, 7, 0, 0, 0) from rfl) rfl (by decide) (by decide) hfs hf7) ?_
      refine mTo_tr (e_icF hT (y := 65) (pc := 13) (q := (yX3_takeIfLess, cX3_takeIfLess, 5, none, 3)) rfl (show aTab 65 13 = some (.if_icmp .ge 7, 3, 0, 0, 0, 0, 0, 0) from rfl) rfl (t := 20) rfl (cdF (by show ¬ _ ≤ _; exact Int.not_le.mpr (Int32.lt_iff_toInt_lt.mp c2)))) ?_
      refine mTo_tr (e_st hT (y := 65) (pc := 16) (q := (yX3_takeIfLess, cX3_takeIfLess, 5, none, 3)) rfl (show aTab 65 16 = some (.iconst 1, 1, 0, 0, 0, 0, 0, 0) from rfl) (fr' := (65, 17, (lv_args 0 [.ref 53, .int set, .int price, .int time]), [.int 1])) (M' := M) rfl) ?_
      refine mTo_tr (e_st hT (y := 65) (pc := 17) (q := (yX3_takeIfLess, cX3_takeIfLess, 5, none, 3)) rfl (show aTab 65 17 = some (.goto 20, 3, 0, 0, 0, 0, 0, 0) from rfl) (fr' := (65, 37, (lv_args 0 [.ref 53, .int set, .int price, .int time]), [.int 1])) (M' := M) rfl) ?_
      refine mTo_tr (e_is2 hT (y := 65) (pc := 37) (q := (yX3_takeIfLess, cX3_takeIfLess, 5, none, 3)) rfl (show aTab 65 37 = some (.istore 4, 2, 0, 0, 0, 0, 0, 0) from rfl) ⟨rfl, by decide⟩) ?_
      exact mTo_rf
    · refine ⟨false, (mlp 4 (.int 0) (lv_args 0 [.ref 53, .int set, .int price, .int time])), ⟨fun z => (by cases z), fun z => (z.elim (fun z => absurd z.2 c2) (fun z => absurd c1 z.1))⟩, ?_, (mlg_r rfl (by decide)), (mlg_i rfl (by decide)), (mlg_i rfl (by decide)), (mlg_i rfl (by decide)), (mlg_eq 4 _ _)⟩
      refine mTo_tr (e_il1 hT (y := 65) (pc := 0) (q := (yX3_takeIfLess, cX3_takeIfLess, 5, none, 3)) rfl (show aTab 65 0 = some (.iload_n 2, 1, 0, 0, 0, 0, 0, 0) from rfl) rfl rfl) ?_
      refine mTo_tr (e_al1 hT (y := 65) (pc := 1) (q := (yX3_takeIfLess, cX3_takeIfLess, 5, none, 3)) rfl (show aTab 65 1 = some (.aload_n 0, 1, 0, 0, 0, 0, 0, 0) from rfl) rfl rfl) ?_
      refine mTo_tr (e_getf hT (y := 65) (pc := 2) (q := (yX3_takeIfLess, cX3_takeIfLess, 5, none, 3)) rfl (show aTab 65 2 = some (.getfield 54, 3, 0, 3, 6, 0, 0, 0) from rfl) rfl (by decide) (by decide) hfs hf6) ?_
      refine mTo_tr (e_icF hT (y := 65) (pc := 5) (q := (yX3_takeIfLess, cX3_takeIfLess, 5, none, 3)) rfl (show aTab 65 5 = some (.if_icmp .ne 19, 3, 0, 0, 0, 0, 0, 0) from rfl) rfl (t := 24) rfl (cdF (by show ¬ ¬ _ = _; rw [c1]; exact fun z => z rfl))) ?_
      refine mTo_tr (e_il1 hT (y := 65) (pc := 8) (q := (yX3_takeIfLess, cX3_takeIfLess, 5, none, 3)) rfl (show aTab 65 8 = some (.iload_n 3, 1, 0, 0, 0, 0, 0, 0) from rfl) rfl rfl) ?_
      refine mTo_tr (e_al1 hT (y := 65) (pc := 9) (q := (yX3_takeIfLess, cX3_takeIfLess, 5, none, 3)) rfl (show aTab 65 9 = some (.aload_n 0, 1, 0, 0, 0, 0, 0, 0) from rfl) rfl rfl) ?_
      refine mTo_tr (e_getf hT (y := 65) (pc := 10) (q := (yX3_takeIfLess, cX3_takeIfLess, 5, none, 3)) rfl (show aTab 65 10 = some (.getfield 57, 3, 0, 3, 7, 0, 0, 0) from rfl) rfl (by decide) (by decide) hfs hf7) ?_
      refine mTo_tr (e_icT hT (y := 65) (pc := 13) (q := (yX3_takeIfLess, cX3_takeIfLess, 5, none, 3)) rfl (show aTab 65 13 = some (.if_icmp .ge 7, 3, 0, 0, 0, 0, 0, 0) from rfl) rfl (t := 20) rfl (cdT (by show _ ≤ _; exact Int.not_lt.mp (fun z => c2 (Int32.lt_iff_toInt_lt.mpr z))))) ?_
      refine mTo_tr (e_st hT (y := 65) (pc := 20) (q := (yX3_takeIfLess, cX3_takeIfLess, 5, none, 3)) rfl (show aTab 65 20 = some (.iconst 0, 1, 0, 0, 0, 0, 0, 0) from rfl) (fr' := (65, 21, (lv_args 0 [.ref 53, .int set, .int price, .int time]), [.int 0])) (M' := M) rfl) ?_
      refine mTo_tr (e_st hT (y := 65) (pc := 21) (q := (yX3_takeIfLess, cX3_takeIfLess, 5, none, 3)) rfl (show aTab 65 21 = some (.goto 16, 3, 0, 0, 0, 0, 0, 0) from rfl) (fr' := (65, 37, (lv_args 0 [.ref 53, .int set, .int price, .int time]), [.int 0])) (M' := M) rfl) ?_
      refine mTo_tr (e_is2 hT (y := 65) (pc := 37) (q := (yX3_takeIfLess, cX3_takeIfLess, 5, none, 3)) rfl (show aTab 65 37 = some (.istore 4, 2, 0, 0, 0, 0, 0, 0) from rfl) ⟨rfl, by decide⟩) ?_
      exact mTo_rf
  · by_cases c2 : price < bp
    · refine ⟨true, (mlp 4 (.int 1) (lv_args 0 [.ref 53, .int set, .int price, .int time])), ⟨fun _ => Or.inr ⟨c1, c2⟩, fun _ => rfl⟩, ?_, (mlg_r rfl (by decide)), (mlg_i rfl (by decide)), (mlg_i rfl (by decide)), (mlg_i rfl (by decide)), (mlg_eq 4 _ _)⟩
      refine mTo_tr (e_il1 hT (y := 65) (pc := 0) (q := (yX3_takeIfLess, cX3_takeIfLess, 5, none, 3)) rfl (show aTab 65 0 = some (.iload_n 2, 1, 0, 0, 0, 0, 0, 0) from rfl) rfl rfl) ?_
      refine mTo_tr (e_al1 hT (y := 65) (pc := 1) (q := (yX3_takeIfLess, cX3_takeIfLess, 5, none, 3)) rfl (show aTab 65 1 = some (.aload_n 0, 1, 0, 0, 0, 0, 0, 0) from rfl) rfl rfl) ?_
      refine mTo_tr (e_getf hT (y := 65) (pc := 2) (q := (yX3_takeIfLess, cX3_takeIfLess, 5, none, 3)) rfl (show aTab 65 2 = some (.getfield 54, 3, 0, 3, 6, 0, 0, 0) from rfl) rfl (by decide) (by decide) hfs hf6) ?_
      refine mTo_tr (e_icT hT (y := 65) (pc := 5) (q := (yX3_takeIfLess, cX3_takeIfLess, 5, none, 3)) rfl (show aTab 65 5 = some (.if_icmp .ne 19, 3, 0, 0, 0, 0, 0, 0) from rfl) rfl (t := 24) rfl (cdT (by show ¬ _ = _; exact fun z => c1 (Int32.toInt_inj.mp z)))) ?_
      refine mTo_tr (e_il1 hT (y := 65) (pc := 24) (q := (yX3_takeIfLess, cX3_takeIfLess, 5, none, 3)) rfl (show aTab 65 24 = some (.iload_n 2, 1, 0, 0, 0, 0, 0, 0) from rfl) rfl rfl) ?_
      refine mTo_tr (e_al1 hT (y := 65) (pc := 25) (q := (yX3_takeIfLess, cX3_takeIfLess, 5, none, 3)) rfl (show aTab 65 25 = some (.aload_n 0, 1, 0, 0, 0, 0, 0, 0) from rfl) rfl rfl) ?_
      refine mTo_tr (e_getf hT (y := 65) (pc := 26) (q := (yX3_takeIfLess, cX3_takeIfLess, 5, none, 3)) rfl (show aTab 65 26 = some (.getfield 54, 3, 0, 3, 6, 0, 0, 0) from rfl) rfl (by decide) (by decide) hfs hf6) ?_
      refine mTo_tr (e_icF hT (y := 65) (pc := 29) (q := (yX3_takeIfLess, cX3_takeIfLess, 5, none, 3)) rfl (show aTab 65 29 = some (.if_icmp .ge 7, 3, 0, 0, 0, 0, 0, 0) from rfl) rfl (t := 36) rfl (cdF (by show ¬ _ ≤ _; exact Int.not_le.mpr (Int32.lt_iff_toInt_lt.mp c2)))) ?_
      refine mTo_tr (e_st hT (y := 65) (pc := 32) (q := (yX3_takeIfLess, cX3_takeIfLess, 5, none, 3)) rfl (show aTab 65 32 = some (.iconst 1, 1, 0, 0, 0, 0, 0, 0) from rfl) (fr' := (65, 33, (lv_args 0 [.ref 53, .int set, .int price, .int time]), [.int 1])) (M' := M) rfl) ?_
      refine mTo_tr (e_st hT (y := 65) (pc := 33) (q := (yX3_takeIfLess, cX3_takeIfLess, 5, none, 3)) rfl (show aTab 65 33 = some (.goto 4, 3, 0, 0, 0, 0, 0, 0) from rfl) (fr' := (65, 37, (lv_args 0 [.ref 53, .int set, .int price, .int time]), [.int 1])) (M' := M) rfl) ?_
      refine mTo_tr (e_is2 hT (y := 65) (pc := 37) (q := (yX3_takeIfLess, cX3_takeIfLess, 5, none, 3)) rfl (show aTab 65 37 = some (.istore 4, 2, 0, 0, 0, 0, 0, 0) from rfl) ⟨rfl, by decide⟩) ?_
      exact mTo_rf
    · refine ⟨false, (mlp 4 (.int 0) (lv_args 0 [.ref 53, .int set, .int price, .int time])), ⟨fun z => (by cases z), fun z => (z.elim (fun z => absurd z.1 c1) (fun z => absurd z.2 c2))⟩, ?_, (mlg_r rfl (by decide)), (mlg_i rfl (by decide)), (mlg_i rfl (by decide)), (mlg_i rfl (by decide)), (mlg_eq 4 _ _)⟩
      refine mTo_tr (e_il1 hT (y := 65) (pc := 0) (q := (yX3_takeIfLess, cX3_takeIfLess, 5, none, 3)) rfl (show aTab 65 0 = some (.iload_n 2, 1, 0, 0, 0, 0, 0, 0) from rfl) rfl rfl) ?_
      refine mTo_tr (e_al1 hT (y := 65) (pc := 1) (q := (yX3_takeIfLess, cX3_takeIfLess, 5, none, 3)) rfl (show aTab 65 1 = some (.aload_n 0, 1, 0, 0, 0, 0, 0, 0) from rfl) rfl rfl) ?_
      refine mTo_tr (e_getf hT (y := 65) (pc := 2) (q := (yX3_takeIfLess, cX3_takeIfLess, 5, none, 3)) rfl (show aTab 65 2 = some (.getfield 54, 3, 0, 3, 6, 0, 0, 0) from rfl) rfl (by decide) (by decide) hfs hf6) ?_
      refine mTo_tr (e_icT hT (y := 65) (pc := 5) (q := (yX3_takeIfLess, cX3_takeIfLess, 5, none, 3)) rfl (show aTab 65 5 = some (.if_icmp .ne 19, 3, 0, 0, 0, 0, 0, 0) from rfl) rfl (t := 24) rfl (cdT (by show ¬ _ = _; exact fun z => c1 (Int32.toInt_inj.mp z)))) ?_
      refine mTo_tr (e_il1 hT (y := 65) (pc := 24) (q := (yX3_takeIfLess, cX3_takeIfLess, 5, none, 3)) rfl (show aTab 65 24 = some (.iload_n 2, 1, 0, 0, 0, 0, 0, 0) from rfl) rfl rfl) ?_
      refine mTo_tr (e_al1 hT (y := 65) (pc := 25) (q := (yX3_takeIfLess, cX3_takeIfLess, 5, none, 3)) rfl (show aTab 65 25 = some (.aload_n 0, 1, 0, 0, 0, 0, 0, 0) from rfl) rfl rfl) ?_
      refine mTo_tr (e_getf hT (y := 65) (pc := 26) (q := (yX3_takeIfLess, cX3_takeIfLess, 5, none, 3)) rfl (show aTab 65 26 = some (.getfield 54, 3, 0, 3, 6, 0, 0, 0) from rfl) rfl (by decide) (by decide) hfs hf6) ?_
      refine mTo_tr (e_icT hT (y := 65) (pc := 29) (q := (yX3_takeIfLess, cX3_takeIfLess, 5, none, 3)) rfl (show aTab 65 29 = some (.if_icmp .ge 7, 3, 0, 0, 0, 0, 0, 0) from rfl) rfl (t := 36) rfl (cdT (by show _ ≤ _; exact Int.not_lt.mp (fun z => c2 (Int32.lt_iff_toInt_lt.mpr z))))) ?_
      refine mTo_tr (e_st hT (y := 65) (pc := 36) (q := (yX3_takeIfLess, cX3_takeIfLess, 5, none, 3)) rfl (show aTab 65 36 = some (.iconst 0, 1, 0, 0, 0, 0, 0, 0) from rfl) (fr' := (65, 37, (lv_args 0 [.ref 53, .int set, .int price, .int time]), [.int 0])) (M' := M) rfl) ?_
      refine mTo_tr (e_is2 hT (y := 65) (pc := 37) (q := (yX3_takeIfLess, cX3_takeIfLess, 5, none, 3)) rfl (show aTab 65 37 = some (.istore 4, 2, 0, 0, 0, 0, 0, 0) from rfl) ⟨rfl, by decide⟩) ?_
      exact mTo_rf
def xnW : List tG := [(44, 5, 7, 1, 0)]
theorem xnW_in {k : Nat} (h : 5 ≤ k ∧ k ≤ 7) {M M' : mHe} (hf : ∀ (xs : tXs) (c' k' : Nat), ¬ (c' = 44 ∧ k' = k) → yRd xs M' c' k' = yRd xs M c' k') : yFr xnW M M' := fun xs c k' hn => hf xs c k' (fun z => hn (44, 5, 7, 1, 0) (List.mem_singleton_self _) ⟨z.1.symm, by show (5 : Int) ≤ _; omega, by show _ ≤ (7 : Int); omega, Int.emod_one _⟩)
theorem xtl_run (hT : aTabOk) {M : mHe} (hM : yTy M) {bs bp bm : Int32} (hB : xnB M bs bp bm) {set price time : Int32} {d : Nat} (hd : 50 ≤ d) : ∃ K M', mRun none K d (65, 0, lv_args 0 [.ref 53, .int set, .int price, .int time], []) M = some (none, M') ∧ yTy M' ∧ yFr xnW M M' ∧ ((bs = -1000000005 ∨ xnL price time bp bm) → xnB M' set price time) ∧ (¬ (bs = -1000000005 ∨ xnL price time bp bm) → xnB M' bs bp bm) := by
  obtain ⟨c, lv, hc, t1, h0, h1, h2, h3, h4⟩ := xtl_a hT hM hB (set := set) (price := price) (time := time)
  obtain ⟨fs, hfs, -⟩ := yTy_obj hM (rfl : tTy 44 = some (.inr (3, _)))
  have hf5 := ob_get (by decide) hfs hB.1
  have fu : ∀ x : Int32, (-2147483648 : Int) ≤ x.toInt ∧ x.toInt ≤ 2147483647 := fun x => ⟨i32_lo x, i32_hi x⟩
  obtain ⟨gs, g1, g2, g3, g4, g5⟩ := ob_put hM (rfl : tTy 44 = some (.inr (3, _))) (k := 5) rfl (fu set)
  obtain ⟨M1, hM1⟩ : ∃ M1, M1 = M.set 44 (.inr (3, gs.set 5 (.int set))) := ⟨_, rfl⟩
  rw [← hM1] at g3 g4 g5
  obtain ⟨ks, k1, k2, k3, k4, k5⟩ := ob_put g3 (rfl : tTy 44 = some (.inr (3, _))) (k := 6) rfl (fu price)
  obtain ⟨M2, hM2⟩ : ∃ M2, M2 = M1.set 44 (.inr (3, ks.set 6 (.int price))) := ⟨_, rfl⟩
  rw [← hM2] at k3 k4 k5
  obtain ⟨js, j1, j2, j3, j4, j5⟩ := ob_put k3 (rfl : tTy 44 = some (.inr (3, _))) (k := 7) rfl (fu time)
  obtain ⟨M3, hM3⟩ : ∃ M3, M3 = M2.set 44 (.inr (3, js.set 7 (.int time))) := ⟨_, rfl⟩
  rw [← hM3] at j3 j4 j5
  have hfr : yFr xnW M M3 := yFr_tr (xnW_in (by decide) g5) (yFr_tr (xnW_in (by decide) k5) (xnW_in (by decide) j5))
  have hB3 : xnB M3 set price time := ⟨fun xs => (j5 xs 44 5 (fun z => by omega)).trans ((k5 xs 44 5 (fun z => by omega)).trans (g4 xs)), fun xs => (j5 xs 44 6 (fun z => by omega)).trans (k4 xs), j4⟩
  have kN : (-1000000005 : Int32).toInt = -1000000005 := rfl
  have go : ∀ Q : Option Value → mHe → Prop, mEv none 50 (65, 39, lv, []) M Q → ∃ K r M', mRun none K d (65, 0, lv_args 0 [.ref 53, .int set, .int price, .int time], []) M = some (r, M') ∧ Q r M' := fun Q h => by
    obtain ⟨K, r, M', q1, q2⟩ := e_then t1 h
    exact ⟨K, r, M', mRun_dm q1 hd, q2⟩
  by_cases a1 : bs = -1000000005
  · have hC : bs = -1000000005 ∨ xnL price time bp bm := Or.inl a1
    obtain ⟨K, r, M', q1, rfl, rfl⟩ := go (fun r M' => r = none ∧ M' = M3) (by
      refine e_then (e_al1 hT (y := 65) (pc := 39) (q := (yX3_takeIfLess, cX3_takeIfLess, 5, none, 3)) rfl (show aTab 65 39 = some (.aload_n 0, 1, 0, 0, 0, 0, 0, 0) from rfl) rfl h0) ?_
      refine e_then (e_getf hT (y := 65) (pc := 40) (q := (yX3_takeIfLess, cX3_takeIfLess, 5, none, 3)) rfl (show aTab 65 40 = some (.getfield 39, 3, 0, 3, 5, 0, 0, 0) from rfl) rfl (by decide) (by decide) hfs hf5) ?_
      refine e_then (e_st hT (y := 65) (pc := 43) (q := (yX3_takeIfLess, cX3_takeIfLess, 5, none, 3)) rfl (show aTab 65 43 = some (.ldc 38, 2, 7, 0, (-1000000005), 0, 0, 0) from rfl) (fr' := (65, 45, lv, [.int (-1000000005), .int bs])) (M' := M) rfl) ?_
      refine e_then (e_icT hT (y := 65) (pc := 45) (q := (yX3_takeIfLess, cX3_takeIfLess, 5, none, 3)) rfl (show aTab 65 45 = some (.if_icmp .eq 8, 3, 0, 0, 0, 0, 0, 0) from rfl) rfl (t := 53) rfl (cdT (by show _ = _; rw [a1]))) ?_
      refine e_then (e_al1 hT (y := 65) (pc := 53) (q := (yX3_takeIfLess, cX3_takeIfLess, 5, none, 3)) rfl (show aTab 65 53 = some (.aload_n 0, 1, 0, 0, 0, 0, 0, 0) from rfl) rfl h0) ?_
      refine e_then (e_il1 hT (y := 65) (pc := 54) (q := (yX3_takeIfLess, cX3_takeIfLess, 5, none, 3)) rfl (show aTab 65 54 = some (.iload_n 1, 1, 0, 0, 0, 0, 0, 0) from rfl) rfl h1) ?_
      refine e_then (fr' := (65, 58, lv, [])) (M' := M1) (by rw [hM1]; exact e_putf hT (y := 65) (pc := 55) (q := (yX3_takeIfLess, cX3_takeIfLess, 5, none, 3)) rfl (show aTab 65 55 = some (.putfield 39, 3, 0, 3, 5, 0, 0, 0) from rfl) rfl rfl ⟨by decide, rfl, rfl⟩ (by decide) g1 g2) ?_
      refine e_then (e_al1 hT (y := 65) (pc := 58) (q := (yX3_takeIfLess, cX3_takeIfLess, 5, none, 3)) rfl (show aTab 65 58 = some (.aload_n 0, 1, 0, 0, 0, 0, 0, 0) from rfl) rfl h0) ?_
      refine e_then (e_il1 hT (y := 65) (pc := 59) (q := (yX3_takeIfLess, cX3_takeIfLess, 5, none, 3)) rfl (show aTab 65 59 = some (.iload_n 2, 1, 0, 0, 0, 0, 0, 0) from rfl) rfl h2) ?_
      refine e_then (fr' := (65, 63, lv, [])) (M' := M2) (by rw [hM2]; exact e_putf hT (y := 65) (pc := 60) (q := (yX3_takeIfLess, cX3_takeIfLess, 5, none, 3)) rfl (show aTab 65 60 = some (.putfield 54, 3, 0, 3, 6, 0, 0, 0) from rfl) rfl rfl ⟨by decide, rfl, rfl⟩ (by decide) k1 k2) ?_
      refine e_then (e_al1 hT (y := 65) (pc := 63) (q := (yX3_takeIfLess, cX3_takeIfLess, 5, none, 3)) rfl (show aTab 65 63 = some (.aload_n 0, 1, 0, 0, 0, 0, 0, 0) from rfl) rfl h0) ?_
      refine e_then (e_il1 hT (y := 65) (pc := 64) (q := (yX3_takeIfLess, cX3_takeIfLess, 5, none, 3)) rfl (show aTab 65 64 = some (.iload_n 3, 1, 0, 0, 0, 0, 0, 0) from rfl) rfl h3) ?_
      refine e_then (fr' := (65, 68, lv, [])) (M' := M3) (by rw [hM3]; exact e_putf hT (y := 65) (pc := 65) (q := (yX3_takeIfLess, cX3_takeIfLess, 5, none, 3)) rfl (show aTab 65 65 = some (.putfield 57, 3, 0, 3, 7, 0, 0, 0) from rfl) rfl rfl ⟨by decide, rfl, rfl⟩ (by decide) j1 j2) ?_
      exact e_fin (e_vret hT (y := 65) (pc := 68) (q := (yX3_takeIfLess, cX3_takeIfLess, 5, none, 3)) rfl (show aTab 65 68 = some (.return_, 1, 0, 0, 0, 0, 0, 0) from rfl) ⟨rfl, rfl⟩) ⟨rfl, rfl⟩)
    exact ⟨K, M', q1, j3, hfr, fun _ => hB3, fun z => absurd hC z⟩
  by_cases a2 : xnL price time bp bm
  · have hc1 : c = true := hc.mpr a2
    subst hc1
    obtain ⟨K, r, M', q1, rfl, rfl⟩ := go (fun r M' => r = none ∧ M' = M3) (by
      refine e_then (e_al1 hT (y := 65) (pc := 39) (q := (yX3_takeIfLess, cX3_takeIfLess, 5, none, 3)) rfl (show aTab 65 39 = some (.aload_n 0, 1, 0, 0, 0, 0, 0, 0) from rfl) rfl h0) ?_
      refine e_then (e_getf hT (y := 65) (pc := 40) (q := (yX3_takeIfLess, cX3_takeIfLess, 5, none, 3)) rfl (show aTab 65 40 = some (.getfield 39, 3, 0, 3, 5, 0, 0, 0) from rfl) rfl (by decide) (by decide) hfs hf5) ?_
      refine e_then (e_st hT (y := 65) (pc := 43) (q := (yX3_takeIfLess, cX3_takeIfLess, 5, none, 3)) rfl (show aTab 65 43 = some (.ldc 38, 2, 7, 0, (-1000000005), 0, 0, 0) from rfl) (fr' := (65, 45, lv, [.int (-1000000005), .int bs])) (M' := M) rfl) ?_
      refine e_then (e_icF hT (y := 65) (pc := 45) (q := (yX3_takeIfLess, cX3_takeIfLess, 5, none, 3)) rfl (show aTab 65 45 = some (.if_icmp .eq 8, 3, 0, 0, 0, 0, 0, 0) from rfl) rfl (t := 53) rfl (cdF (by show ¬ _ = _; exact fun z => a1 (Int32.toInt_inj.mp (z.trans kN.symm))))) ?_
      refine e_then (e_il2 hT (y := 65) (pc := 48) (q := (yX3_takeIfLess, cX3_takeIfLess, 5, none, 3)) rfl (show aTab 65 48 = some (.iload 4, 2, 0, 0, 0, 0, 0, 0) from rfl) rfl h4) ?_
      refine e_then (e_ifF hT (y := 65) (pc := 50) (q := (yX3_takeIfLess, cX3_takeIfLess, 5, none, 3)) rfl (show aTab 65 50 = some (.ifCond .eq 18, 3, 0, 0, 0, 0, 0, 0) from rfl) rfl (t := 68) rfl (cdF (by show ¬ (1 : Int32).toInt = 0; decide))) ?_
      refine e_then (e_al1 hT (y := 65) (pc := 53) (q := (yX3_takeIfLess, cX3_takeIfLess, 5, none, 3)) rfl (show aTab 65 53 = some (.aload_n 0, 1, 0, 0, 0, 0, 0, 0) from rfl) rfl h0) ?_
      refine e_then (e_il1 hT (y := 65) (pc := 54) (q := (yX3_takeIfLess, cX3_takeIfLess, 5, none, 3)) rfl (show aTab 65 54 = some (.iload_n 1, 1, 0, 0, 0, 0, 0, 0) from rfl) rfl h1) ?_
      refine e_then (fr' := (65, 58, lv, [])) (M' := M1) (by rw [hM1]; exact e_putf hT (y := 65) (pc := 55) (q := (yX3_takeIfLess, cX3_takeIfLess, 5, none, 3)) rfl (show aTab 65 55 = some (.putfield 39, 3, 0, 3, 5, 0, 0, 0) from rfl) rfl rfl ⟨by decide, rfl, rfl⟩ (by decide) g1 g2) ?_
      refine e_then (e_al1 hT (y := 65) (pc := 58) (q := (yX3_takeIfLess, cX3_takeIfLess, 5, none, 3)) rfl (show aTab 65 58 = some (.aload_n 0, 1, 0, 0, 0, 0, 0, 0) from rfl) rfl h0) ?_
      refine e_then (e_il1 hT (y := 65) (pc := 59) (q := (yX3_takeIfLess, cX3_takeIfLess, 5, none, 3)) rfl (show aTab 65 59 = some (.iload_n 2, 1, 0, 0, 0, 0, 0, 0) from rfl) rfl h2) ?_
      refine e_then (fr' := (65, 63, lv, [])) (M' := M2) (by rw [hM2]; exact e_putf hT (y := 65) (pc := 60) (q := (yX3_takeIfLess, cX3_takeIfLess, 5, none, 3)) rfl (show aTab 65 60 = some (.putfield 54, 3, 0, 3, 6, 0, 0, 0) from rfl) rfl rfl ⟨by decide, rfl, rfl⟩ (by decide) k1 k2) ?_
      refine e_then (e_al1 hT (y := 65) (pc := 63) (q := (yX3_takeIfLess, cX3_takeIfLess, 5, none, 3)) rfl (show aTab 65 63 = some (.aload_n 0, 1, 0, 0, 0, 0, 0, 0) from rfl) rfl h0) ?_
      refine e_then (e_il1 hT (y := 65) (pc := 64) (q := (yX3_takeIfLess, cX3_takeIfLess, 5, none, 3)) rfl (show aTab 65 64 = some (.iload_n 3, 1, 0, 0, 0, 0, 0, 0) from rfl) rfl h3) ?_
      refine e_then (fr' := (65, 68, lv, [])) (M' := M3) (by rw [hM3]; exact e_putf hT (y := 65) (pc := 65) (q := (yX3_takeIfLess, cX3_takeIfLess, 5, none, 3)) rfl (show aTab 65 65 = some (.putfield 57, 3, 0, 3, 7, 0, 0, 0) from rfl) rfl rfl ⟨by decide, rfl, rfl⟩ (by decide) j1 j2) ?_
      exact e_fin (e_vret hT (y := 65) (pc := 68) (q := (yX3_takeIfLess, cX3_takeIfLess, 5, none, 3)) rfl (show aTab 65 68 = some (.return_, 1, 0, 0, 0, 0, 0, 0) from rfl) ⟨rfl, rfl⟩) ⟨rfl, rfl⟩)
    exact ⟨K, M', q1, j3, hfr, fun _ => hB3, fun z => absurd (Or.inr a2) z⟩
  · have hc0 : c = false := by cases c; rfl; exact absurd (hc.mp rfl) a2
    subst hc0
    obtain ⟨K, r, M', q1, rfl, rfl⟩ := go (fun r M' => r = none ∧ M' = M) (by
      refine e_then (e_al1 hT (y := 65) (pc := 39) (q := (yX3_takeIfLess, cX3_takeIfLess, 5, none, 3)) rfl (show aTab 65 39 = some (.aload_n 0, 1, 0, 0, 0, 0, 0, 0) from rfl) rfl h0) ?_
      refine e_then (e_getf hT (y := 65) (pc := 40) (q := (yX3_takeIfLess, cX3_takeIfLess, 5, none, 3)) rfl (show aTab 65 40 = some (.getfield 39, 3, 0, 3, 5, 0, 0, 0) from rfl) rfl (by decide) (by decide) hfs hf5) ?_
      refine e_then (e_st hT (y := 65) (pc := 43) (q := (yX3_takeIfLess, cX3_takeIfLess, 5, none, 3)) rfl (show aTab 65 43 = some (.ldc 38, 2, 7, 0, (-1000000005), 0, 0, 0) from rfl) (fr' := (65, 45, lv, [.int (-1000000005), .int bs])) (M' := M) rfl) ?_
      refine e_then (e_icF hT (y := 65) (pc := 45) (q := (yX3_takeIfLess, cX3_takeIfLess, 5, none, 3)) rfl (show aTab 65 45 = some (.if_icmp .eq 8, 3, 0, 0, 0, 0, 0, 0) from rfl) rfl (t := 53) rfl (cdF (by show ¬ _ = _; exact fun z => a1 (Int32.toInt_inj.mp (z.trans kN.symm))))) ?_
      refine e_then (e_il2 hT (y := 65) (pc := 48) (q := (yX3_takeIfLess, cX3_takeIfLess, 5, none, 3)) rfl (show aTab 65 48 = some (.iload 4, 2, 0, 0, 0, 0, 0, 0) from rfl) rfl h4) ?_
      refine e_then (e_ifT hT (y := 65) (pc := 50) (q := (yX3_takeIfLess, cX3_takeIfLess, 5, none, 3)) rfl (show aTab 65 50 = some (.ifCond .eq 18, 3, 0, 0, 0, 0, 0, 0) from rfl) rfl (t := 68) rfl (cdT (by show (0 : Int32).toInt = 0; rfl))) ?_
      exact e_fin (e_vret hT (y := 65) (pc := 68) (q := (yX3_takeIfLess, cX3_takeIfLess, 5, none, 3)) rfl (show aTab 65 68 = some (.return_, 1, 0, 0, 0, 0, 0, 0) from rfl) ⟨rfl, rfl⟩) ⟨rfl, rfl⟩)
    exact ⟨K, M', q1, hM, yFr_rf _ _, fun z => absurd z (by rintro (z | z); exact a1 z; exact a2 z), fun _ => hB⟩
/-- what the class keeps of the best -/
def xnI (v m p a : Nat → Int32) (S : Nat) (M M1 : mHe) (b : Int32) : Prop := yTy M1 ∧ yFr xnW M M1 ∧ ∃ y z : Int32, xnB M1 (if b < 0 then -1000000005 else b) y z ∧ (¬ b < 0 → y = ntS p b S ∧ z = ntS m b S)
theorem xn_fr {M M1 : mHe} (h : yFr xnW M M1) {c k : Nat} (hc : c ≠ 44 ∨ k < 5) : ∀ xs : tXs, yRd xs M1 c k = yRd xs M c k := fun xs => h xs c k (fun g hg hy => by
  rw [List.mem_singleton.mp hg] at hy
  have hy1 := hy.1
  have hy2 := hy.2.1
  simp only at hy1 hy2
  omega)
theorem xn_rows {M M1 : mHe} (h : yFr xnW M M1) {c : Nat} (hc : c ≠ 44) {F : Nat → Int32} (hF : ntRows M c 0 1 F) : ntRows M1 c 0 1 F := fun k hk xs => (xn_fr h (Or.inl hc) xs).trans (hF k hk xs)
theorem xsn_loop (hT : aTabOk) {M : mHe} {S : Nat} (hS : S ≤ 8) (hz : ∀ xs : tXs, yRd xs M 44 0 = some (.int (Int32.ofNat S))) {v m p a : Nat → Int32} (hv : ntRows M 45 0 1 v) (hm : ntRows M 46 0 1 m) (hp : ntRows M 47 0 1 p) (ha : ntRows M 48 0 1 a) {n mm : Int32} : ∀ (d t : Nat) (lv : List (Nat × Value)) (M1 : mHe), t + 1 + d = 2 ^ S → xnI v m p a S M M1 (ntF v m p a S n mm t) → mlg 0 lv = some (.ref 53) → mlg 1 lv = some (.int n) → mlg 2 lv = some (.int mm) → mlg 3 lv = some (.int (Int32.ofNat (t + 1))) → mEv none 70 (64, 32, lv, []) M1 (fun r M' => r = some (.int (if ntF v m p a S n mm (2 ^ S - 1) < 0 then -1000000005 else 0)) ∧ xnI v m p a S M M' (ntF v m p a S n mm (2 ^ S - 1))) := by
  have h2 := nt_2 S (by omega)
  have hpb := ntP_b hS
  have kN : (-1000000005 : Int32).toInt = -1000000005 := rfl
  intro d
  induction d with
  | zero =>
    intro t lv M1 hk hI h0 h1 h2' h3
    have hkn : (Int32.ofNat (t + 1)).toInt = ((t + 1 : Nat) : Int) := i32n (by omega)
    have ht : 2 ^ S - 1 = t := by omega
    rw [ht]
    have hr := ntF_r (v := v) (m := m) (p := p) (a := a) (S := S) (n := n) (mm := mm) t (by omega)
    obtain ⟨b, hb⟩ : ∃ b, b = ntF v m p a S n mm t := ⟨_, rfl⟩
    rw [← hb] at hI hr ⊢
    obtain ⟨i1, i2, y, z, i3, i4⟩ := id hI
    obtain ⟨fs, hfs, -⟩ := yTy_obj i1 (rfl : tTy 44 = some (.inr (3, _)))
    have hf0 := ob_get (by decide) hfs (fun xs => (xn_fr i2 (Or.inr (by decide)) xs).trans (hz xs))
    have hf5 := ob_get (by decide) hfs i3.1
    by_cases c1 : b < 0
    · rw [if_pos c1] at hf5 ⊢
      refine e_then (e_il1 hT (y := 64) (pc := 32) (q := (yX3_searchNight, cX3_searchNight, 5, (some .int), 3)) rfl (show aTab 64 32 = some (.iload_n 3, 1, 0, 0, 0, 0, 0, 0) from rfl) rfl h3) ?_
      refine e_then (e_st hT (y := 64) (pc := 33) (q := (yX3_searchNight, cX3_searchNight, 5, (some .int), 3)) rfl (show aTab 64 33 = some (.iconst 1, 1, 0, 0, 0, 0, 0, 0) from rfl) (fr' := (64, 34, lv, [.int 1, .int (Int32.ofNat (t + 1))])) (M' := M1) rfl) ?_
      refine e_then (e_al1 hT (y := 64) (pc := 34) (q := (yX3_searchNight, cX3_searchNight, 5, (some .int), 3)) rfl (show aTab 64 34 = some (.aload_n 0, 1, 0, 0, 0, 0, 0, 0) from rfl) rfl h0) ?_
      refine e_then (e_getf hT (y := 64) (pc := 35) (q := (yX3_searchNight, cX3_searchNight, 5, (some .int), 3)) rfl (show aTab 64 35 = some (.getfield 24, 3, 0, 3, 0, 0, 0, 0) from rfl) rfl (by decide) (by decide) hfs hf0) ?_
      refine e_then (e_st hT (y := 64) (pc := 38) (q := (yX3_searchNight, cX3_searchNight, 5, (some .int), 3)) rfl (show aTab 64 38 = some (.ishl, 1, 0, 0, 0, 0, 0, 0) from rfl) (fr' := (64, 39, lv, [.int (1 <<< ((Int32.ofNat S) &&& 31)), .int (Int32.ofNat (t + 1))])) (M' := M1) rfl) ?_
      refine e_then (e_icT hT (y := 64) (pc := 39) (q := (yX3_searchNight, cX3_searchNight, 5, (some .int), 3)) rfl (show aTab 64 39 = some (.if_icmp .ge 63, 3, 0, 0, 0, 0, 0, 0) from rfl) rfl (t := 102) rfl (cdT (by show _ ≤ _; omega))) ?_
      refine e_then (e_al1 hT (y := 64) (pc := 102) (q := (yX3_searchNight, cX3_searchNight, 5, (some .int), 3)) rfl (show aTab 64 102 = some (.aload_n 0, 1, 0, 0, 0, 0, 0, 0) from rfl) rfl h0) ?_
      refine e_then (e_getf hT (y := 64) (pc := 103) (q := (yX3_searchNight, cX3_searchNight, 5, (some .int), 3)) rfl (show aTab 64 103 = some (.getfield 39, 3, 0, 3, 5, 0, 0, 0) from rfl) rfl (by decide) (by decide) hfs hf5) ?_
      refine e_then (e_st hT (y := 64) (pc := 106) (q := (yX3_searchNight, cX3_searchNight, 5, (some .int), 3)) rfl (show aTab 64 106 = some (.ldc 38, 2, 7, 0, (-1000000005), 0, 0, 0) from rfl) (fr' := (64, 108, lv, [.int (-1000000005), .int (-1000000005)])) (M' := M1) rfl) ?_
      refine e_then (e_icF hT (y := 64) (pc := 108) (q := (yX3_searchNight, cX3_searchNight, 5, (some .int), 3)) rfl (show aTab 64 108 = some (.if_icmp .ne 8, 3, 0, 0, 0, 0, 0, 0) from rfl) rfl (t := 116) rfl (cdF (by show ¬ ¬ _ = _; exact fun z => z rfl))) ?_
      refine e_then (e_st hT (y := 64) (pc := 111) (q := (yX3_searchNight, cX3_searchNight, 5, (some .int), 3)) rfl (show aTab 64 111 = some (.ldc 38, 2, 7, 0, (-1000000005), 0, 0, 0) from rfl) (fr' := (64, 113, lv, [.int (-1000000005)])) (M' := M1) rfl) ?_
      refine e_then (e_st hT (y := 64) (pc := 113) (q := (yX3_searchNight, cX3_searchNight, 5, (some .int), 3)) rfl (show aTab 64 113 = some (.goto 4, 3, 0, 0, 0, 0, 0, 0) from rfl) (fr' := (64, 117, lv, [.int (-1000000005)])) (M' := M1) rfl) ?_
      exact e_fin (e_iret hT (y := 64) (pc := 117) (q := (yX3_searchNight, cX3_searchNight, 5, (some .int), 3)) rfl (show aTab 64 117 = some (.ireturn, 1, 0, 0, 0, 0, 0, 0) from rfl) ⟨rfl, rfl⟩) ⟨rfl, hI⟩
    · have hb0 : ¬ b.toInt < 0 := fun z => c1 (i0lt.mpr z)
      rw [if_neg c1] at hf5 ⊢
      refine e_then (e_il1 hT (y := 64) (pc := 32) (q := (yX3_searchNight, cX3_searchNight, 5, (some .int), 3)) rfl (show aTab 64 32 = some (.iload_n 3, 1, 0, 0, 0, 0, 0, 0) from rfl) rfl h3) ?_
      refine e_then (e_st hT (y := 64) (pc := 33) (q := (yX3_searchNight, cX3_searchNight, 5, (some .int), 3)) rfl (show aTab 64 33 = some (.iconst 1, 1, 0, 0, 0, 0, 0, 0) from rfl) (fr' := (64, 34, lv, [.int 1, .int (Int32.ofNat (t + 1))])) (M' := M1) rfl) ?_
      refine e_then (e_al1 hT (y := 64) (pc := 34) (q := (yX3_searchNight, cX3_searchNight, 5, (some .int), 3)) rfl (show aTab 64 34 = some (.aload_n 0, 1, 0, 0, 0, 0, 0, 0) from rfl) rfl h0) ?_
      refine e_then (e_getf hT (y := 64) (pc := 35) (q := (yX3_searchNight, cX3_searchNight, 5, (some .int), 3)) rfl (show aTab 64 35 = some (.getfield 24, 3, 0, 3, 0, 0, 0, 0) from rfl) rfl (by decide) (by decide) hfs hf0) ?_
      refine e_then (e_st hT (y := 64) (pc := 38) (q := (yX3_searchNight, cX3_searchNight, 5, (some .int), 3)) rfl (show aTab 64 38 = some (.ishl, 1, 0, 0, 0, 0, 0, 0) from rfl) (fr' := (64, 39, lv, [.int (1 <<< ((Int32.ofNat S) &&& 31)), .int (Int32.ofNat (t + 1))])) (M' := M1) rfl) ?_
      refine e_then (e_icT hT (y := 64) (pc := 39) (q := (yX3_searchNight, cX3_searchNight, 5, (some .int), 3)) rfl (show aTab 64 39 = some (.if_icmp .ge 63, 3, 0, 0, 0, 0, 0, 0) from rfl) rfl (t := 102) rfl (cdT (by show _ ≤ _; omega))) ?_
      refine e_then (e_al1 hT (y := 64) (pc := 102) (q := (yX3_searchNight, cX3_searchNight, 5, (some .int), 3)) rfl (show aTab 64 102 = some (.aload_n 0, 1, 0, 0, 0, 0, 0, 0) from rfl) rfl h0) ?_
      refine e_then (e_getf hT (y := 64) (pc := 103) (q := (yX3_searchNight, cX3_searchNight, 5, (some .int), 3)) rfl (show aTab 64 103 = some (.getfield 39, 3, 0, 3, 5, 0, 0, 0) from rfl) rfl (by decide) (by decide) hfs hf5) ?_
      refine e_then (e_st hT (y := 64) (pc := 106) (q := (yX3_searchNight, cX3_searchNight, 5, (some .int), 3)) rfl (show aTab 64 106 = some (.ldc 38, 2, 7, 0, (-1000000005), 0, 0, 0) from rfl) (fr' := (64, 108, lv, [.int (-1000000005), .int b])) (M' := M1) rfl) ?_
      refine e_then (e_icT hT (y := 64) (pc := 108) (q := (yX3_searchNight, cX3_searchNight, 5, (some .int), 3)) rfl (show aTab 64 108 = some (.if_icmp .ne 8, 3, 0, 0, 0, 0, 0, 0) from rfl) rfl (t := 116) rfl (cdT (by show ¬ _ = _; rw [show (-1000000005 : Int32).toInt = -1000000005 from rfl]; omega))) ?_
      refine e_then (e_st hT (y := 64) (pc := 116) (q := (yX3_searchNight, cX3_searchNight, 5, (some .int), 3)) rfl (show aTab 64 116 = some (.iconst 0, 1, 0, 0, 0, 0, 0, 0) from rfl) (fr' := (64, 117, lv, [.int 0])) (M' := M1) rfl) ?_
      exact e_fin (e_iret hT (y := 64) (pc := 117) (q := (yX3_searchNight, cX3_searchNight, 5, (some .int), 3)) rfl (show aTab 64 117 = some (.ireturn, 1, 0, 0, 0, 0, 0, 0) from rfl) ⟨rfl, rfl⟩) ⟨rfl, hI⟩
  | succ d ih =>
    intro t lv M1 hk hI h0 h1 h2' h3
    have hkn : (Int32.ofNat (t + 1)).toInt = ((t + 1 : Nat) : Int) := i32n (by omega)
    have hr := ntF_r (v := v) (m := m) (p := p) (a := a) (S := S) (n := n) (mm := mm) t (by omega)
    obtain ⟨s, hs⟩ : ∃ s, s = Int32.ofNat (t + 1) := ⟨_, rfl⟩
    obtain ⟨b, hb⟩ : ∃ b, b = ntF v m p a S n mm t := ⟨_, rfl⟩
    obtain ⟨i1, i2, y, z, i3, i4⟩ := id hI
    obtain ⟨fs, hfs, -⟩ := yTy_obj i1 (rfl : tTy 44 = some (.inr (3, _)))
    have hz1 : ∀ xs : tXs, yRd xs M1 44 0 = some (.int (Int32.ofNat S)) := fun xs => (xn_fr i2 (Or.inr (by decide)) xs).trans (hz xs)
    have hf0 := ob_get (by decide) hfs hz1
    obtain ⟨Km, rm⟩ := xsm46_run hT i1 hS hz1 (xn_rows i2 (by decide) hm) (set := s) (show 60 ≤ 69 by decide)
    obtain ⟨Kv, rv⟩ := xsm45_run hT i1 hS hz1 (xn_rows i2 (by decide) hv) (set := s) (show 60 ≤ 69 by decide)
    obtain ⟨Kp, rp⟩ := xsm47_run hT i1 hS hz1 (xn_rows i2 (by decide) hp) (set := s) (show 60 ≤ 69 by decide)
    obtain ⟨Ka, ra⟩ := xag_run hT i1 hS hz1 (xn_rows i2 (by decide) ha) (set := s) (show 60 ≤ 69 by decide)
    obtain ⟨Kt, M2, rt, t1, t2, t3, t4⟩ := xtl_run hT i1 i3 (set := s) (price := ntS p s S) (time := ntS m s S) (show 50 ≤ 69 by decide)
    have hss : s.toInt = ((t + 1 : Nat) : Int) := by rw [hs]; exact hkn
    rw [← hs] at h3 hkn
    by_cases c1 : mm < ntS m s S
    · have cs := ntF_s (v := v) (m := m) (p := p) (a := a) (S := S) (n := n) (mm := mm) (t := t) (Or.inr (Or.inl (by rw [← hs]; exact c1)))
      refine e_then (e_il1 hT (y := 64) (pc := 32) (q := (yX3_searchNight, cX3_searchNight, 5, (some .int), 3)) rfl (show aTab 64 32 = some (.iload_n 3, 1, 0, 0, 0, 0, 0, 0) from rfl) rfl h3) ?_
      refine e_then (e_st hT (y := 64) (pc := 33) (q := (yX3_searchNight, cX3_searchNight, 5, (some .int), 3)) rfl (show aTab 64 33 = some (.iconst 1, 1, 0, 0, 0, 0, 0, 0) from rfl) (fr' := (64, 34, lv, [.int 1, .int s])) (M' := M1) rfl) ?_
      refine e_then (e_al1 hT (y := 64) (pc := 34) (q := (yX3_searchNight, cX3_searchNight, 5, (some .int), 3)) rfl (show aTab 64 34 = some (.aload_n 0, 1, 0, 0, 0, 0, 0, 0) from rfl) rfl h0) ?_
      refine e_then (e_getf hT (y := 64) (pc := 35) (q := (yX3_searchNight, cX3_searchNight, 5, (some .int), 3)) rfl (show aTab 64 35 = some (.getfield 24, 3, 0, 3, 0, 0, 0, 0) from rfl) rfl (by decide) (by decide) hfs hf0) ?_
      refine e_then (e_st hT (y := 64) (pc := 38) (q := (yX3_searchNight, cX3_searchNight, 5, (some .int), 3)) rfl (show aTab 64 38 = some (.ishl, 1, 0, 0, 0, 0, 0, 0) from rfl) (fr' := (64, 39, lv, [.int (1 <<< ((Int32.ofNat S) &&& 31)), .int s])) (M' := M1) rfl) ?_
      refine e_then (e_icF hT (y := 64) (pc := 39) (q := (yX3_searchNight, cX3_searchNight, 5, (some .int), 3)) rfl (show aTab 64 39 = some (.if_icmp .ge 63, 3, 0, 0, 0, 0, 0, 0) from rfl) rfl (t := 102) rfl (cdF (by show ¬ _ ≤ _; omega))) ?_
      refine e_then (e_al1 hT (y := 64) (pc := 42) (q := (yX3_searchNight, cX3_searchNight, 5, (some .int), 3)) rfl (show aTab 64 42 = some (.aload_n 0, 1, 0, 0, 0, 0, 0, 0) from rfl) rfl h0) ?_
      refine e_then (e_al1 hT (y := 64) (pc := 43) (q := (yX3_searchNight, cX3_searchNight, 5, (some .int), 3)) rfl (show aTab 64 43 = some (.aload_n 0, 1, 0, 0, 0, 0, 0, 0) from rfl) rfl h0) ?_
      refine e_then (e_getR hT (y := 64) (pc := 44) (q := (yX3_searchNight, cX3_searchNight, 5, (some .int), 3)) rfl (show aTab 64 44 = some (.getfield 15, 3, 0, 3, 2, 0, 0, 0) from rfl) rfl (by decide) (by decide) i1 rfl rfl) ?_
      refine e_then (e_il1 hT (y := 64) (pc := 47) (q := (yX3_searchNight, cX3_searchNight, 5, (some .int), 3)) rfl (show aTab 64 47 = some (.iload_n 3, 1, 0, 0, 0, 0, 0, 0) from rfl) rfl h3) ?_
      refine e_then (e_call hT (y := 64) (pc := 48) (q := (yX3_searchNight, cX3_searchNight, 5, (some .int), 3)) rfl (show aTab 64 48 = some (.invokevirtual 42, 3, 1, 62, 0, 2, 5, 3) from rfl) rfl ⟨by decide, Nat.le_of_ble_eq_true rfl⟩ hfs (Nat.le_of_ble_eq_true rfl) (Nat.le_of_ble_eq_true rfl) ⟨by decide, by decide⟩ rm) ?_
      refine e_then (e_is2 hT (y := 64) (pc := 51) (q := (yX3_searchNight, cX3_searchNight, 5, (some .int), 3)) rfl (show aTab 64 51 = some (.istore 4, 2, 0, 0, 0, 0, 0, 0) from rfl) ⟨rfl, by decide⟩) ?_
      refine e_then (e_il2 hT (y := 64) (pc := 53) (q := (yX3_searchNight, cX3_searchNight, 5, (some .int), 3)) rfl (show aTab 64 53 = some (.iload 4, 2, 0, 0, 0, 0, 0, 0) from rfl) rfl (mlg_eq 4 _ _)) ?_
      refine e_then (e_il1 hT (y := 64) (pc := 55) (q := (yX3_searchNight, cX3_searchNight, 5, (some .int), 3)) rfl (show aTab 64 55 = some (.iload_n 2, 1, 0, 0, 0, 0, 0, 0) from rfl) rfl (mlg_i h2' (by decide))) ?_
      refine e_then (e_icT hT (y := 64) (pc := 56) (q := (yX3_searchNight, cX3_searchNight, 5, (some .int), 3)) rfl (show aTab 64 56 = some (.if_icmp .gt 40, 3, 0, 0, 0, 0, 0, 0) from rfl) rfl (t := 96) rfl (cdT (by show _ < _; exact Int32.lt_iff_toInt_lt.mp c1))) ?_
      refine e_then (e_ii hT (y := 64) (pc := 96) (q := (yX3_searchNight, cX3_searchNight, 5, (some .int), 3)) rfl (show aTab 64 96 = some (.iinc 3 1, 3, 0, 0, 0, 0, 0, 0) from rfl) ⟨rfl, by decide⟩ (mlg_i h3 (by decide))) ?_
      refine e_then (e_st hT (y := 64) (pc := 99) (q := (yX3_searchNight, cX3_searchNight, 5, (some .int), 3)) rfl (show aTab 64 99 = some (.goto (-67), 3, 0, 0, 0, 0, 0, 0) from rfl) (fr' := (64, 32, (mlp 3 (.int (s + Int32.ofInt 1)) (mlp 4 (.int (ntS m s S)) lv)), [])) (M' := M1) rfl) ?_
      rw [show s + Int32.ofInt 1 = Int32.ofNat (t + 1 + 1) by rw [hs]; exact os1 (by omega)]
      exact ih (t + 1) _ _ (by omega) (by rw [cs]; exact hI) (mlg_r (mlg_r h0 (by decide)) (by decide)) (mlg_i (mlg_i h1 (by decide)) (by decide)) (mlg_i (mlg_i h2' (by decide)) (by decide)) (mlg_eq 3 _ _)
    by_cases c2 : ntS v s S < n
    · have cs := ntF_s (v := v) (m := m) (p := p) (a := a) (S := S) (n := n) (mm := mm) (t := t) (Or.inl (by rw [← hs]; exact c2))
      refine e_then (e_il1 hT (y := 64) (pc := 32) (q := (yX3_searchNight, cX3_searchNight, 5, (some .int), 3)) rfl (show aTab 64 32 = some (.iload_n 3, 1, 0, 0, 0, 0, 0, 0) from rfl) rfl h3) ?_
      refine e_then (e_st hT (y := 64) (pc := 33) (q := (yX3_searchNight, cX3_searchNight, 5, (some .int), 3)) rfl (show aTab 64 33 = some (.iconst 1, 1, 0, 0, 0, 0, 0, 0) from rfl) (fr' := (64, 34, lv, [.int 1, .int s])) (M' := M1) rfl) ?_
      refine e_then (e_al1 hT (y := 64) (pc := 34) (q := (yX3_searchNight, cX3_searchNight, 5, (some .int), 3)) rfl (show aTab 64 34 = some (.aload_n 0, 1, 0, 0, 0, 0, 0, 0) from rfl) rfl h0) ?_
      refine e_then (e_getf hT (y := 64) (pc := 35) (q := (yX3_searchNight, cX3_searchNight, 5, (some .int), 3)) rfl (show aTab 64 35 = some (.getfield 24, 3, 0, 3, 0, 0, 0, 0) from rfl) rfl (by decide) (by decide) hfs hf0) ?_
      refine e_then (e_st hT (y := 64) (pc := 38) (q := (yX3_searchNight, cX3_searchNight, 5, (some .int), 3)) rfl (show aTab 64 38 = some (.ishl, 1, 0, 0, 0, 0, 0, 0) from rfl) (fr' := (64, 39, lv, [.int (1 <<< ((Int32.ofNat S) &&& 31)), .int s])) (M' := M1) rfl) ?_
      refine e_then (e_icF hT (y := 64) (pc := 39) (q := (yX3_searchNight, cX3_searchNight, 5, (some .int), 3)) rfl (show aTab 64 39 = some (.if_icmp .ge 63, 3, 0, 0, 0, 0, 0, 0) from rfl) rfl (t := 102) rfl (cdF (by show ¬ _ ≤ _; omega))) ?_
      refine e_then (e_al1 hT (y := 64) (pc := 42) (q := (yX3_searchNight, cX3_searchNight, 5, (some .int), 3)) rfl (show aTab 64 42 = some (.aload_n 0, 1, 0, 0, 0, 0, 0, 0) from rfl) rfl h0) ?_
      refine e_then (e_al1 hT (y := 64) (pc := 43) (q := (yX3_searchNight, cX3_searchNight, 5, (some .int), 3)) rfl (show aTab 64 43 = some (.aload_n 0, 1, 0, 0, 0, 0, 0, 0) from rfl) rfl h0) ?_
      refine e_then (e_getR hT (y := 64) (pc := 44) (q := (yX3_searchNight, cX3_searchNight, 5, (some .int), 3)) rfl (show aTab 64 44 = some (.getfield 15, 3, 0, 3, 2, 0, 0, 0) from rfl) rfl (by decide) (by decide) i1 rfl rfl) ?_
      refine e_then (e_il1 hT (y := 64) (pc := 47) (q := (yX3_searchNight, cX3_searchNight, 5, (some .int), 3)) rfl (show aTab 64 47 = some (.iload_n 3, 1, 0, 0, 0, 0, 0, 0) from rfl) rfl h3) ?_
      refine e_then (e_call hT (y := 64) (pc := 48) (q := (yX3_searchNight, cX3_searchNight, 5, (some .int), 3)) rfl (show aTab 64 48 = some (.invokevirtual 42, 3, 1, 62, 0, 2, 5, 3) from rfl) rfl ⟨by decide, Nat.le_of_ble_eq_true rfl⟩ hfs (Nat.le_of_ble_eq_true rfl) (Nat.le_of_ble_eq_true rfl) ⟨by decide, by decide⟩ rm) ?_
      refine e_then (e_is2 hT (y := 64) (pc := 51) (q := (yX3_searchNight, cX3_searchNight, 5, (some .int), 3)) rfl (show aTab 64 51 = some (.istore 4, 2, 0, 0, 0, 0, 0, 0) from rfl) ⟨rfl, by decide⟩) ?_
      refine e_then (e_il2 hT (y := 64) (pc := 53) (q := (yX3_searchNight, cX3_searchNight, 5, (some .int), 3)) rfl (show aTab 64 53 = some (.iload 4, 2, 0, 0, 0, 0, 0, 0) from rfl) rfl (mlg_eq 4 _ _)) ?_
      refine e_then (e_il1 hT (y := 64) (pc := 55) (q := (yX3_searchNight, cX3_searchNight, 5, (some .int), 3)) rfl (show aTab 64 55 = some (.iload_n 2, 1, 0, 0, 0, 0, 0, 0) from rfl) rfl (mlg_i h2' (by decide))) ?_
      refine e_then (e_icF hT (y := 64) (pc := 56) (q := (yX3_searchNight, cX3_searchNight, 5, (some .int), 3)) rfl (show aTab 64 56 = some (.if_icmp .gt 40, 3, 0, 0, 0, 0, 0, 0) from rfl) rfl (t := 96) rfl (cdF (by show ¬ _ < _; exact fun h => c1 (Int32.lt_iff_toInt_lt.mpr h)))) ?_
      refine e_then (e_al1 hT (y := 64) (pc := 59) (q := (yX3_searchNight, cX3_searchNight, 5, (some .int), 3)) rfl (show aTab 64 59 = some (.aload_n 0, 1, 0, 0, 0, 0, 0, 0) from rfl) rfl (mlg_r h0 (by decide))) ?_
      refine e_then (e_al1 hT (y := 64) (pc := 60) (q := (yX3_searchNight, cX3_searchNight, 5, (some .int), 3)) rfl (show aTab 64 60 = some (.aload_n 0, 1, 0, 0, 0, 0, 0, 0) from rfl) rfl (mlg_r h0 (by decide))) ?_
      refine e_then (e_getR hT (y := 64) (pc := 61) (q := (yX3_searchNight, cX3_searchNight, 5, (some .int), 3)) rfl (show aTab 64 61 = some (.getfield 9, 3, 0, 3, 1, 0, 0, 0) from rfl) rfl (by decide) (by decide) i1 rfl rfl) ?_
      refine e_then (e_il1 hT (y := 64) (pc := 64) (q := (yX3_searchNight, cX3_searchNight, 5, (some .int), 3)) rfl (show aTab 64 64 = some (.iload_n 3, 1, 0, 0, 0, 0, 0, 0) from rfl) rfl (mlg_i h3 (by decide))) ?_
      refine e_then (e_call hT (y := 64) (pc := 65) (q := (yX3_searchNight, cX3_searchNight, 5, (some .int), 3)) rfl (show aTab 64 65 = some (.invokevirtual 42, 3, 1, 62, 0, 2, 5, 3) from rfl) rfl ⟨by decide, Nat.le_of_ble_eq_true rfl⟩ hfs (Nat.le_of_ble_eq_true rfl) (Nat.le_of_ble_eq_true rfl) ⟨by decide, by decide⟩ rv) ?_
      refine e_then (e_il1 hT (y := 64) (pc := 68) (q := (yX3_searchNight, cX3_searchNight, 5, (some .int), 3)) rfl (show aTab 64 68 = some (.iload_n 1, 1, 0, 0, 0, 0, 0, 0) from rfl) rfl (mlg_i h1 (by decide))) ?_
      refine e_then (e_icT hT (y := 64) (pc := 69) (q := (yX3_searchNight, cX3_searchNight, 5, (some .int), 3)) rfl (show aTab 64 69 = some (.if_icmp .lt 27, 3, 0, 0, 0, 0, 0, 0) from rfl) rfl (t := 96) rfl (cdT (by show _ < _; exact Int32.lt_iff_toInt_lt.mp c2))) ?_
      refine e_then (e_ii hT (y := 64) (pc := 96) (q := (yX3_searchNight, cX3_searchNight, 5, (some .int), 3)) rfl (show aTab 64 96 = some (.iinc 3 1, 3, 0, 0, 0, 0, 0, 0) from rfl) ⟨rfl, by decide⟩ (mlg_i h3 (by decide))) ?_
      refine e_then (e_st hT (y := 64) (pc := 99) (q := (yX3_searchNight, cX3_searchNight, 5, (some .int), 3)) rfl (show aTab 64 99 = some (.goto (-67), 3, 0, 0, 0, 0, 0, 0) from rfl) (fr' := (64, 32, (mlp 3 (.int (s + Int32.ofInt 1)) (mlp 4 (.int (ntS m s S)) lv)), [])) (M' := M1) rfl) ?_
      rw [show s + Int32.ofInt 1 = Int32.ofNat (t + 1 + 1) by rw [hs]; exact os1 (by omega)]
      exact ih (t + 1) _ _ (by omega) (by rw [cs]; exact hI) (mlg_r (mlg_r h0 (by decide)) (by decide)) (mlg_i (mlg_i h1 (by decide)) (by decide)) (mlg_i (mlg_i h2' (by decide)) (by decide)) (mlg_eq 3 _ _)
    by_cases c3 : ntG a s S = false
    · have cs := ntF_s (v := v) (m := m) (p := p) (a := a) (S := S) (n := n) (mm := mm) (t := t) (Or.inr (Or.inr (by rw [← hs]; exact c3)))
      refine e_then (e_il1 hT (y := 64) (pc := 32) (q := (yX3_searchNight, cX3_searchNight, 5, (some .int), 3)) rfl (show aTab 64 32 = some (.iload_n 3, 1, 0, 0, 0, 0, 0, 0) from rfl) rfl h3) ?_
      refine e_then (e_st hT (y := 64) (pc := 33) (q := (yX3_searchNight, cX3_searchNight, 5, (some .int), 3)) rfl (show aTab 64 33 = some (.iconst 1, 1, 0, 0, 0, 0, 0, 0) from rfl) (fr' := (64, 34, lv, [.int 1, .int s])) (M' := M1) rfl) ?_
      refine e_then (e_al1 hT (y := 64) (pc := 34) (q := (yX3_searchNight, cX3_searchNight, 5, (some .int), 3)) rfl (show aTab 64 34 = some (.aload_n 0, 1, 0, 0, 0, 0, 0, 0) from rfl) rfl h0) ?_
      refine e_then (e_getf hT (y := 64) (pc := 35) (q := (yX3_searchNight, cX3_searchNight, 5, (some .int), 3)) rfl (show aTab 64 35 = some (.getfield 24, 3, 0, 3, 0, 0, 0, 0) from rfl) rfl (by decide) (by decide) hfs hf0) ?_
      refine e_then (e_st hT (y := 64) (pc := 38) (q := (yX3_searchNight, cX3_searchNight, 5, (some .int), 3)) rfl (show aTab 64 38 = some (.ishl, 1, 0, 0, 0, 0, 0, 0) from rfl) (fr' := (64, 39, lv, [.int (1 <<< ((Int32.ofNat S) &&& 31)), .int s])) (M' := M1) rfl) ?_
      refine e_then (e_icF hT (y := 64) (pc := 39) (q := (yX3_searchNight, cX3_searchNight, 5, (some .int), 3)) rfl (show aTab 64 39 = some (.if_icmp .ge 63, 3, 0, 0, 0, 0, 0, 0) from rfl) rfl (t := 102) rfl (cdF (by show ¬ _ ≤ _; omega))) ?_
      refine e_then (e_al1 hT (y := 64) (pc := 42) (q := (yX3_searchNight, cX3_searchNight, 5, (some .int), 3)) rfl (show aTab 64 42 = some (.aload_n 0, 1, 0, 0, 0, 0, 0, 0) from rfl) rfl h0) ?_
      refine e_then (e_al1 hT (y := 64) (pc := 43) (q := (yX3_searchNight, cX3_searchNight, 5, (some .int), 3)) rfl (show aTab 64 43 = some (.aload_n 0, 1, 0, 0, 0, 0, 0, 0) from rfl) rfl h0) ?_
      refine e_then (e_getR hT (y := 64) (pc := 44) (q := (yX3_searchNight, cX3_searchNight, 5, (some .int), 3)) rfl (show aTab 64 44 = some (.getfield 15, 3, 0, 3, 2, 0, 0, 0) from rfl) rfl (by decide) (by decide) i1 rfl rfl) ?_
      refine e_then (e_il1 hT (y := 64) (pc := 47) (q := (yX3_searchNight, cX3_searchNight, 5, (some .int), 3)) rfl (show aTab 64 47 = some (.iload_n 3, 1, 0, 0, 0, 0, 0, 0) from rfl) rfl h3) ?_
      refine e_then (e_call hT (y := 64) (pc := 48) (q := (yX3_searchNight, cX3_searchNight, 5, (some .int), 3)) rfl (show aTab 64 48 = some (.invokevirtual 42, 3, 1, 62, 0, 2, 5, 3) from rfl) rfl ⟨by decide, Nat.le_of_ble_eq_true rfl⟩ hfs (Nat.le_of_ble_eq_true rfl) (Nat.le_of_ble_eq_true rfl) ⟨by decide, by decide⟩ rm) ?_
      refine e_then (e_is2 hT (y := 64) (pc := 51) (q := (yX3_searchNight, cX3_searchNight, 5, (some .int), 3)) rfl (show aTab 64 51 = some (.istore 4, 2, 0, 0, 0, 0, 0, 0) from rfl) ⟨rfl, by decide⟩) ?_
      refine e_then (e_il2 hT (y := 64) (pc := 53) (q := (yX3_searchNight, cX3_searchNight, 5, (some .int), 3)) rfl (show aTab 64 53 = some (.iload 4, 2, 0, 0, 0, 0, 0, 0) from rfl) rfl (mlg_eq 4 _ _)) ?_
      refine e_then (e_il1 hT (y := 64) (pc := 55) (q := (yX3_searchNight, cX3_searchNight, 5, (some .int), 3)) rfl (show aTab 64 55 = some (.iload_n 2, 1, 0, 0, 0, 0, 0, 0) from rfl) rfl (mlg_i h2' (by decide))) ?_
      refine e_then (e_icF hT (y := 64) (pc := 56) (q := (yX3_searchNight, cX3_searchNight, 5, (some .int), 3)) rfl (show aTab 64 56 = some (.if_icmp .gt 40, 3, 0, 0, 0, 0, 0, 0) from rfl) rfl (t := 96) rfl (cdF (by show ¬ _ < _; exact fun h => c1 (Int32.lt_iff_toInt_lt.mpr h)))) ?_
      refine e_then (e_al1 hT (y := 64) (pc := 59) (q := (yX3_searchNight, cX3_searchNight, 5, (some .int), 3)) rfl (show aTab 64 59 = some (.aload_n 0, 1, 0, 0, 0, 0, 0, 0) from rfl) rfl (mlg_r h0 (by decide))) ?_
      refine e_then (e_al1 hT (y := 64) (pc := 60) (q := (yX3_searchNight, cX3_searchNight, 5, (some .int), 3)) rfl (show aTab 64 60 = some (.aload_n 0, 1, 0, 0, 0, 0, 0, 0) from rfl) rfl (mlg_r h0 (by decide))) ?_
      refine e_then (e_getR hT (y := 64) (pc := 61) (q := (yX3_searchNight, cX3_searchNight, 5, (some .int), 3)) rfl (show aTab 64 61 = some (.getfield 9, 3, 0, 3, 1, 0, 0, 0) from rfl) rfl (by decide) (by decide) i1 rfl rfl) ?_
      refine e_then (e_il1 hT (y := 64) (pc := 64) (q := (yX3_searchNight, cX3_searchNight, 5, (some .int), 3)) rfl (show aTab 64 64 = some (.iload_n 3, 1, 0, 0, 0, 0, 0, 0) from rfl) rfl (mlg_i h3 (by decide))) ?_
      refine e_then (e_call hT (y := 64) (pc := 65) (q := (yX3_searchNight, cX3_searchNight, 5, (some .int), 3)) rfl (show aTab 64 65 = some (.invokevirtual 42, 3, 1, 62, 0, 2, 5, 3) from rfl) rfl ⟨by decide, Nat.le_of_ble_eq_true rfl⟩ hfs (Nat.le_of_ble_eq_true rfl) (Nat.le_of_ble_eq_true rfl) ⟨by decide, by decide⟩ rv) ?_
      refine e_then (e_il1 hT (y := 64) (pc := 68) (q := (yX3_searchNight, cX3_searchNight, 5, (some .int), 3)) rfl (show aTab 64 68 = some (.iload_n 1, 1, 0, 0, 0, 0, 0, 0) from rfl) rfl (mlg_i h1 (by decide))) ?_
      refine e_then (e_icF hT (y := 64) (pc := 69) (q := (yX3_searchNight, cX3_searchNight, 5, (some .int), 3)) rfl (show aTab 64 69 = some (.if_icmp .lt 27, 3, 0, 0, 0, 0, 0, 0) from rfl) rfl (t := 96) rfl (cdF (by show ¬ _ < _; exact fun h => c2 (Int32.lt_iff_toInt_lt.mpr h)))) ?_
      refine e_then (e_al1 hT (y := 64) (pc := 72) (q := (yX3_searchNight, cX3_searchNight, 5, (some .int), 3)) rfl (show aTab 64 72 = some (.aload_n 0, 1, 0, 0, 0, 0, 0, 0) from rfl) rfl (mlg_r h0 (by decide))) ?_
      refine e_then (e_il1 hT (y := 64) (pc := 73) (q := (yX3_searchNight, cX3_searchNight, 5, (some .int), 3)) rfl (show aTab 64 73 = some (.iload_n 3, 1, 0, 0, 0, 0, 0, 0) from rfl) rfl (mlg_i h3 (by decide))) ?_
      refine e_then (e_call hT (y := 64) (pc := 74) (q := (yX3_searchNight, cX3_searchNight, 5, (some .int), 3)) rfl (show aTab 64 74 = some (.invokevirtual 46, 3, 1, 63, 0, 1, 3, 3) from rfl) rfl ⟨by decide, Nat.le_of_ble_eq_true rfl⟩ hfs (Nat.le_of_ble_eq_true rfl) (Nat.le_of_ble_eq_true rfl) ⟨by decide, by decide⟩ ra) ?_
      refine e_then (e_ifT hT (y := 64) (pc := 77) (q := (yX3_searchNight, cX3_searchNight, 5, (some .int), 3)) rfl (show aTab 64 77 = some (.ifCond .eq 19, 3, 0, 0, 0, 0, 0, 0) from rfl) rfl (t := 96) rfl (cdT (by show _ = _; rw [c3]; rfl))) ?_
      refine e_then (e_ii hT (y := 64) (pc := 96) (q := (yX3_searchNight, cX3_searchNight, 5, (some .int), 3)) rfl (show aTab 64 96 = some (.iinc 3 1, 3, 0, 0, 0, 0, 0, 0) from rfl) ⟨rfl, by decide⟩ (mlg_i h3 (by decide))) ?_
      refine e_then (e_st hT (y := 64) (pc := 99) (q := (yX3_searchNight, cX3_searchNight, 5, (some .int), 3)) rfl (show aTab 64 99 = some (.goto (-67), 3, 0, 0, 0, 0, 0, 0) from rfl) (fr' := (64, 32, (mlp 3 (.int (s + Int32.ofInt 1)) (mlp 4 (.int (ntS m s S)) lv)), [])) (M' := M1) rfl) ?_
      rw [show s + Int32.ofInt 1 = Int32.ofNat (t + 1 + 1) by rw [hs]; exact os1 (by omega)]
      exact ih (t + 1) _ _ (by omega) (by rw [cs]; exact hI) (mlg_r (mlg_r h0 (by decide)) (by decide)) (mlg_i (mlg_i h1 (by decide)) (by decide)) (mlg_i (mlg_i h2' (by decide)) (by decide)) (mlg_eq 3 _ _)
    have cn : ¬ (ntS v (Int32.ofNat (t + 1)) S < n ∨ mm < ntS m (Int32.ofNat (t + 1)) S ∨ ntG a (Int32.ofNat (t + 1)) S = false) := by
      rw [← hs]
      rintro (h | h | h)
      · exact c2 h
      · exact c1 h
      · exact c3 h
    have hnew : xnI v m p a S M M2 (ntF v m p a S n mm (t + 1)) := by
      refine ⟨t1, yFr_tr i2 t2, ?_⟩
      rw [← hb] at hr t3 t4 i4
      by_cases cb : b < 0
      · rw [ntF_b cn (Or.inl (by rw [← hb]; exact cb)), ← hs]
        refine ⟨_, _, ?_, fun _ => ⟨rfl, rfl⟩⟩
        rw [if_neg (fun z => by have := i0lt.mp z; omega)]
        exact t3 (Or.inl (if_pos cb))
      · obtain ⟨rfl, rfl⟩ := i4 cb
        have hb0 : ¬ b.toInt < 0 := fun z => cb (i0lt.mpr z)
        rw [if_neg cb] at t3 t4
        have hbN : ¬ b = -1000000005 := fun z => hb0 (by rw [z]; decide)
        by_cases cl : xnL (ntS p s S) (ntS m s S) (ntS p b S) (ntS m b S)
        · rw [ntF_b cn (Or.inr (by
            rw [← hb, ← hs]
            rcases cl with cl | cl
            · exact Or.inr cl
            · exact Or.inl cl.2)), ← hs]
          refine ⟨_, _, ?_, fun _ => ⟨rfl, rfl⟩⟩
          rw [if_neg (fun z => by have := i0lt.mp z; omega)]
          exact t3 (Or.inr cl)
        · rw [ntF_n cn (by
            rw [← hb, ← hs]
            rintro (z | z | z)
            · exact cb z
            · exact cl (Or.inr ⟨fun e => by rw [e] at z; exact Int32.lt_irrefl z, z⟩)
            · exact cl (Or.inl z)), ← hb]
          refine ⟨_, _, ?_, fun _ => ⟨rfl, rfl⟩⟩
          rw [if_neg cb]
          exact t4 (by rintro (z | z); exact hbN z; exact cl z)
    refine e_then (e_il1 hT (y := 64) (pc := 32) (q := (yX3_searchNight, cX3_searchNight, 5, (some .int), 3)) rfl (show aTab 64 32 = some (.iload_n 3, 1, 0, 0, 0, 0, 0, 0) from rfl) rfl h3) ?_
    refine e_then (e_st hT (y := 64) (pc := 33) (q := (yX3_searchNight, cX3_searchNight, 5, (some .int), 3)) rfl (show aTab 64 33 = some (.iconst 1, 1, 0, 0, 0, 0, 0, 0) from rfl) (fr' := (64, 34, lv, [.int 1, .int s])) (M' := M1) rfl) ?_
    refine e_then (e_al1 hT (y := 64) (pc := 34) (q := (yX3_searchNight, cX3_searchNight, 5, (some .int), 3)) rfl (show aTab 64 34 = some (.aload_n 0, 1, 0, 0, 0, 0, 0, 0) from rfl) rfl h0) ?_
    refine e_then (e_getf hT (y := 64) (pc := 35) (q := (yX3_searchNight, cX3_searchNight, 5, (some .int), 3)) rfl (show aTab 64 35 = some (.getfield 24, 3, 0, 3, 0, 0, 0, 0) from rfl) rfl (by decide) (by decide) hfs hf0) ?_
    refine e_then (e_st hT (y := 64) (pc := 38) (q := (yX3_searchNight, cX3_searchNight, 5, (some .int), 3)) rfl (show aTab 64 38 = some (.ishl, 1, 0, 0, 0, 0, 0, 0) from rfl) (fr' := (64, 39, lv, [.int (1 <<< ((Int32.ofNat S) &&& 31)), .int s])) (M' := M1) rfl) ?_
    refine e_then (e_icF hT (y := 64) (pc := 39) (q := (yX3_searchNight, cX3_searchNight, 5, (some .int), 3)) rfl (show aTab 64 39 = some (.if_icmp .ge 63, 3, 0, 0, 0, 0, 0, 0) from rfl) rfl (t := 102) rfl (cdF (by show ¬ _ ≤ _; omega))) ?_
    refine e_then (e_al1 hT (y := 64) (pc := 42) (q := (yX3_searchNight, cX3_searchNight, 5, (some .int), 3)) rfl (show aTab 64 42 = some (.aload_n 0, 1, 0, 0, 0, 0, 0, 0) from rfl) rfl h0) ?_
    refine e_then (e_al1 hT (y := 64) (pc := 43) (q := (yX3_searchNight, cX3_searchNight, 5, (some .int), 3)) rfl (show aTab 64 43 = some (.aload_n 0, 1, 0, 0, 0, 0, 0, 0) from rfl) rfl h0) ?_
    refine e_then (e_getR hT (y := 64) (pc := 44) (q := (yX3_searchNight, cX3_searchNight, 5, (some .int), 3)) rfl (show aTab 64 44 = some (.getfield 15, 3, 0, 3, 2, 0, 0, 0) from rfl) rfl (by decide) (by decide) i1 rfl rfl) ?_
    refine e_then (e_il1 hT (y := 64) (pc := 47) (q := (yX3_searchNight, cX3_searchNight, 5, (some .int), 3)) rfl (show aTab 64 47 = some (.iload_n 3, 1, 0, 0, 0, 0, 0, 0) from rfl) rfl h3) ?_
    refine e_then (e_call hT (y := 64) (pc := 48) (q := (yX3_searchNight, cX3_searchNight, 5, (some .int), 3)) rfl (show aTab 64 48 = some (.invokevirtual 42, 3, 1, 62, 0, 2, 5, 3) from rfl) rfl ⟨by decide, Nat.le_of_ble_eq_true rfl⟩ hfs (Nat.le_of_ble_eq_true rfl) (Nat.le_of_ble_eq_true rfl) ⟨by decide, by decide⟩ rm) ?_
    refine e_then (e_is2 hT (y := 64) (pc := 51) (q := (yX3_searchNight, cX3_searchNight, 5, (some .int), 3)) rfl (show aTab 64 51 = some (.istore 4, 2, 0, 0, 0, 0, 0, 0) from rfl) ⟨rfl, by decide⟩) ?_
    refine e_then (e_il2 hT (y := 64) (pc := 53) (q := (yX3_searchNight, cX3_searchNight, 5, (some .int), 3)) rfl (show aTab 64 53 = some (.iload 4, 2, 0, 0, 0, 0, 0, 0) from rfl) rfl (mlg_eq 4 _ _)) ?_
    refine e_then (e_il1 hT (y := 64) (pc := 55) (q := (yX3_searchNight, cX3_searchNight, 5, (some .int), 3)) rfl (show aTab 64 55 = some (.iload_n 2, 1, 0, 0, 0, 0, 0, 0) from rfl) rfl (mlg_i h2' (by decide))) ?_
    refine e_then (e_icF hT (y := 64) (pc := 56) (q := (yX3_searchNight, cX3_searchNight, 5, (some .int), 3)) rfl (show aTab 64 56 = some (.if_icmp .gt 40, 3, 0, 0, 0, 0, 0, 0) from rfl) rfl (t := 96) rfl (cdF (by show ¬ _ < _; exact fun h => c1 (Int32.lt_iff_toInt_lt.mpr h)))) ?_
    refine e_then (e_al1 hT (y := 64) (pc := 59) (q := (yX3_searchNight, cX3_searchNight, 5, (some .int), 3)) rfl (show aTab 64 59 = some (.aload_n 0, 1, 0, 0, 0, 0, 0, 0) from rfl) rfl (mlg_r h0 (by decide))) ?_
    refine e_then (e_al1 hT (y := 64) (pc := 60) (q := (yX3_searchNight, cX3_searchNight, 5, (some .int), 3)) rfl (show aTab 64 60 = some (.aload_n 0, 1, 0, 0, 0, 0, 0, 0) from rfl) rfl (mlg_r h0 (by decide))) ?_
    refine e_then (e_getR hT (y := 64) (pc := 61) (q := (yX3_searchNight, cX3_searchNight, 5, (some .int), 3)) rfl (show aTab 64 61 = some (.getfield 9, 3, 0, 3, 1, 0, 0, 0) from rfl) rfl (by decide) (by decide) i1 rfl rfl) ?_
    refine e_then (e_il1 hT (y := 64) (pc := 64) (q := (yX3_searchNight, cX3_searchNight, 5, (some .int), 3)) rfl (show aTab 64 64 = some (.iload_n 3, 1, 0, 0, 0, 0, 0, 0) from rfl) rfl (mlg_i h3 (by decide))) ?_
    refine e_then (e_call hT (y := 64) (pc := 65) (q := (yX3_searchNight, cX3_searchNight, 5, (some .int), 3)) rfl (show aTab 64 65 = some (.invokevirtual 42, 3, 1, 62, 0, 2, 5, 3) from rfl) rfl ⟨by decide, Nat.le_of_ble_eq_true rfl⟩ hfs (Nat.le_of_ble_eq_true rfl) (Nat.le_of_ble_eq_true rfl) ⟨by decide, by decide⟩ rv) ?_
    refine e_then (e_il1 hT (y := 64) (pc := 68) (q := (yX3_searchNight, cX3_searchNight, 5, (some .int), 3)) rfl (show aTab 64 68 = some (.iload_n 1, 1, 0, 0, 0, 0, 0, 0) from rfl) rfl (mlg_i h1 (by decide))) ?_
    refine e_then (e_icF hT (y := 64) (pc := 69) (q := (yX3_searchNight, cX3_searchNight, 5, (some .int), 3)) rfl (show aTab 64 69 = some (.if_icmp .lt 27, 3, 0, 0, 0, 0, 0, 0) from rfl) rfl (t := 96) rfl (cdF (by show ¬ _ < _; exact fun h => c2 (Int32.lt_iff_toInt_lt.mpr h)))) ?_
    refine e_then (e_al1 hT (y := 64) (pc := 72) (q := (yX3_searchNight, cX3_searchNight, 5, (some .int), 3)) rfl (show aTab 64 72 = some (.aload_n 0, 1, 0, 0, 0, 0, 0, 0) from rfl) rfl (mlg_r h0 (by decide))) ?_
    refine e_then (e_il1 hT (y := 64) (pc := 73) (q := (yX3_searchNight, cX3_searchNight, 5, (some .int), 3)) rfl (show aTab 64 73 = some (.iload_n 3, 1, 0, 0, 0, 0, 0, 0) from rfl) rfl (mlg_i h3 (by decide))) ?_
    refine e_then (e_call hT (y := 64) (pc := 74) (q := (yX3_searchNight, cX3_searchNight, 5, (some .int), 3)) rfl (show aTab 64 74 = some (.invokevirtual 46, 3, 1, 63, 0, 1, 3, 3) from rfl) rfl ⟨by decide, Nat.le_of_ble_eq_true rfl⟩ hfs (Nat.le_of_ble_eq_true rfl) (Nat.le_of_ble_eq_true rfl) ⟨by decide, by decide⟩ ra) ?_
    refine e_then (e_ifF hT (y := 64) (pc := 77) (q := (yX3_searchNight, cX3_searchNight, 5, (some .int), 3)) rfl (show aTab 64 77 = some (.ifCond .eq 19, 3, 0, 0, 0, 0, 0, 0) from rfl) rfl (t := 96) rfl (cdF (by show ¬ _ = _; rw [Bool.of_not_eq_false c3]; decide))) ?_
    refine e_then (e_al1 hT (y := 64) (pc := 80) (q := (yX3_searchNight, cX3_searchNight, 5, (some .int), 3)) rfl (show aTab 64 80 = some (.aload_n 0, 1, 0, 0, 0, 0, 0, 0) from rfl) rfl (mlg_r h0 (by decide))) ?_
    refine e_then (e_il1 hT (y := 64) (pc := 81) (q := (yX3_searchNight, cX3_searchNight, 5, (some .int), 3)) rfl (show aTab 64 81 = some (.iload_n 3, 1, 0, 0, 0, 0, 0, 0) from rfl) rfl (mlg_i h3 (by decide))) ?_
    refine e_then (e_al1 hT (y := 64) (pc := 82) (q := (yX3_searchNight, cX3_searchNight, 5, (some .int), 3)) rfl (show aTab 64 82 = some (.aload_n 0, 1, 0, 0, 0, 0, 0, 0) from rfl) rfl (mlg_r h0 (by decide))) ?_
    refine e_then (e_al1 hT (y := 64) (pc := 83) (q := (yX3_searchNight, cX3_searchNight, 5, (some .int), 3)) rfl (show aTab 64 83 = some (.aload_n 0, 1, 0, 0, 0, 0, 0, 0) from rfl) rfl (mlg_r h0 (by decide))) ?_
    refine e_then (e_getR hT (y := 64) (pc := 84) (q := (yX3_searchNight, cX3_searchNight, 5, (some .int), 3)) rfl (show aTab 64 84 = some (.getfield 18, 3, 0, 3, 3, 0, 0, 0) from rfl) rfl (by decide) (by decide) i1 rfl rfl) ?_
    refine e_then (e_il1 hT (y := 64) (pc := 87) (q := (yX3_searchNight, cX3_searchNight, 5, (some .int), 3)) rfl (show aTab 64 87 = some (.iload_n 3, 1, 0, 0, 0, 0, 0, 0) from rfl) rfl (mlg_i h3 (by decide))) ?_
    refine e_then (e_call hT (y := 64) (pc := 88) (q := (yX3_searchNight, cX3_searchNight, 5, (some .int), 3)) rfl (show aTab 64 88 = some (.invokevirtual 42, 3, 1, 62, 0, 2, 5, 3) from rfl) rfl ⟨by decide, Nat.le_of_ble_eq_true rfl⟩ hfs (Nat.le_of_ble_eq_true rfl) (Nat.le_of_ble_eq_true rfl) ⟨by decide, by decide⟩ rp) ?_
    refine e_then (e_il2 hT (y := 64) (pc := 91) (q := (yX3_searchNight, cX3_searchNight, 5, (some .int), 3)) rfl (show aTab 64 91 = some (.iload 4, 2, 0, 0, 0, 0, 0, 0) from rfl) rfl (mlg_eq 4 _ _)) ?_
    refine e_then (e_call hT (y := 64) (pc := 93) (q := (yX3_searchNight, cX3_searchNight, 5, (some .int), 3)) rfl (show aTab 64 93 = some (.invokevirtual 50, 3, 1, 65, 0, 3, 5, 3) from rfl) rfl ⟨by decide, Nat.le_of_ble_eq_true rfl⟩ hfs (Nat.le_of_ble_eq_true rfl) (Nat.le_of_ble_eq_true rfl) ⟨by decide, by decide⟩ rt) ?_
    refine e_then (e_ii hT (y := 64) (pc := 96) (q := (yX3_searchNight, cX3_searchNight, 5, (some .int), 3)) rfl (show aTab 64 96 = some (.iinc 3 1, 3, 0, 0, 0, 0, 0, 0) from rfl) ⟨rfl, by decide⟩ (mlg_i h3 (by decide))) ?_
    refine e_then (e_st hT (y := 64) (pc := 99) (q := (yX3_searchNight, cX3_searchNight, 5, (some .int), 3)) rfl (show aTab 64 99 = some (.goto (-67), 3, 0, 0, 0, 0, 0, 0) from rfl) (fr' := (64, 32, (mlp 3 (.int (s + Int32.ofInt 1)) (mlp 4 (.int (ntS m s S)) lv)), [])) (M' := M2) rfl) ?_
    rw [show s + Int32.ofInt 1 = Int32.ofNat (t + 1 + 1) by rw [hs]; exact os1 (by omega)]
    exact ih (t + 1) _ _ (by omega) hnew (mlg_r (mlg_r h0 (by decide)) (by decide)) (mlg_i (mlg_i h1 (by decide)) (by decide)) (mlg_i (mlg_i h2' (by decide)) (by decide)) (mlg_eq 3 _ _)
theorem xsn_run (hT : aTabOk) {M : mHe} (hM : yTy M) {S : Nat} (hS : S ≤ 8) (hz : ∀ xs : tXs, yRd xs M 44 0 = some (.int (Int32.ofNat S))) {v m p a : Nat → Int32} (hv : ntRows M 45 0 1 v) (hm : ntRows M 46 0 1 m) (hp : ntRows M 47 0 1 p) (ha : ntRows M 48 0 1 a) {n mm : Int32} (c1 : 1 ≤ n.toInt ∧ n.toInt ≤ 99) (c2 : 1 ≤ mm.toInt ∧ mm.toInt ≤ 999) : mEv none 70 (64, 0, lv_args 0 [.ref 53, .int n, .int mm], []) M (fun r M' => r = some (.int (if ntF v m p a S n mm (2 ^ S - 1) < 0 then -1000000005 else 0)) ∧ xnI v m p a S M M' (ntF v m p a S n mm (2 ^ S - 1))) := by
  have hpb := ntP_b hS
  obtain ⟨K1, q1⟩ := within_i hT (M := M) (v := n) (l := 1) (h := 99) (d := 69) (by decide)
  obtain ⟨K2, q2⟩ := within_i hT (M := M) (v := mm) (l := 1) (h := 999) (d := 69) (by decide)
  rw [show (1 : Int32).toInt = 1 from rfl, show (99 : Int32).toInt = 99 from rfl, gB_t c1] at q1
  rw [show (1 : Int32).toInt = 1 from rfl, show (999 : Int32).toInt = 999 from rfl, gB_t c2] at q2
  have fu : ∀ x : Int32, (-2147483648 : Int) ≤ x.toInt ∧ x.toInt ≤ 2147483647 := fun x => ⟨i32_lo x, i32_hi x⟩
  obtain ⟨gs, g1, g2, g3, g4, g5⟩ := ob_put hM (rfl : tTy 44 = some (.inr (3, _))) (k := 5) rfl (fu (-1000000005))
  obtain ⟨M1, hM1⟩ : ∃ M1, M1 = M.set 44 (.inr (3, gs.set 5 (.int (-1000000005)))) := ⟨_, rfl⟩
  rw [← hM1] at g3 g4 g5
  have hI : xnI v m p a S M M1 (ntF v m p a S n mm 0) := by
    obtain ⟨fs1, hfs1, hty1⟩ := yTy_obj g3 (rfl : tTy 44 = some (.inr (3, _)))
    obtain ⟨w6, e6, y, rfl, -, -⟩ := hty1.2 6 _ rfl
    obtain ⟨w7, e7, z, rfl, -, -⟩ := hty1.2 7 _ rfl
    exact ⟨g3, xnW_in (by decide) g5, y, z, ⟨g4, fun xs => by rw [yRd_obj _ (by decide) hfs1]; exact e6, fun xs => by rw [yRd_obj _ (by decide) hfs1]; exact e7⟩, fun z => absurd (show (-1 : Int32) < 0 by decide) z⟩
  refine e_then (e_il1 hT (y := 64) (pc := 0) (q := (yX3_searchNight, cX3_searchNight, 5, (some .int), 3)) rfl (show aTab 64 0 = some (.iload_n 1, 1, 0, 0, 0, 0, 0, 0) from rfl) rfl rfl) ?_
  refine e_then (e_st hT (y := 64) (pc := 1) (q := (yX3_searchNight, cX3_searchNight, 5, (some .int), 3)) rfl (show aTab 64 1 = some (.iconst 1, 1, 0, 0, 0, 0, 0, 0) from rfl) (fr' := (64, 2, (lv_args 0 [.ref 53, .int n, .int mm]), [.int 1, .int n])) (M' := M) rfl) ?_
  refine e_then (e_st hT (y := 64) (pc := 2) (q := (yX3_searchNight, cX3_searchNight, 5, (some .int), 3)) rfl (show aTab 64 2 = some (.bipush 99, 2, 0, 0, 0, 0, 0, 0) from rfl) (fr' := (64, 4, (lv_args 0 [.ref 53, .int n, .int mm]), [.int 99, .int 1, .int n])) (M' := M) rfl) ?_
  refine e_then (e_callsN hT (y := 64) (pc := 4) (q := (yX3_searchNight, cX3_searchNight, 5, (some .int), 3)) rfl (show aTab 64 4 = some (.invokestatic 32, 3, 3, 234, 0, 3, 3, 11) from rfl) (Nat.le_of_ble_eq_true rfl) (Nat.le_of_ble_eq_true rfl) (Nat.le_of_ble_eq_true rfl) ⟨by decide, by decide⟩ q1) ?_
  refine e_then (e_ifF hT (y := 64) (pc := 7) (q := (yX3_searchNight, cX3_searchNight, 5, (some .int), 3)) rfl (show aTab 64 7 = some (.ifCond .eq 14, 3, 0, 0, 0, 0, 0, 0) from rfl) rfl (t := 21) rfl (cdF (by show ¬ (1 : Int32).toInt = 0; decide))) ?_
  refine e_then (e_il1 hT (y := 64) (pc := 10) (q := (yX3_searchNight, cX3_searchNight, 5, (some .int), 3)) rfl (show aTab 64 10 = some (.iload_n 2, 1, 0, 0, 0, 0, 0, 0) from rfl) rfl rfl) ?_
  refine e_then (e_st hT (y := 64) (pc := 11) (q := (yX3_searchNight, cX3_searchNight, 5, (some .int), 3)) rfl (show aTab 64 11 = some (.iconst 1, 1, 0, 0, 0, 0, 0, 0) from rfl) (fr' := (64, 12, (lv_args 0 [.ref 53, .int n, .int mm]), [.int 1, .int mm])) (M' := M) rfl) ?_
  refine e_then (e_st hT (y := 64) (pc := 12) (q := (yX3_searchNight, cX3_searchNight, 5, (some .int), 3)) rfl (show aTab 64 12 = some (.sipush 999, 3, 0, 0, 0, 0, 0, 0) from rfl) (fr' := (64, 15, (lv_args 0 [.ref 53, .int n, .int mm]), [.int 999, .int 1, .int mm])) (M' := M) rfl) ?_
  refine e_then (e_callsN hT (y := 64) (pc := 15) (q := (yX3_searchNight, cX3_searchNight, 5, (some .int), 3)) rfl (show aTab 64 15 = some (.invokestatic 32, 3, 3, 234, 0, 3, 3, 11) from rfl) (Nat.le_of_ble_eq_true rfl) (Nat.le_of_ble_eq_true rfl) (Nat.le_of_ble_eq_true rfl) ⟨by decide, by decide⟩ q2) ?_
  refine e_then (e_ifT hT (y := 64) (pc := 18) (q := (yX3_searchNight, cX3_searchNight, 5, (some .int), 3)) rfl (show aTab 64 18 = some (.ifCond .ne 6, 3, 0, 0, 0, 0, 0, 0) from rfl) rfl (t := 24) rfl (cdT (by show ¬ (1 : Int32).toInt = 0; decide))) ?_
  refine e_then (e_al1 hT (y := 64) (pc := 24) (q := (yX3_searchNight, cX3_searchNight, 5, (some .int), 3)) rfl (show aTab 64 24 = some (.aload_n 0, 1, 0, 0, 0, 0, 0, 0) from rfl) rfl rfl) ?_
  refine e_then (e_st hT (y := 64) (pc := 25) (q := (yX3_searchNight, cX3_searchNight, 5, (some .int), 3)) rfl (show aTab 64 25 = some (.ldc 38, 2, 7, 0, (-1000000005), 0, 0, 0) from rfl) (fr' := (64, 27, (lv_args 0 [.ref 53, .int n, .int mm]), [.int (-1000000005), .ref 53])) (M' := M) rfl) ?_
  refine e_then (fr' := (64, 30, (lv_args 0 [.ref 53, .int n, .int mm]), [])) (M' := M1) (by rw [hM1]; exact e_putf hT (y := 64) (pc := 27) (q := (yX3_searchNight, cX3_searchNight, 5, (some .int), 3)) rfl (show aTab 64 27 = some (.putfield 39, 3, 0, 3, 5, 0, 0, 0) from rfl) rfl rfl ⟨by decide, rfl, rfl⟩ (by decide) g1 g2) ?_
  refine e_then (e_st hT (y := 64) (pc := 30) (q := (yX3_searchNight, cX3_searchNight, 5, (some .int), 3)) rfl (show aTab 64 30 = some (.iconst 1, 1, 0, 0, 0, 0, 0, 0) from rfl) (fr' := (64, 31, (lv_args 0 [.ref 53, .int n, .int mm]), [.int 1])) (M' := M1) rfl) ?_
  refine e_then (e_is1 hT (y := 64) (pc := 31) (q := (yX3_searchNight, cX3_searchNight, 5, (some .int), 3)) rfl (show aTab 64 31 = some (.istore_n 3, 1, 0, 0, 0, 0, 0, 0) from rfl) ⟨rfl, by decide⟩) ?_
  exact xsn_loop hT hS hz hv hm hp ha (2 ^ S - 1) 0 _ M1 (by omega) hI (mlg_r rfl (by decide)) (mlg_i rfl (by decide)) (mlg_i rfl (by decide)) (mlg_eq 3 _ _)
theorem xsn_bad (hT : aTabOk) {M : mHe} {n mm : Int32} (hc : ¬ ((1 ≤ n.toInt ∧ n.toInt ≤ 99) ∧ (1 ≤ mm.toInt ∧ mm.toInt ≤ 999))) : mEv none 70 (64, 0, lv_args 0 [.ref 53, .int n, .int mm], []) M (fun r M' => r = some (.int (-1000000001)) ∧ M' = M) := by
  obtain ⟨K1, q1⟩ := within_i hT (M := M) (v := n) (l := 1) (h := 99) (d := 69) (by decide)
  obtain ⟨K2, q2⟩ := within_i hT (M := M) (v := mm) (l := 1) (h := 999) (d := 69) (by decide)
  rw [show (1 : Int32).toInt = 1 from rfl, show (99 : Int32).toInt = 99 from rfl] at q1
  rw [show (1 : Int32).toInt = 1 from rfl, show (999 : Int32).toInt = 999 from rfl] at q2
  by_cases c1 : 1 ≤ n.toInt ∧ n.toInt ≤ 99
  · have c2 : ¬ (1 ≤ mm.toInt ∧ mm.toInt ≤ 999) := fun z => hc ⟨c1, z⟩
    rw [gB_t c1] at q1
    rw [gB_f c2] at q2
    refine e_then (e_il1 hT (y := 64) (pc := 0) (q := (yX3_searchNight, cX3_searchNight, 5, (some .int), 3)) rfl (show aTab 64 0 = some (.iload_n 1, 1, 0, 0, 0, 0, 0, 0) from rfl) rfl rfl) ?_
    refine e_then (e_st hT (y := 64) (pc := 1) (q := (yX3_searchNight, cX3_searchNight, 5, (some .int), 3)) rfl (show aTab 64 1 = some (.iconst 1, 1, 0, 0, 0, 0, 0, 0) from rfl) (fr' := (64, 2, (lv_args 0 [.ref 53, .int n, .int mm]), [.int 1, .int n])) (M' := M) rfl) ?_
    refine e_then (e_st hT (y := 64) (pc := 2) (q := (yX3_searchNight, cX3_searchNight, 5, (some .int), 3)) rfl (show aTab 64 2 = some (.bipush 99, 2, 0, 0, 0, 0, 0, 0) from rfl) (fr' := (64, 4, (lv_args 0 [.ref 53, .int n, .int mm]), [.int 99, .int 1, .int n])) (M' := M) rfl) ?_
    refine e_then (e_callsN hT (y := 64) (pc := 4) (q := (yX3_searchNight, cX3_searchNight, 5, (some .int), 3)) rfl (show aTab 64 4 = some (.invokestatic 32, 3, 3, 234, 0, 3, 3, 11) from rfl) (Nat.le_of_ble_eq_true rfl) (Nat.le_of_ble_eq_true rfl) (Nat.le_of_ble_eq_true rfl) ⟨by decide, by decide⟩ q1) ?_
    refine e_then (e_ifF hT (y := 64) (pc := 7) (q := (yX3_searchNight, cX3_searchNight, 5, (some .int), 3)) rfl (show aTab 64 7 = some (.ifCond .eq 14, 3, 0, 0, 0, 0, 0, 0) from rfl) rfl (t := 21) rfl (cdF (by show ¬ (1 : Int32).toInt = 0; decide))) ?_
    refine e_then (e_il1 hT (y := 64) (pc := 10) (q := (yX3_searchNight, cX3_searchNight, 5, (some .int), 3)) rfl (show aTab 64 10 = some (.iload_n 2, 1, 0, 0, 0, 0, 0, 0) from rfl) rfl rfl) ?_
    refine e_then (e_st hT (y := 64) (pc := 11) (q := (yX3_searchNight, cX3_searchNight, 5, (some .int), 3)) rfl (show aTab 64 11 = some (.iconst 1, 1, 0, 0, 0, 0, 0, 0) from rfl) (fr' := (64, 12, (lv_args 0 [.ref 53, .int n, .int mm]), [.int 1, .int mm])) (M' := M) rfl) ?_
    refine e_then (e_st hT (y := 64) (pc := 12) (q := (yX3_searchNight, cX3_searchNight, 5, (some .int), 3)) rfl (show aTab 64 12 = some (.sipush 999, 3, 0, 0, 0, 0, 0, 0) from rfl) (fr' := (64, 15, (lv_args 0 [.ref 53, .int n, .int mm]), [.int 999, .int 1, .int mm])) (M' := M) rfl) ?_
    refine e_then (e_callsN hT (y := 64) (pc := 15) (q := (yX3_searchNight, cX3_searchNight, 5, (some .int), 3)) rfl (show aTab 64 15 = some (.invokestatic 32, 3, 3, 234, 0, 3, 3, 11) from rfl) (Nat.le_of_ble_eq_true rfl) (Nat.le_of_ble_eq_true rfl) (Nat.le_of_ble_eq_true rfl) ⟨by decide, by decide⟩ q2) ?_
    refine e_then (e_ifF hT (y := 64) (pc := 18) (q := (yX3_searchNight, cX3_searchNight, 5, (some .int), 3)) rfl (show aTab 64 18 = some (.ifCond .ne 6, 3, 0, 0, 0, 0, 0, 0) from rfl) rfl (t := 24) rfl (cdF (by show ¬ ¬ (0 : Int32).toInt = 0; decide))) ?_
    refine e_then (e_st hT (y := 64) (pc := 21) (q := (yX3_searchNight, cX3_searchNight, 5, (some .int), 3)) rfl (show aTab 64 21 = some (.ldc 36, 2, 7, 0, (-1000000001), 0, 0, 0) from rfl) (fr' := (64, 23, (lv_args 0 [.ref 53, .int n, .int mm]), [.int (-1000000001)])) (M' := M) rfl) ?_
    exact e_fin (e_iret hT (y := 64) (pc := 23) (q := (yX3_searchNight, cX3_searchNight, 5, (some .int), 3)) rfl (show aTab 64 23 = some (.ireturn, 1, 0, 0, 0, 0, 0, 0) from rfl) ⟨rfl, rfl⟩) ⟨rfl, rfl⟩
  · rw [gB_f c1] at q1
    refine e_then (e_il1 hT (y := 64) (pc := 0) (q := (yX3_searchNight, cX3_searchNight, 5, (some .int), 3)) rfl (show aTab 64 0 = some (.iload_n 1, 1, 0, 0, 0, 0, 0, 0) from rfl) rfl rfl) ?_
    refine e_then (e_st hT (y := 64) (pc := 1) (q := (yX3_searchNight, cX3_searchNight, 5, (some .int), 3)) rfl (show aTab 64 1 = some (.iconst 1, 1, 0, 0, 0, 0, 0, 0) from rfl) (fr' := (64, 2, (lv_args 0 [.ref 53, .int n, .int mm]), [.int 1, .int n])) (M' := M) rfl) ?_
    refine e_then (e_st hT (y := 64) (pc := 2) (q := (yX3_searchNight, cX3_searchNight, 5, (some .int), 3)) rfl (show aTab 64 2 = some (.bipush 99, 2, 0, 0, 0, 0, 0, 0) from rfl) (fr' := (64, 4, (lv_args 0 [.ref 53, .int n, .int mm]), [.int 99, .int 1, .int n])) (M' := M) rfl) ?_
    refine e_then (e_callsN hT (y := 64) (pc := 4) (q := (yX3_searchNight, cX3_searchNight, 5, (some .int), 3)) rfl (show aTab 64 4 = some (.invokestatic 32, 3, 3, 234, 0, 3, 3, 11) from rfl) (Nat.le_of_ble_eq_true rfl) (Nat.le_of_ble_eq_true rfl) (Nat.le_of_ble_eq_true rfl) ⟨by decide, by decide⟩ q1) ?_
    refine e_then (e_ifT hT (y := 64) (pc := 7) (q := (yX3_searchNight, cX3_searchNight, 5, (some .int), 3)) rfl (show aTab 64 7 = some (.ifCond .eq 14, 3, 0, 0, 0, 0, 0, 0) from rfl) rfl (t := 21) rfl (cdT (by show (0 : Int32).toInt = 0; rfl))) ?_
    refine e_then (e_st hT (y := 64) (pc := 21) (q := (yX3_searchNight, cX3_searchNight, 5, (some .int), 3)) rfl (show aTab 64 21 = some (.ldc 36, 2, 7, 0, (-1000000001), 0, 0, 0) from rfl) (fr' := (64, 23, (lv_args 0 [.ref 53, .int n, .int mm]), [.int (-1000000001)])) (M' := M) rfl) ?_
    exact e_fin (e_iret hT (y := 64) (pc := 23) (q := (yX3_searchNight, cX3_searchNight, 5, (some .int), 3)) rfl (show aTab 64 23 = some (.ireturn, 1, 0, 0, 0, 0, 0, 0) from rfl) ⟨rfl, rfl⟩) ⟨rfl, rfl⟩
theorem xnf_run (hT : aTabOk) {M : mHe} (hM : yTy M) {S : Nat} (hS : S ≤ 8) (hz : ∀ xs : tXs, yRd xs M 44 0 = some (.int (Int32.ofNat S))) {v m p a : Nat → Int32} (hv : ntRows M 45 0 1 v) (hm : ntRows M 46 0 1 m) (hp : ntRows M 47 0 1 p) (ha : ntRows M 48 0 1 a) {n mm w : Int32} : mEv none 80 (66, 0, lv_args 0 [.ref 53, .int n, .int mm, .int w], []) M (fun r M' => r = some (.int (ntA v m p a S n mm w)) ∧ yTy M' ∧ yFr xnW M M') := by
  have hpb := ntP_b hS
  obtain ⟨fs, hfs, -⟩ := yTy_obj hM (rfl : tTy 44 = some (.inr (3, _)))
  obtain ⟨K1, q1⟩ := within_i hT (M := M) (v := w) (l := 0) (h := 2) (d := 79) (by decide)
  rw [show (0 : Int32).toInt = 0 from rfl, show (2 : Int32).toInt = 2 from rfl] at q1
  by_cases c1 : 0 ≤ w.toInt ∧ w.toInt ≤ 2
  · rw [gB_t c1] at q1
    by_cases c2 : (1 ≤ n.toInt ∧ n.toInt ≤ 99) ∧ (1 ≤ mm.toInt ∧ mm.toInt ≤ 999)
    · obtain ⟨K2, r2, M2, q2, rfl, hI⟩ := xsn_run hT hM hS hz hv hm hp ha c2.1 c2.2
      have q2 := mRun_dm q2 (show 70 ≤ 79 by decide)
      rw [ntA_go c2 c1]
      have hr := ntF_r (v := v) (m := m) (p := p) (a := a) (S := S) (n := n) (mm := mm) (2 ^ S - 1) (by omega)
      obtain ⟨b, hb⟩ : ∃ b, b = ntF v m p a S n mm (2 ^ S - 1) := ⟨_, rfl⟩
      rw [← hb] at q2 hI hr ⊢
      obtain ⟨i1, i2, y, z, i3, i4⟩ := hI
      obtain ⟨gs, hgs, -⟩ := yTy_obj i1 (rfl : tTy 44 = some (.inr (3, _)))
      have hf5 := ob_get (by decide) hgs i3.1
      have hf6 := ob_get (by decide) hgs i3.2.1
      have hf7 := ob_get (by decide) hgs i3.2.2
      by_cases c3 : b < 0
      · rw [if_pos c3] at q2 ⊢
        refine e_then (e_il1 hT (y := 66) (pc := 0) (q := (yX3_nightFact, cX3_nightFact, 5, (some .int), 3)) rfl (show aTab 66 0 = some (.iload_n 3, 1, 0, 0, 0, 0, 0, 0) from rfl) rfl rfl) ?_
        refine e_then (e_st hT (y := 66) (pc := 1) (q := (yX3_nightFact, cX3_nightFact, 5, (some .int), 3)) rfl (show aTab 66 1 = some (.iconst 0, 1, 0, 0, 0, 0, 0, 0) from rfl) (fr' := (66, 2, (lv_args 0 [.ref 53, .int n, .int mm, .int w]), [.int 0, .int w])) (M' := M) rfl) ?_
        refine e_then (e_st hT (y := 66) (pc := 2) (q := (yX3_nightFact, cX3_nightFact, 5, (some .int), 3)) rfl (show aTab 66 2 = some (.iconst 2, 1, 0, 0, 0, 0, 0, 0) from rfl) (fr' := (66, 3, (lv_args 0 [.ref 53, .int n, .int mm, .int w]), [.int 2, .int 0, .int w])) (M' := M) rfl) ?_
        refine e_then (e_callsN hT (y := 66) (pc := 3) (q := (yX3_nightFact, cX3_nightFact, 5, (some .int), 3)) rfl (show aTab 66 3 = some (.invokestatic 32, 3, 3, 234, 0, 3, 3, 11) from rfl) (Nat.le_of_ble_eq_true rfl) (Nat.le_of_ble_eq_true rfl) (Nat.le_of_ble_eq_true rfl) ⟨by decide, by decide⟩ q1) ?_
        refine e_then (e_ifT hT (y := 66) (pc := 6) (q := (yX3_nightFact, cX3_nightFact, 5, (some .int), 3)) rfl (show aTab 66 6 = some (.ifCond .ne 6, 3, 0, 0, 0, 0, 0, 0) from rfl) rfl (t := 12) rfl (cdT (by show ¬ (1 : Int32).toInt = 0; decide))) ?_
        refine e_then (e_al1 hT (y := 66) (pc := 12) (q := (yX3_nightFact, cX3_nightFact, 5, (some .int), 3)) rfl (show aTab 66 12 = some (.aload_n 0, 1, 0, 0, 0, 0, 0, 0) from rfl) rfl rfl) ?_
        refine e_then (e_il1 hT (y := 66) (pc := 13) (q := (yX3_nightFact, cX3_nightFact, 5, (some .int), 3)) rfl (show aTab 66 13 = some (.iload_n 1, 1, 0, 0, 0, 0, 0, 0) from rfl) rfl rfl) ?_
        refine e_then (e_il1 hT (y := 66) (pc := 14) (q := (yX3_nightFact, cX3_nightFact, 5, (some .int), 3)) rfl (show aTab 66 14 = some (.iload_n 2, 1, 0, 0, 0, 0, 0, 0) from rfl) rfl rfl) ?_
        refine e_then (e_call hT (y := 66) (pc := 15) (q := (yX3_nightFact, cX3_nightFact, 5, (some .int), 3)) rfl (show aTab 66 15 = some (.invokevirtual 60, 3, 1, 64, 0, 2, 5, 3) from rfl) rfl ⟨by decide, Nat.le_of_ble_eq_true rfl⟩ hfs (Nat.le_of_ble_eq_true rfl) (Nat.le_of_ble_eq_true rfl) ⟨by decide, by decide⟩ q2) ?_
        refine e_then (e_is2 hT (y := 66) (pc := 18) (q := (yX3_nightFact, cX3_nightFact, 5, (some .int), 3)) rfl (show aTab 66 18 = some (.istore 4, 2, 0, 0, 0, 0, 0, 0) from rfl) ⟨rfl, by decide⟩) ?_
        refine e_then (e_il2 hT (y := 66) (pc := 20) (q := (yX3_nightFact, cX3_nightFact, 5, (some .int), 3)) rfl (show aTab 66 20 = some (.iload 4, 2, 0, 0, 0, 0, 0, 0) from rfl) rfl (mlg_eq 4 _ _)) ?_
        refine e_then (e_ifF hT (y := 66) (pc := 22) (q := (yX3_nightFact, cX3_nightFact, 5, (some .int), 3)) rfl (show aTab 66 22 = some (.ifCond .eq 6, 3, 0, 0, 0, 0, 0, 0) from rfl) rfl (t := 28) rfl (cdF (by show ¬ _ = _; decide))) ?_
        refine e_then (e_il2 hT (y := 66) (pc := 25) (q := (yX3_nightFact, cX3_nightFact, 5, (some .int), 3)) rfl (show aTab 66 25 = some (.iload 4, 2, 0, 0, 0, 0, 0, 0) from rfl) rfl (mlg_eq 4 _ _)) ?_
        exact e_fin (e_iret hT (y := 66) (pc := 27) (q := (yX3_nightFact, cX3_nightFact, 5, (some .int), 3)) rfl (show aTab 66 27 = some (.ireturn, 1, 0, 0, 0, 0, 0, 0) from rfl) ⟨rfl, rfl⟩) ⟨rfl, i1, i2⟩
      rw [if_neg c3] at q2 hf5 ⊢
      obtain ⟨rfl, rfl⟩ := i4 c3
      by_cases c4 : w = 0
      · rw [if_pos c4]
        refine e_then (e_il1 hT (y := 66) (pc := 0) (q := (yX3_nightFact, cX3_nightFact, 5, (some .int), 3)) rfl (show aTab 66 0 = some (.iload_n 3, 1, 0, 0, 0, 0, 0, 0) from rfl) rfl rfl) ?_
        refine e_then (e_st hT (y := 66) (pc := 1) (q := (yX3_nightFact, cX3_nightFact, 5, (some .int), 3)) rfl (show aTab 66 1 = some (.iconst 0, 1, 0, 0, 0, 0, 0, 0) from rfl) (fr' := (66, 2, (lv_args 0 [.ref 53, .int n, .int mm, .int w]), [.int 0, .int w])) (M' := M) rfl) ?_
        refine e_then (e_st hT (y := 66) (pc := 2) (q := (yX3_nightFact, cX3_nightFact, 5, (some .int), 3)) rfl (show aTab 66 2 = some (.iconst 2, 1, 0, 0, 0, 0, 0, 0) from rfl) (fr' := (66, 3, (lv_args 0 [.ref 53, .int n, .int mm, .int w]), [.int 2, .int 0, .int w])) (M' := M) rfl) ?_
        refine e_then (e_callsN hT (y := 66) (pc := 3) (q := (yX3_nightFact, cX3_nightFact, 5, (some .int), 3)) rfl (show aTab 66 3 = some (.invokestatic 32, 3, 3, 234, 0, 3, 3, 11) from rfl) (Nat.le_of_ble_eq_true rfl) (Nat.le_of_ble_eq_true rfl) (Nat.le_of_ble_eq_true rfl) ⟨by decide, by decide⟩ q1) ?_
        refine e_then (e_ifT hT (y := 66) (pc := 6) (q := (yX3_nightFact, cX3_nightFact, 5, (some .int), 3)) rfl (show aTab 66 6 = some (.ifCond .ne 6, 3, 0, 0, 0, 0, 0, 0) from rfl) rfl (t := 12) rfl (cdT (by show ¬ (1 : Int32).toInt = 0; decide))) ?_
        refine e_then (e_al1 hT (y := 66) (pc := 12) (q := (yX3_nightFact, cX3_nightFact, 5, (some .int), 3)) rfl (show aTab 66 12 = some (.aload_n 0, 1, 0, 0, 0, 0, 0, 0) from rfl) rfl rfl) ?_
        refine e_then (e_il1 hT (y := 66) (pc := 13) (q := (yX3_nightFact, cX3_nightFact, 5, (some .int), 3)) rfl (show aTab 66 13 = some (.iload_n 1, 1, 0, 0, 0, 0, 0, 0) from rfl) rfl rfl) ?_
        refine e_then (e_il1 hT (y := 66) (pc := 14) (q := (yX3_nightFact, cX3_nightFact, 5, (some .int), 3)) rfl (show aTab 66 14 = some (.iload_n 2, 1, 0, 0, 0, 0, 0, 0) from rfl) rfl rfl) ?_
        refine e_then (e_call hT (y := 66) (pc := 15) (q := (yX3_nightFact, cX3_nightFact, 5, (some .int), 3)) rfl (show aTab 66 15 = some (.invokevirtual 60, 3, 1, 64, 0, 2, 5, 3) from rfl) rfl ⟨by decide, Nat.le_of_ble_eq_true rfl⟩ hfs (Nat.le_of_ble_eq_true rfl) (Nat.le_of_ble_eq_true rfl) ⟨by decide, by decide⟩ q2) ?_
        refine e_then (e_is2 hT (y := 66) (pc := 18) (q := (yX3_nightFact, cX3_nightFact, 5, (some .int), 3)) rfl (show aTab 66 18 = some (.istore 4, 2, 0, 0, 0, 0, 0, 0) from rfl) ⟨rfl, by decide⟩) ?_
        refine e_then (e_il2 hT (y := 66) (pc := 20) (q := (yX3_nightFact, cX3_nightFact, 5, (some .int), 3)) rfl (show aTab 66 20 = some (.iload 4, 2, 0, 0, 0, 0, 0, 0) from rfl) rfl (mlg_eq 4 _ _)) ?_
        refine e_then (e_ifT hT (y := 66) (pc := 22) (q := (yX3_nightFact, cX3_nightFact, 5, (some .int), 3)) rfl (show aTab 66 22 = some (.ifCond .eq 6, 3, 0, 0, 0, 0, 0, 0) from rfl) rfl (t := 28) rfl (cdT (by show (0 : Int32).toInt = 0; rfl))) ?_
        refine e_then (e_il1 hT (y := 66) (pc := 28) (q := (yX3_nightFact, cX3_nightFact, 5, (some .int), 3)) rfl (show aTab 66 28 = some (.iload_n 3, 1, 0, 0, 0, 0, 0, 0) from rfl) rfl (mlg_i rfl (by decide))) ?_
        refine e_then (e_ifF hT (y := 66) (pc := 29) (q := (yX3_nightFact, cX3_nightFact, 5, (some .int), 3)) rfl (show aTab 66 29 = some (.ifCond .ne 8, 3, 0, 0, 0, 0, 0, 0) from rfl) rfl (t := 37) rfl (cdF (by show ¬ ¬ _ = _; rw [c4]; decide))) ?_
        refine e_then (e_al1 hT (y := 66) (pc := 32) (q := (yX3_nightFact, cX3_nightFact, 5, (some .int), 3)) rfl (show aTab 66 32 = some (.aload_n 0, 1, 0, 0, 0, 0, 0, 0) from rfl) rfl (mlg_r rfl (by decide))) ?_
        refine e_then (e_getf hT (y := 66) (pc := 33) (q := (yX3_nightFact, cX3_nightFact, 5, (some .int), 3)) rfl (show aTab 66 33 = some (.getfield 39, 3, 0, 3, 5, 0, 0, 0) from rfl) rfl (by decide) (by decide) hgs hf5) ?_
        exact e_fin (e_iret hT (y := 66) (pc := 36) (q := (yX3_nightFact, cX3_nightFact, 5, (some .int), 3)) rfl (show aTab 66 36 = some (.ireturn, 1, 0, 0, 0, 0, 0, 0) from rfl) ⟨rfl, rfl⟩) ⟨rfl, i1, i2⟩
      rw [if_neg c4]
      by_cases c5 : w = 1
      · rw [if_pos c5]
        refine e_then (e_il1 hT (y := 66) (pc := 0) (q := (yX3_nightFact, cX3_nightFact, 5, (some .int), 3)) rfl (show aTab 66 0 = some (.iload_n 3, 1, 0, 0, 0, 0, 0, 0) from rfl) rfl rfl) ?_
        refine e_then (e_st hT (y := 66) (pc := 1) (q := (yX3_nightFact, cX3_nightFact, 5, (some .int), 3)) rfl (show aTab 66 1 = some (.iconst 0, 1, 0, 0, 0, 0, 0, 0) from rfl) (fr' := (66, 2, (lv_args 0 [.ref 53, .int n, .int mm, .int w]), [.int 0, .int w])) (M' := M) rfl) ?_
        refine e_then (e_st hT (y := 66) (pc := 2) (q := (yX3_nightFact, cX3_nightFact, 5, (some .int), 3)) rfl (show aTab 66 2 = some (.iconst 2, 1, 0, 0, 0, 0, 0, 0) from rfl) (fr' := (66, 3, (lv_args 0 [.ref 53, .int n, .int mm, .int w]), [.int 2, .int 0, .int w])) (M' := M) rfl) ?_
        refine e_then (e_callsN hT (y := 66) (pc := 3) (q := (yX3_nightFact, cX3_nightFact, 5, (some .int), 3)) rfl (show aTab 66 3 = some (.invokestatic 32, 3, 3, 234, 0, 3, 3, 11) from rfl) (Nat.le_of_ble_eq_true rfl) (Nat.le_of_ble_eq_true rfl) (Nat.le_of_ble_eq_true rfl) ⟨by decide, by decide⟩ q1) ?_
        refine e_then (e_ifT hT (y := 66) (pc := 6) (q := (yX3_nightFact, cX3_nightFact, 5, (some .int), 3)) rfl (show aTab 66 6 = some (.ifCond .ne 6, 3, 0, 0, 0, 0, 0, 0) from rfl) rfl (t := 12) rfl (cdT (by show ¬ (1 : Int32).toInt = 0; decide))) ?_
        refine e_then (e_al1 hT (y := 66) (pc := 12) (q := (yX3_nightFact, cX3_nightFact, 5, (some .int), 3)) rfl (show aTab 66 12 = some (.aload_n 0, 1, 0, 0, 0, 0, 0, 0) from rfl) rfl rfl) ?_
        refine e_then (e_il1 hT (y := 66) (pc := 13) (q := (yX3_nightFact, cX3_nightFact, 5, (some .int), 3)) rfl (show aTab 66 13 = some (.iload_n 1, 1, 0, 0, 0, 0, 0, 0) from rfl) rfl rfl) ?_
        refine e_then (e_il1 hT (y := 66) (pc := 14) (q := (yX3_nightFact, cX3_nightFact, 5, (some .int), 3)) rfl (show aTab 66 14 = some (.iload_n 2, 1, 0, 0, 0, 0, 0, 0) from rfl) rfl rfl) ?_
        refine e_then (e_call hT (y := 66) (pc := 15) (q := (yX3_nightFact, cX3_nightFact, 5, (some .int), 3)) rfl (show aTab 66 15 = some (.invokevirtual 60, 3, 1, 64, 0, 2, 5, 3) from rfl) rfl ⟨by decide, Nat.le_of_ble_eq_true rfl⟩ hfs (Nat.le_of_ble_eq_true rfl) (Nat.le_of_ble_eq_true rfl) ⟨by decide, by decide⟩ q2) ?_
        refine e_then (e_is2 hT (y := 66) (pc := 18) (q := (yX3_nightFact, cX3_nightFact, 5, (some .int), 3)) rfl (show aTab 66 18 = some (.istore 4, 2, 0, 0, 0, 0, 0, 0) from rfl) ⟨rfl, by decide⟩) ?_
        refine e_then (e_il2 hT (y := 66) (pc := 20) (q := (yX3_nightFact, cX3_nightFact, 5, (some .int), 3)) rfl (show aTab 66 20 = some (.iload 4, 2, 0, 0, 0, 0, 0, 0) from rfl) rfl (mlg_eq 4 _ _)) ?_
        refine e_then (e_ifT hT (y := 66) (pc := 22) (q := (yX3_nightFact, cX3_nightFact, 5, (some .int), 3)) rfl (show aTab 66 22 = some (.ifCond .eq 6, 3, 0, 0, 0, 0, 0, 0) from rfl) rfl (t := 28) rfl (cdT (by show (0 : Int32).toInt = 0; rfl))) ?_
        refine e_then (e_il1 hT (y := 66) (pc := 28) (q := (yX3_nightFact, cX3_nightFact, 5, (some .int), 3)) rfl (show aTab 66 28 = some (.iload_n 3, 1, 0, 0, 0, 0, 0, 0) from rfl) rfl (mlg_i rfl (by decide))) ?_
        refine e_then (e_ifT hT (y := 66) (pc := 29) (q := (yX3_nightFact, cX3_nightFact, 5, (some .int), 3)) rfl (show aTab 66 29 = some (.ifCond .ne 8, 3, 0, 0, 0, 0, 0, 0) from rfl) rfl (t := 37) rfl (cdT (by show ¬ _ = _; exact fun z => c4 (Int32.toInt_inj.mp z)))) ?_
        refine e_then (e_il1 hT (y := 66) (pc := 37) (q := (yX3_nightFact, cX3_nightFact, 5, (some .int), 3)) rfl (show aTab 66 37 = some (.iload_n 3, 1, 0, 0, 0, 0, 0, 0) from rfl) rfl (mlg_i rfl (by decide))) ?_
        refine e_then (e_st hT (y := 66) (pc := 38) (q := (yX3_nightFact, cX3_nightFact, 5, (some .int), 3)) rfl (show aTab 66 38 = some (.iconst 1, 1, 0, 0, 0, 0, 0, 0) from rfl) (fr' := (66, 39, (mlp 4 (.int 0) (lv_args 0 [.ref 53, .int n, .int mm, .int w])), [.int 1, .int w])) (M' := M2) rfl) ?_
        refine e_then (e_icF hT (y := 66) (pc := 39) (q := (yX3_nightFact, cX3_nightFact, 5, (some .int), 3)) rfl (show aTab 66 39 = some (.if_icmp .ne 10, 3, 0, 0, 0, 0, 0, 0) from rfl) rfl (t := 49) rfl (cdF (by show ¬ ¬ _ = _; rw [c5]; decide))) ?_
        refine e_then (e_al1 hT (y := 66) (pc := 42) (q := (yX3_nightFact, cX3_nightFact, 5, (some .int), 3)) rfl (show aTab 66 42 = some (.aload_n 0, 1, 0, 0, 0, 0, 0, 0) from rfl) rfl (mlg_r rfl (by decide))) ?_
        refine e_then (e_getf hT (y := 66) (pc := 43) (q := (yX3_nightFact, cX3_nightFact, 5, (some .int), 3)) rfl (show aTab 66 43 = some (.getfield 54, 3, 0, 3, 6, 0, 0, 0) from rfl) rfl (by decide) (by decide) hgs hf6) ?_
        refine e_then (e_st hT (y := 66) (pc := 46) (q := (yX3_nightFact, cX3_nightFact, 5, (some .int), 3)) rfl (show aTab 66 46 = some (.goto 7, 3, 0, 0, 0, 0, 0, 0) from rfl) (fr' := (66, 53, (mlp 4 (.int 0) (lv_args 0 [.ref 53, .int n, .int mm, .int w])), [.int (ntS p b S)])) (M' := M2) rfl) ?_
        exact e_fin (e_iret hT (y := 66) (pc := 53) (q := (yX3_nightFact, cX3_nightFact, 5, (some .int), 3)) rfl (show aTab 66 53 = some (.ireturn, 1, 0, 0, 0, 0, 0, 0) from rfl) ⟨rfl, rfl⟩) ⟨rfl, i1, i2⟩
      · rw [if_neg c5]
        refine e_then (e_il1 hT (y := 66) (pc := 0) (q := (yX3_nightFact, cX3_nightFact, 5, (some .int), 3)) rfl (show aTab 66 0 = some (.iload_n 3, 1, 0, 0, 0, 0, 0, 0) from rfl) rfl rfl) ?_
        refine e_then (e_st hT (y := 66) (pc := 1) (q := (yX3_nightFact, cX3_nightFact, 5, (some .int), 3)) rfl (show aTab 66 1 = some (.iconst 0, 1, 0, 0, 0, 0, 0, 0) from rfl) (fr' := (66, 2, (lv_args 0 [.ref 53, .int n, .int mm, .int w]), [.int 0, .int w])) (M' := M) rfl) ?_
        refine e_then (e_st hT (y := 66) (pc := 2) (q := (yX3_nightFact, cX3_nightFact, 5, (some .int), 3)) rfl (show aTab 66 2 = some (.iconst 2, 1, 0, 0, 0, 0, 0, 0) from rfl) (fr' := (66, 3, (lv_args 0 [.ref 53, .int n, .int mm, .int w]), [.int 2, .int 0, .int w])) (M' := M) rfl) ?_
        refine e_then (e_callsN hT (y := 66) (pc := 3) (q := (yX3_nightFact, cX3_nightFact, 5, (some .int), 3)) rfl (show aTab 66 3 = some (.invokestatic 32, 3, 3, 234, 0, 3, 3, 11) from rfl) (Nat.le_of_ble_eq_true rfl) (Nat.le_of_ble_eq_true rfl) (Nat.le_of_ble_eq_true rfl) ⟨by decide, by decide⟩ q1) ?_
        refine e_then (e_ifT hT (y := 66) (pc := 6) (q := (yX3_nightFact, cX3_nightFact, 5, (some .int), 3)) rfl (show aTab 66 6 = some (.ifCond .ne 6, 3, 0, 0, 0, 0, 0, 0) from rfl) rfl (t := 12) rfl (cdT (by show ¬ (1 : Int32).toInt = 0; decide))) ?_
        refine e_then (e_al1 hT (y := 66) (pc := 12) (q := (yX3_nightFact, cX3_nightFact, 5, (some .int), 3)) rfl (show aTab 66 12 = some (.aload_n 0, 1, 0, 0, 0, 0, 0, 0) from rfl) rfl rfl) ?_
        refine e_then (e_il1 hT (y := 66) (pc := 13) (q := (yX3_nightFact, cX3_nightFact, 5, (some .int), 3)) rfl (show aTab 66 13 = some (.iload_n 1, 1, 0, 0, 0, 0, 0, 0) from rfl) rfl rfl) ?_
        refine e_then (e_il1 hT (y := 66) (pc := 14) (q := (yX3_nightFact, cX3_nightFact, 5, (some .int), 3)) rfl (show aTab 66 14 = some (.iload_n 2, 1, 0, 0, 0, 0, 0, 0) from rfl) rfl rfl) ?_
        refine e_then (e_call hT (y := 66) (pc := 15) (q := (yX3_nightFact, cX3_nightFact, 5, (some .int), 3)) rfl (show aTab 66 15 = some (.invokevirtual 60, 3, 1, 64, 0, 2, 5, 3) from rfl) rfl ⟨by decide, Nat.le_of_ble_eq_true rfl⟩ hfs (Nat.le_of_ble_eq_true rfl) (Nat.le_of_ble_eq_true rfl) ⟨by decide, by decide⟩ q2) ?_
        refine e_then (e_is2 hT (y := 66) (pc := 18) (q := (yX3_nightFact, cX3_nightFact, 5, (some .int), 3)) rfl (show aTab 66 18 = some (.istore 4, 2, 0, 0, 0, 0, 0, 0) from rfl) ⟨rfl, by decide⟩) ?_
        refine e_then (e_il2 hT (y := 66) (pc := 20) (q := (yX3_nightFact, cX3_nightFact, 5, (some .int), 3)) rfl (show aTab 66 20 = some (.iload 4, 2, 0, 0, 0, 0, 0, 0) from rfl) rfl (mlg_eq 4 _ _)) ?_
        refine e_then (e_ifT hT (y := 66) (pc := 22) (q := (yX3_nightFact, cX3_nightFact, 5, (some .int), 3)) rfl (show aTab 66 22 = some (.ifCond .eq 6, 3, 0, 0, 0, 0, 0, 0) from rfl) rfl (t := 28) rfl (cdT (by show (0 : Int32).toInt = 0; rfl))) ?_
        refine e_then (e_il1 hT (y := 66) (pc := 28) (q := (yX3_nightFact, cX3_nightFact, 5, (some .int), 3)) rfl (show aTab 66 28 = some (.iload_n 3, 1, 0, 0, 0, 0, 0, 0) from rfl) rfl (mlg_i rfl (by decide))) ?_
        refine e_then (e_ifT hT (y := 66) (pc := 29) (q := (yX3_nightFact, cX3_nightFact, 5, (some .int), 3)) rfl (show aTab 66 29 = some (.ifCond .ne 8, 3, 0, 0, 0, 0, 0, 0) from rfl) rfl (t := 37) rfl (cdT (by show ¬ _ = _; exact fun z => c4 (Int32.toInt_inj.mp z)))) ?_
        refine e_then (e_il1 hT (y := 66) (pc := 37) (q := (yX3_nightFact, cX3_nightFact, 5, (some .int), 3)) rfl (show aTab 66 37 = some (.iload_n 3, 1, 0, 0, 0, 0, 0, 0) from rfl) rfl (mlg_i rfl (by decide))) ?_
        refine e_then (e_st hT (y := 66) (pc := 38) (q := (yX3_nightFact, cX3_nightFact, 5, (some .int), 3)) rfl (show aTab 66 38 = some (.iconst 1, 1, 0, 0, 0, 0, 0, 0) from rfl) (fr' := (66, 39, (mlp 4 (.int 0) (lv_args 0 [.ref 53, .int n, .int mm, .int w])), [.int 1, .int w])) (M' := M2) rfl) ?_
        refine e_then (e_icT hT (y := 66) (pc := 39) (q := (yX3_nightFact, cX3_nightFact, 5, (some .int), 3)) rfl (show aTab 66 39 = some (.if_icmp .ne 10, 3, 0, 0, 0, 0, 0, 0) from rfl) rfl (t := 49) rfl (cdT (by show ¬ _ = _; exact fun z => c5 (Int32.toInt_inj.mp z)))) ?_
        refine e_then (e_al1 hT (y := 66) (pc := 49) (q := (yX3_nightFact, cX3_nightFact, 5, (some .int), 3)) rfl (show aTab 66 49 = some (.aload_n 0, 1, 0, 0, 0, 0, 0, 0) from rfl) rfl (mlg_r rfl (by decide))) ?_
        refine e_then (e_getf hT (y := 66) (pc := 50) (q := (yX3_nightFact, cX3_nightFact, 5, (some .int), 3)) rfl (show aTab 66 50 = some (.getfield 57, 3, 0, 3, 7, 0, 0, 0) from rfl) rfl (by decide) (by decide) hgs hf7) ?_
        exact e_fin (e_iret hT (y := 66) (pc := 53) (q := (yX3_nightFact, cX3_nightFact, 5, (some .int), 3)) rfl (show aTab 66 53 = some (.ireturn, 1, 0, 0, 0, 0, 0, 0) from rfl) ⟨rfl, rfl⟩) ⟨rfl, i1, i2⟩
    · obtain ⟨K2, r2, M2, q2, hr2, hM2⟩ := xsn_bad hT (M := M) c2
      rw [hr2, hM2] at q2
      have q2 := mRun_dm q2 (show 70 ≤ 79 by decide)
      rw [ntA_bad (Or.inl c2)]
      refine e_then (e_il1 hT (y := 66) (pc := 0) (q := (yX3_nightFact, cX3_nightFact, 5, (some .int), 3)) rfl (show aTab 66 0 = some (.iload_n 3, 1, 0, 0, 0, 0, 0, 0) from rfl) rfl rfl) ?_
      refine e_then (e_st hT (y := 66) (pc := 1) (q := (yX3_nightFact, cX3_nightFact, 5, (some .int), 3)) rfl (show aTab 66 1 = some (.iconst 0, 1, 0, 0, 0, 0, 0, 0) from rfl) (fr' := (66, 2, (lv_args 0 [.ref 53, .int n, .int mm, .int w]), [.int 0, .int w])) (M' := M) rfl) ?_
      refine e_then (e_st hT (y := 66) (pc := 2) (q := (yX3_nightFact, cX3_nightFact, 5, (some .int), 3)) rfl (show aTab 66 2 = some (.iconst 2, 1, 0, 0, 0, 0, 0, 0) from rfl) (fr' := (66, 3, (lv_args 0 [.ref 53, .int n, .int mm, .int w]), [.int 2, .int 0, .int w])) (M' := M) rfl) ?_
      refine e_then (e_callsN hT (y := 66) (pc := 3) (q := (yX3_nightFact, cX3_nightFact, 5, (some .int), 3)) rfl (show aTab 66 3 = some (.invokestatic 32, 3, 3, 234, 0, 3, 3, 11) from rfl) (Nat.le_of_ble_eq_true rfl) (Nat.le_of_ble_eq_true rfl) (Nat.le_of_ble_eq_true rfl) ⟨by decide, by decide⟩ q1) ?_
      refine e_then (e_ifT hT (y := 66) (pc := 6) (q := (yX3_nightFact, cX3_nightFact, 5, (some .int), 3)) rfl (show aTab 66 6 = some (.ifCond .ne 6, 3, 0, 0, 0, 0, 0, 0) from rfl) rfl (t := 12) rfl (cdT (by show ¬ (1 : Int32).toInt = 0; decide))) ?_
      refine e_then (e_al1 hT (y := 66) (pc := 12) (q := (yX3_nightFact, cX3_nightFact, 5, (some .int), 3)) rfl (show aTab 66 12 = some (.aload_n 0, 1, 0, 0, 0, 0, 0, 0) from rfl) rfl rfl) ?_
      refine e_then (e_il1 hT (y := 66) (pc := 13) (q := (yX3_nightFact, cX3_nightFact, 5, (some .int), 3)) rfl (show aTab 66 13 = some (.iload_n 1, 1, 0, 0, 0, 0, 0, 0) from rfl) rfl rfl) ?_
      refine e_then (e_il1 hT (y := 66) (pc := 14) (q := (yX3_nightFact, cX3_nightFact, 5, (some .int), 3)) rfl (show aTab 66 14 = some (.iload_n 2, 1, 0, 0, 0, 0, 0, 0) from rfl) rfl rfl) ?_
      refine e_then (e_call hT (y := 66) (pc := 15) (q := (yX3_nightFact, cX3_nightFact, 5, (some .int), 3)) rfl (show aTab 66 15 = some (.invokevirtual 60, 3, 1, 64, 0, 2, 5, 3) from rfl) rfl ⟨by decide, Nat.le_of_ble_eq_true rfl⟩ hfs (Nat.le_of_ble_eq_true rfl) (Nat.le_of_ble_eq_true rfl) ⟨by decide, by decide⟩ q2) ?_
      refine e_then (e_is2 hT (y := 66) (pc := 18) (q := (yX3_nightFact, cX3_nightFact, 5, (some .int), 3)) rfl (show aTab 66 18 = some (.istore 4, 2, 0, 0, 0, 0, 0, 0) from rfl) ⟨rfl, by decide⟩) ?_
      refine e_then (e_il2 hT (y := 66) (pc := 20) (q := (yX3_nightFact, cX3_nightFact, 5, (some .int), 3)) rfl (show aTab 66 20 = some (.iload 4, 2, 0, 0, 0, 0, 0, 0) from rfl) rfl (mlg_eq 4 _ _)) ?_
      refine e_then (e_ifF hT (y := 66) (pc := 22) (q := (yX3_nightFact, cX3_nightFact, 5, (some .int), 3)) rfl (show aTab 66 22 = some (.ifCond .eq 6, 3, 0, 0, 0, 0, 0, 0) from rfl) rfl (t := 28) rfl (cdF (by show ¬ _ = _; decide))) ?_
      refine e_then (e_il2 hT (y := 66) (pc := 25) (q := (yX3_nightFact, cX3_nightFact, 5, (some .int), 3)) rfl (show aTab 66 25 = some (.iload 4, 2, 0, 0, 0, 0, 0, 0) from rfl) rfl (mlg_eq 4 _ _)) ?_
      exact e_fin (e_iret hT (y := 66) (pc := 27) (q := (yX3_nightFact, cX3_nightFact, 5, (some .int), 3)) rfl (show aTab 66 27 = some (.ireturn, 1, 0, 0, 0, 0, 0, 0) from rfl) ⟨rfl, rfl⟩) ⟨rfl, hM, yFr_rf _ _⟩
  · rw [gB_f c1] at q1
    rw [ntA_bad (Or.inr c1)]
    refine e_then (e_il1 hT (y := 66) (pc := 0) (q := (yX3_nightFact, cX3_nightFact, 5, (some .int), 3)) rfl (show aTab 66 0 = some (.iload_n 3, 1, 0, 0, 0, 0, 0, 0) from rfl) rfl rfl) ?_
    refine e_then (e_st hT (y := 66) (pc := 1) (q := (yX3_nightFact, cX3_nightFact, 5, (some .int), 3)) rfl (show aTab 66 1 = some (.iconst 0, 1, 0, 0, 0, 0, 0, 0) from rfl) (fr' := (66, 2, (lv_args 0 [.ref 53, .int n, .int mm, .int w]), [.int 0, .int w])) (M' := M) rfl) ?_
    refine e_then (e_st hT (y := 66) (pc := 2) (q := (yX3_nightFact, cX3_nightFact, 5, (some .int), 3)) rfl (show aTab 66 2 = some (.iconst 2, 1, 0, 0, 0, 0, 0, 0) from rfl) (fr' := (66, 3, (lv_args 0 [.ref 53, .int n, .int mm, .int w]), [.int 2, .int 0, .int w])) (M' := M) rfl) ?_
    refine e_then (e_callsN hT (y := 66) (pc := 3) (q := (yX3_nightFact, cX3_nightFact, 5, (some .int), 3)) rfl (show aTab 66 3 = some (.invokestatic 32, 3, 3, 234, 0, 3, 3, 11) from rfl) (Nat.le_of_ble_eq_true rfl) (Nat.le_of_ble_eq_true rfl) (Nat.le_of_ble_eq_true rfl) ⟨by decide, by decide⟩ q1) ?_
    refine e_then (e_ifF hT (y := 66) (pc := 6) (q := (yX3_nightFact, cX3_nightFact, 5, (some .int), 3)) rfl (show aTab 66 6 = some (.ifCond .ne 6, 3, 0, 0, 0, 0, 0, 0) from rfl) rfl (t := 12) rfl (cdF (by show ¬ ¬ (0 : Int32).toInt = 0; decide))) ?_
    refine e_then (e_st hT (y := 66) (pc := 9) (q := (yX3_nightFact, cX3_nightFact, 5, (some .int), 3)) rfl (show aTab 66 9 = some (.ldc 36, 2, 7, 0, (-1000000001), 0, 0, 0) from rfl) (fr' := (66, 11, (lv_args 0 [.ref 53, .int n, .int mm, .int w]), [.int (-1000000001)])) (M' := M) rfl) ?_
    exact e_fin (e_iret hT (y := 66) (pc := 11) (q := (yX3_nightFact, cX3_nightFact, 5, (some .int), 3)) rfl (show aTab 66 11 = some (.ireturn, 1, 0, 0, 0, 0, 0, 0) from rfl) ⟨rfl, rfl⟩) ⟨rfl, hM, yFr_rf _ _⟩
theorem xnt_run (hT : aTabOk) {M : mHe} (hM : yTy M) {S : Nat} (hS : S ≤ 8) (hz : ∀ xs : tXs, yRd xs M 44 0 = some (.int (Int32.ofNat S))) {v m p a : Nat → Int32} (hv : ntRows M 45 0 1 v) (hm : ntRows M 46 0 1 m) (hp : ntRows M 47 0 1 p) (ha : ntRows M 48 0 1 a) {n mm w : Int32} : mEv none 90 (227, 0, lv_args 0 [.ref 9, .int n, .int mm, .int w], []) M (fun r M' => r = some (.int (ntA v m p a S n mm w)) ∧ yTy M' ∧ yFr xnW M M') := by
  obtain ⟨K1, r1, M1, q1, rfl, h2, h3⟩ := xnf_run hT hM hS hz hv hm hp ha (n := n) (mm := mm) (w := w)
  have q1 := mRun_dm q1 (show 80 ≤ 89 by decide)
  obtain ⟨fs, hfs, -⟩ := yTy_obj hM (rfl : tTy 44 = some (.inr (3, _)))
  refine e_then (e_al1 hT (y := 227) (pc := 0) (q := (yX11_night, cX11_night, 4, (some .int), 11)) rfl (show aTab 227 0 = some (.aload_n 0, 1, 0, 0, 0, 0, 0, 0) from rfl) rfl rfl) ?_
  refine e_then (e_getR hT (y := 227) (pc := 1) (q := (yX11_night, cX11_night, 4, (some .int), 11)) rfl (show aTab 227 1 = some (.getfield 12, 3, 0, 11, 0, 0, 0, 0) from rfl) rfl (by decide) (by decide) hM rfl rfl) ?_
  refine e_then (e_getR hT (y := 227) (pc := 4) (q := (yX11_night, cX11_night, 4, (some .int), 11)) rfl (show aTab 227 4 = some (.getfield 240, 3, 0, 1, 9, 0, 0, 0) from rfl) rfl (by decide) (by decide) hM rfl rfl) ?_
  refine e_then (e_il1 hT (y := 227) (pc := 7) (q := (yX11_night, cX11_night, 4, (some .int), 11)) rfl (show aTab 227 7 = some (.iload_n 1, 1, 0, 0, 0, 0, 0, 0) from rfl) rfl rfl) ?_
  refine e_then (e_il1 hT (y := 227) (pc := 8) (q := (yX11_night, cX11_night, 4, (some .int), 11)) rfl (show aTab 227 8 = some (.iload_n 2, 1, 0, 0, 0, 0, 0, 0) from rfl) rfl rfl) ?_
  refine e_then (e_il1 hT (y := 227) (pc := 9) (q := (yX11_night, cX11_night, 4, (some .int), 11)) rfl (show aTab 227 9 = some (.iload_n 3, 1, 0, 0, 0, 0, 0, 0) from rfl) rfl rfl) ?_
  refine e_then (e_call hT (y := 227) (pc := 10) (q := (yX11_night, cX11_night, 4, (some .int), 11)) rfl (show aTab 227 10 = some (.invokevirtual 248, 3, 1, 66, 0, 3, 5, 3) from rfl) rfl ⟨by decide, Nat.le_of_ble_eq_true rfl⟩ hfs (Nat.le_of_ble_eq_true rfl) (Nat.le_of_ble_eq_true rfl) ⟨by decide, by decide⟩ q1) ?_
  exact e_fin (e_iret hT (y := 227) (pc := 13) (q := (yX11_night, cX11_night, 4, (some .int), 11)) rfl (show aTab 227 13 = some (.ireturn, 1, 0, 0, 0, 0, 0, 0) from rfl) ⟨rfl, rfl⟩) ⟨rfl, h2, h3⟩
theorem ntPost_ok (hT : aTabOk) : ntPost := by
  refine ⟨fun M hM S v m p a hS hz hv hm hp ha n mm w => ?_, fun M hM S v m p a hS hz hv hm hp ha n mm w => ?_⟩
  · obtain ⟨K, r, M', q1, rfl, h2, h3⟩ := xnt_run hT hM hS hz hv hm hp ha (n := n) (mm := mm) (w := w)
    exact ⟨K, M', mRun_dm q1 (by decide), h2, h3⟩
  · obtain ⟨K, r, M', q1, rfl, rfl⟩ := rnt_run hT hM hS hz hv hm hp ha (n := n) (mm := mm) (w := w)
    exact ⟨K, M', mRun_dm q1 (by decide), hM, yFr_rf _ _⟩
