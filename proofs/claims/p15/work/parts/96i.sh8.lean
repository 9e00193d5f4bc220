/-! WHO HAS READ -/
theorem xto_run (hT : aTabOk) {M : mHe} (hM : yTy M) {g : Nat → Nat → Int32} (hg : rdI M = g) {N : Nat} (hN : g 2 0 = Int32.ofNat N) (hN2 : N ≤ 20) {p : Int32} {pp : Nat} (hpp : p.toInt = (pp : Int)) (hpl : pp < N) {d : Nat} (hd : 10 ≤ d) : ∃ K, mRun none K d (44, 0, lv_args 0 [.ref 11, .int p], []) M = some (some (.int (g 4 pp)), M) := by
  obtain ⟨K1, q1⟩ := xhm_run hT hM hg hN hN2 (p := p) (d := 9) (by decide)
  rw [gB_t (show 0 ≤ p.toInt ∧ p.toInt < (N : Int) by omega)] at q1
  have go : mEv none 10 (44, 0, lv_args 0 [.ref 11, .int p], []) M (fun r M' => r = some (.int (g 4 pp)) ∧ M' = M) := by
    refine e_then (e_al1 hT (y := 44) (pc := 0) (q := (yX2_tonguesOf, cX2_tonguesOf, 2, (some .int), 2)) rfl (show aTab 44 0 = some (.aload_n 0, 1, 0, 0, 0, 0, 0, 0) from rfl) rfl rfl) ?_
    refine e_then (e_il1 hT (y := 44) (pc := 1) (q := (yX2_tonguesOf, cX2_tonguesOf, 2, (some .int), 2)) rfl (show aTab 44 1 = some (.iload_n 1, 1, 0, 0, 0, 0, 0, 0) from rfl) rfl rfl) ?_
    refine e_then (e_call hT (y := 44) (pc := 2) (q := (yX2_tonguesOf, cX2_tonguesOf, 2, (some .int), 2)) rfl (show aTab 44 2 = some (.invokevirtual 54, 3, 1, 40, 0, 1, 2, 2) from rfl) rfl ⟨by decide, Nat.le_of_ble_eq_true rfl⟩ (ob_at hM (rfl : tTy 2 = some (.inr (2, _)))).choose_spec (Nat.le_of_ble_eq_true rfl) (Nat.le_of_ble_eq_true rfl) ⟨by decide, by decide⟩ q1) ?_
    refine e_then (e_ifF hT (y := 44) (pc := 5) (q := (yX2_tonguesOf, cX2_tonguesOf, 2, (some .int), 2)) rfl (show aTab 44 5 = some (.ifCond .eq 12, 3, 0, 0, 0, 0, 0, 0) from rfl) rfl (t := 17) rfl (cdF (by show ¬ (_ = _); decide))) ?_
    refine e_then (e_al1 hT (y := 44) (pc := 8) (q := (yX2_tonguesOf, cX2_tonguesOf, 2, (some .int), 2)) rfl (show aTab 44 8 = some (.aload_n 0, 1, 0, 0, 0, 0, 0, 0) from rfl) rfl rfl) ?_
    refine e_then (e_getR hT (y := 44) (pc := 9) (q := (yX2_tonguesOf, cX2_tonguesOf, 2, (some .int), 2)) rfl (show aTab 44 9 = some (.getfield 15, 3, 0, 2, 2, 0, 0, 0) from rfl) rfl (by decide) (by decide) hM rfl rfl) ?_
    refine e_then (e_il1 hT (y := 44) (pc := 12) (q := (yX2_tonguesOf, cX2_tonguesOf, 2, (some .int), 2)) rfl (show aTab 44 12 = some (.iload_n 1, 1, 0, 0, 0, 0, 0, 0) from rfl) rfl rfl) ?_
    refine e_then (s_ald hT (y := 44) (pc := 13) (q := (yX2_tonguesOf, cX2_tonguesOf, 2, (some .int), 2)) rfl (show aTab 44 13 = some (.iaload, 1, 0, 0, 0, 0, 0, 0) from rfl) rfl hM hg 4 pp rfl hpp (by omega)) ?_
    refine e_then (e_st hT (y := 44) (pc := 14) (q := (yX2_tonguesOf, cX2_tonguesOf, 2, (some .int), 2)) rfl (show aTab 44 14 = some (.goto 4, 3, 0, 0, 0, 0, 0, 0) from rfl) (fr' := (44, 18, (lv_args 0 [.ref 11, .int p]), [.int (g 4 pp)])) (M' := M) rfl) ?_
    exact e_fin (e_iret hT (y := 44) (pc := 18) (q := (yX2_tonguesOf, cX2_tonguesOf, 2, (some .int), 2)) rfl (show aTab 44 18 = some (.ireturn, 1, 0, 0, 0, 0, 0, 0) from rfl) ⟨rfl, rfl⟩) ⟨rfl, rfl⟩
  obtain ⟨K, r, M', q, rfl, rfl⟩ := go
  exact ⟨K, mRun_dm q hd⟩
theorem xco_run (hT : aTabOk) {M : mHe} (hM : yTy M) {g : Nat → Nat → Int32} (hg : rdI M = g) {P : Nat} (hP : g 11 0 = Int32.ofNat P) (hP2 : P ≤ 40) {p : Int32} {pp : Nat} (hpp : p.toInt = (pp : Int)) (hpl : pp < P) {d : Nat} (hd : 10 ≤ d) : ∃ K, mRun none K d (75, 0, lv_args 0 [.ref 20, .int p], []) M = some (some (.int (g 18 pp)), M) := by
  obtain ⟨K1, q1⟩ := xhs_run hT hM hg hP hP2 (p := p) (d := 9) (by decide)
  rw [gB_t (show 0 ≤ p.toInt ∧ p.toInt < (P : Int) by omega)] at q1
  have go : mEv none 10 (75, 0, lv_args 0 [.ref 20, .int p], []) M (fun r M' => r = some (.int (g 18 pp)) ∧ M' = M) := by
    refine e_then (e_al1 hT (y := 75) (pc := 0) (q := (yX4_cameOf, cX4_cameOf, 2, (some .int), 4)) rfl (show aTab 75 0 = some (.aload_n 0, 1, 0, 0, 0, 0, 0, 0) from rfl) rfl rfl) ?_
    refine e_then (e_il1 hT (y := 75) (pc := 1) (q := (yX4_cameOf, cX4_cameOf, 2, (some .int), 4)) rfl (show aTab 75 1 = some (.iload_n 1, 1, 0, 0, 0, 0, 0, 0) from rfl) rfl rfl) ?_
    refine e_then (e_call hT (y := 75) (pc := 2) (q := (yX4_cameOf, cX4_cameOf, 2, (some .int), 4)) rfl (show aTab 75 2 = some (.invokevirtual 56, 3, 1, 70, 0, 1, 2, 4) from rfl) rfl ⟨by decide, Nat.le_of_ble_eq_true rfl⟩ (ob_at hM (rfl : tTy 11 = some (.inr (4, _)))).choose_spec (Nat.le_of_ble_eq_true rfl) (Nat.le_of_ble_eq_true rfl) ⟨by decide, by decide⟩ q1) ?_
    refine e_then (e_ifF hT (y := 75) (pc := 5) (q := (yX4_cameOf, cX4_cameOf, 2, (some .int), 4)) rfl (show aTab 75 5 = some (.ifCond .eq 12, 3, 0, 0, 0, 0, 0, 0) from rfl) rfl (t := 17) rfl (cdF (by show ¬ (_ = _); decide))) ?_
    refine e_then (e_al1 hT (y := 75) (pc := 8) (q := (yX4_cameOf, cX4_cameOf, 2, (some .int), 4)) rfl (show aTab 75 8 = some (.aload_n 0, 1, 0, 0, 0, 0, 0, 0) from rfl) rfl rfl) ?_
    refine e_then (e_getR hT (y := 75) (pc := 9) (q := (yX4_cameOf, cX4_cameOf, 2, (some .int), 4)) rfl (show aTab 75 9 = some (.getfield 30, 3, 0, 4, 7, 0, 0, 0) from rfl) rfl (by decide) (by decide) hM rfl rfl) ?_
    refine e_then (e_il1 hT (y := 75) (pc := 12) (q := (yX4_cameOf, cX4_cameOf, 2, (some .int), 4)) rfl (show aTab 75 12 = some (.iload_n 1, 1, 0, 0, 0, 0, 0, 0) from rfl) rfl rfl) ?_
    refine e_then (s_ald hT (y := 75) (pc := 13) (q := (yX4_cameOf, cX4_cameOf, 2, (some .int), 4)) rfl (show aTab 75 13 = some (.iaload, 1, 0, 0, 0, 0, 0, 0) from rfl) rfl hM hg 18 pp rfl hpp (by omega)) ?_
    refine e_then (e_st hT (y := 75) (pc := 14) (q := (yX4_cameOf, cX4_cameOf, 2, (some .int), 4)) rfl (show aTab 75 14 = some (.goto 4, 3, 0, 0, 0, 0, 0, 0) from rfl) (fr' := (75, 18, (lv_args 0 [.ref 20, .int p]), [.int (g 18 pp)])) (M' := M) rfl) ?_
    exact e_fin (e_iret hT (y := 75) (pc := 18) (q := (yX4_cameOf, cX4_cameOf, 2, (some .int), 4)) rfl (show aTab 75 18 = some (.ireturn, 1, 0, 0, 0, 0, 0, 0) from rfl) ⟨rfl, rfl⟩) ⟨rfl, rfl⟩
  obtain ⟨K, r, M', q, rfl, rfl⟩ := go
  exact ⟨K, mRun_dm q hd⟩
def rdOk (N P : Nat) (m p : Int32) : Prop := (0 ≤ m.toInt ∧ m.toInt < (N : Int)) ∧ (0 ≤ p.toInt ∧ p.toInt < (P : Int))
/-- the answer: of both one's tongues in common -/
def rdQ (N P : Nat) (m p x : Int32) (v : Nat → Nat → Int32) : Prop := (¬ rdOk N P m p ∧ x = -1000000001) ∨ (rdOk N P m p ∧ v m.toInt.toNat p.toInt.toNat ≠ 0 ∧ x = 1) ∨ (rdOk N P m p ∧ v m.toInt.toNat p.toInt.toNat = 0 ∧ x = 0)
theorem xhr_run (hT : aTabOk) {M : mHe} (hM : yTy M) {g : Nat → Nat → Int32} (hg : rdI M = g) {N : Nat} (hN : g 2 0 = Int32.ofNat N) (hN2 : N ≤ 20) {P : Nat} (hP : g 11 0 = Int32.ofNat P) (hP2 : P ≤ 40) {m p : Int32} {mm pp : Nat} (hmm : m.toInt = (mm : Int)) (hml : mm < N) (hpp : p.toInt = (pp : Int)) (hpl : pp < P) {d : Nat} (hd : 15 ≤ d) [Decidable (¬ g 4 mm &&& g 18 pp = 0)] : ∃ K, mRun none K d (16, 0, lv_args 0 [.ref 10, .int m, .int p], []) M = some (some (.int (gB (decide (¬ g 4 mm &&& g 18 pp = 0)))), M) := by
  obtain ⟨K1, q1⟩ := xto_run hT hM hg hN hN2 hmm hml (d := 14) (by decide)
  obtain ⟨K2, q2⟩ := xco_run hT hM hg hP hP2 hpp hpl (d := 14) (by decide)
  have go : mEv none 15 (16, 0, lv_args 0 [.ref 10, .int m, .int p], []) M (fun r M' => r = some (.int (gB (decide (¬ g 4 mm &&& g 18 pp = 0)))) ∧ M' = M) := by
    refine e_then (e_al1 hT (y := 16) (pc := 0) (q := (yX1_hasRead, cX1_hasRead, 3, (some .boolean), 1)) rfl (show aTab 16 0 = some (.aload_n 0, 1, 0, 0, 0, 0, 0, 0) from rfl) rfl rfl) ?_
    refine e_then (e_getR hT (y := 16) (pc := 1) (q := (yX1_hasRead, cX1_hasRead, 3, (some .boolean), 1)) rfl (show aTab 16 1 = some (.getfield 12, 3, 0, 1, 3, 0, 0, 0) from rfl) rfl (by decide) (by decide) hM rfl rfl) ?_
    refine e_then (e_il1 hT (y := 16) (pc := 4) (q := (yX1_hasRead, cX1_hasRead, 3, (some .boolean), 1)) rfl (show aTab 16 4 = some (.iload_n 1, 1, 0, 0, 0, 0, 0, 0) from rfl) rfl rfl) ?_
    refine e_then (e_call hT (y := 16) (pc := 5) (q := (yX1_hasRead, cX1_hasRead, 3, (some .boolean), 1)) rfl (show aTab 16 5 = some (.invokevirtual 130, 3, 1, 44, 0, 1, 2, 2) from rfl) rfl ⟨by decide, Nat.le_of_ble_eq_true rfl⟩ (ob_at hM (rfl : tTy 2 = some (.inr (2, _)))).choose_spec (Nat.le_of_ble_eq_true rfl) (Nat.le_of_ble_eq_true rfl) ⟨by decide, by decide⟩ q1) ?_
    refine e_then (e_al1 hT (y := 16) (pc := 8) (q := (yX1_hasRead, cX1_hasRead, 3, (some .boolean), 1)) rfl (show aTab 16 8 = some (.aload_n 0, 1, 0, 0, 0, 0, 0, 0) from rfl) rfl rfl) ?_
    refine e_then (e_getR hT (y := 16) (pc := 9) (q := (yX1_hasRead, cX1_hasRead, 3, (some .boolean), 1)) rfl (show aTab 16 9 = some (.getfield 21, 3, 0, 1, 4, 0, 0, 0) from rfl) rfl (by decide) (by decide) hM rfl rfl) ?_
    refine e_then (e_il1 hT (y := 16) (pc := 12) (q := (yX1_hasRead, cX1_hasRead, 3, (some .boolean), 1)) rfl (show aTab 16 12 = some (.iload_n 2, 1, 0, 0, 0, 0, 0, 0) from rfl) rfl rfl) ?_
    refine e_then (e_call hT (y := 16) (pc := 13) (q := (yX1_hasRead, cX1_hasRead, 3, (some .boolean), 1)) rfl (show aTab 16 13 = some (.invokevirtual 134, 3, 1, 75, 0, 1, 2, 4) from rfl) rfl ⟨by decide, Nat.le_of_ble_eq_true rfl⟩ (ob_at hM (rfl : tTy 11 = some (.inr (4, _)))).choose_spec (Nat.le_of_ble_eq_true rfl) (Nat.le_of_ble_eq_true rfl) ⟨by decide, by decide⟩ q2) ?_
    refine e_then (e_st hT (y := 16) (pc := 16) (q := (yX1_hasRead, cX1_hasRead, 3, (some .boolean), 1)) rfl (show aTab 16 16 = some (.iand, 1, 0, 0, 0, 0, 0, 0) from rfl) (fr' := (16, 17, (lv_args 0 [.ref 10, .int m, .int p]), [.int ((g 4 mm) &&& (g 18 pp))])) (M' := M) rfl) ?_
    by_cases c1 : g 4 mm &&& g 18 pp = 0
    · refine e_then (e_ifT hT (y := 16) (pc := 17) (q := (yX1_hasRead, cX1_hasRead, 3, (some .boolean), 1)) rfl (show aTab 16 17 = some (.ifCond .eq 7, 3, 0, 0, 0, 0, 0, 0) from rfl) rfl (t := 24) rfl (cdT (by show _ = _; exact (by first | rw [c1] | exact fun z => c1 (Int32.toInt_inj.mp z))))) ?_
      refine e_then (e_st hT (y := 16) (pc := 24) (q := (yX1_hasRead, cX1_hasRead, 3, (some .boolean), 1)) rfl (show aTab 16 24 = some (.iconst 0, 1, 0, 0, 0, 0, 0, 0) from rfl) (fr' := (16, 25, (lv_args 0 [.ref 10, .int m, .int p]), [.int 0])) (M' := M) rfl) ?_
      rw [gB_f (fun z => z c1)]
      exact e_fin (e_zret hT (y := 16) (pc := 25) (q := (yX1_hasRead, cX1_hasRead, 3, (some .boolean), 1)) rfl (show aTab 16 25 = some (.ireturn, 1, 0, 0, 0, 0, 0, 0) from rfl) ⟨rfl, rfl⟩ (Or.inl rfl)) ⟨rfl, rfl⟩
    · refine e_then (e_ifF hT (y := 16) (pc := 17) (q := (yX1_hasRead, cX1_hasRead, 3, (some .boolean), 1)) rfl (show aTab 16 17 = some (.ifCond .eq 7, 3, 0, 0, 0, 0, 0, 0) from rfl) rfl (t := 24) rfl (cdF (by show ¬ _ = _; exact (by first | rw [c1] | exact fun z => c1 (Int32.toInt_inj.mp z))))) ?_
      refine e_then (e_st hT (y := 16) (pc := 20) (q := (yX1_hasRead, cX1_hasRead, 3, (some .boolean), 1)) rfl (show aTab 16 20 = some (.iconst 1, 1, 0, 0, 0, 0, 0, 0) from rfl) (fr' := (16, 21, (lv_args 0 [.ref 10, .int m, .int p]), [.int 1])) (M' := M) rfl) ?_
      refine e_then (e_st hT (y := 16) (pc := 21) (q := (yX1_hasRead, cX1_hasRead, 3, (some .boolean), 1)) rfl (show aTab 16 21 = some (.goto 4, 3, 0, 0, 0, 0, 0, 0) from rfl) (fr' := (16, 25, (lv_args 0 [.ref 10, .int m, .int p]), [.int 1])) (M' := M) rfl) ?_
      rw [gB_t c1]
      exact e_fin (e_zret hT (y := 16) (pc := 25) (q := (yX1_hasRead, cX1_hasRead, 3, (some .boolean), 1)) rfl (show aTab 16 25 = some (.ireturn, 1, 0, 0, 0, 0, 0, 0) from rfl) ⟨rfl, rfl⟩ (Or.inr rfl)) ⟨rfl, rfl⟩
  obtain ⟨K, r, M', q, rfl, rfl⟩ := go
  exact ⟨K, mRun_dm q hd⟩
theorem xrd_run (hT : aTabOk) {M : mHe} (hM : yTy M) {g : Nat → Nat → Int32} (hg : rdI M = g) {N : Nat} (hN : g 2 0 = Int32.ofNat N) (hN2 : N ≤ 20) {P : Nat} (hP : g 11 0 = Int32.ofNat P) (hP2 : P ≤ 40) {m p : Int32} : mEv none 40 (197, 0, lv_args 0 [.ref 9, .int m, .int p], []) M (fun r M' => ∃ x, r = some (.int x) ∧ M' = M ∧ rdQ N P m p x (fun i j => g 4 i &&& g 18 j)) := by
  obtain ⟨K1, q1⟩ := xhm_run hT hM hg hN hN2 (p := m) (d := 39) (by decide)
  obtain ⟨K2, q2⟩ := xhs_run hT hM hg hP hP2 (p := p) (d := 39) (by decide)
  refine e_then (e_al1 hT (y := 197) (pc := 0) (q := (yX11_read, cX11_read, 3, (some .int), 11)) rfl (show aTab 197 0 = some (.aload_n 0, 1, 0, 0, 0, 0, 0, 0) from rfl) rfl rfl) ?_
  refine e_then (e_getR hT (y := 197) (pc := 1) (q := (yX11_read, cX11_read, 3, (some .int), 11)) rfl (show aTab 197 1 = some (.getfield 12, 3, 0, 11, 0, 0, 0, 0) from rfl) rfl (by decide) (by decide) hM rfl rfl) ?_
  refine e_then (e_getR hT (y := 197) (pc := 4) (q := (yX11_read, cX11_read, 3, (some .int), 11)) rfl (show aTab 197 4 = some (.getfield 47, 3, 0, 1, 3, 0, 0, 0) from rfl) rfl (by decide) (by decide) hM rfl rfl) ?_
  refine e_then (e_il1 hT (y := 197) (pc := 7) (q := (yX11_read, cX11_read, 3, (some .int), 11)) rfl (show aTab 197 7 = some (.iload_n 1, 1, 0, 0, 0, 0, 0, 0) from rfl) rfl rfl) ?_
  by_cases c1 : 0 ≤ m.toInt ∧ m.toInt < (N : Int)
  · rw [gB_t c1] at q1
    refine e_then (e_call hT (y := 197) (pc := 8) (q := (yX11_read, cX11_read, 3, (some .int), 11)) rfl (show aTab 197 8 = some (.invokevirtual 113, 3, 1, 40, 0, 1, 2, 2) from rfl) rfl ⟨by decide, Nat.le_of_ble_eq_true rfl⟩ (ob_at hM (rfl : tTy 2 = some (.inr (2, _)))).choose_spec (Nat.le_of_ble_eq_true rfl) (Nat.le_of_ble_eq_true rfl) ⟨by decide, by decide⟩ q1) ?_
    refine e_then (e_ifF hT (y := 197) (pc := 11) (q := (yX11_read, cX11_read, 3, (some .int), 11)) rfl (show aTab 197 11 = some (.ifCond .eq 17, 3, 0, 0, 0, 0, 0, 0) from rfl) rfl (t := 28) rfl (cdF (by show ¬ (_ = _); decide))) ?_
    refine e_then (e_al1 hT (y := 197) (pc := 14) (q := (yX11_read, cX11_read, 3, (some .int), 11)) rfl (show aTab 197 14 = some (.aload_n 0, 1, 0, 0, 0, 0, 0, 0) from rfl) rfl rfl) ?_
    refine e_then (e_getR hT (y := 197) (pc := 15) (q := (yX11_read, cX11_read, 3, (some .int), 11)) rfl (show aTab 197 15 = some (.getfield 12, 3, 0, 11, 0, 0, 0, 0) from rfl) rfl (by decide) (by decide) hM rfl rfl) ?_
    refine e_then (e_getR hT (y := 197) (pc := 18) (q := (yX11_read, cX11_read, 3, (some .int), 11)) rfl (show aTab 197 18 = some (.getfield 85, 3, 0, 1, 4, 0, 0, 0) from rfl) rfl (by decide) (by decide) hM rfl rfl) ?_
    refine e_then (e_il1 hT (y := 197) (pc := 21) (q := (yX11_read, cX11_read, 3, (some .int), 11)) rfl (show aTab 197 21 = some (.iload_n 2, 1, 0, 0, 0, 0, 0, 0) from rfl) rfl rfl) ?_
    by_cases c2 : 0 ≤ p.toInt ∧ p.toInt < (P : Int)
    · rw [gB_t c2] at q2
      refine e_then (e_call hT (y := 197) (pc := 22) (q := (yX11_read, cX11_read, 3, (some .int), 11)) rfl (show aTab 197 22 = some (.invokevirtual 117, 3, 1, 70, 0, 1, 2, 4) from rfl) rfl ⟨by decide, Nat.le_of_ble_eq_true rfl⟩ (ob_at hM (rfl : tTy 11 = some (.inr (4, _)))).choose_spec (Nat.le_of_ble_eq_true rfl) (Nat.le_of_ble_eq_true rfl) ⟨by decide, by decide⟩ q2) ?_
      refine e_then (e_ifT hT (y := 197) (pc := 25) (q := (yX11_read, cX11_read, 3, (some .int), 11)) rfl (show aTab 197 25 = some (.ifCond .ne 6, 3, 0, 0, 0, 0, 0, 0) from rfl) rfl (t := 31) rfl (cdT (by show ¬ _ = _; decide))) ?_
      obtain ⟨mm, hmm⟩ : ∃ n : Nat, (n : Int) = m.toInt := ⟨m.toInt.toNat, by omega⟩
      obtain ⟨pp, hpp⟩ : ∃ n : Nat, (n : Int) = p.toInt := ⟨p.toInt.toNat, by omega⟩
      have emm : m.toInt.toNat = mm := by omega
      have epp : p.toInt.toNat = pp := by omega
      have dR : Decidable (¬ g 4 mm &&& g 18 pp = 0) := Classical.propDecidable _
      obtain ⟨K3, q3⟩ := xhr_run hT hM hg hN hN2 hP hP2 hmm.symm (by omega) hpp.symm (by omega) (d := 39) (by decide)
      refine e_then (e_al1 hT (y := 197) (pc := 31) (q := (yX11_read, cX11_read, 3, (some .int), 11)) rfl (show aTab 197 31 = some (.aload_n 0, 1, 0, 0, 0, 0, 0, 0) from rfl) rfl rfl) ?_
      refine e_then (e_getR hT (y := 197) (pc := 32) (q := (yX11_read, cX11_read, 3, (some .int), 11)) rfl (show aTab 197 32 = some (.getfield 12, 3, 0, 11, 0, 0, 0, 0) from rfl) rfl (by decide) (by decide) hM rfl rfl) ?_
      refine e_then (e_il1 hT (y := 197) (pc := 35) (q := (yX11_read, cX11_read, 3, (some .int), 11)) rfl (show aTab 197 35 = some (.iload_n 1, 1, 0, 0, 0, 0, 0, 0) from rfl) rfl rfl) ?_
      refine e_then (e_il1 hT (y := 197) (pc := 36) (q := (yX11_read, cX11_read, 3, (some .int), 11)) rfl (show aTab 197 36 = some (.iload_n 2, 1, 0, 0, 0, 0, 0, 0) from rfl) rfl rfl) ?_
      by_cases c3 : ¬ g 4 mm &&& g 18 pp = 0
      · rw [gB_t c3] at q3
        refine e_then (e_call hT (y := 197) (pc := 37) (q := (yX11_read, cX11_read, 3, (some .int), 11)) rfl (show aTab 197 37 = some (.invokevirtual 119, 3, 1, 16, 0, 2, 3, 1) from rfl) rfl ⟨by decide, Nat.le_of_ble_eq_true rfl⟩ (ob_at hM (rfl : tTy 1 = some (.inr (1, _)))).choose_spec (Nat.le_of_ble_eq_true rfl) (Nat.le_of_ble_eq_true rfl) ⟨by decide, by decide⟩ q3) ?_
        refine e_then (e_ifF hT (y := 197) (pc := 40) (q := (yX11_read, cX11_read, 3, (some .int), 11)) rfl (show aTab 197 40 = some (.ifCond .eq 7, 3, 0, 0, 0, 0, 0, 0) from rfl) rfl (t := 47) rfl (cdF (by show ¬ (_ = _); decide))) ?_
        refine e_then (e_st hT (y := 197) (pc := 43) (q := (yX11_read, cX11_read, 3, (some .int), 11)) rfl (show aTab 197 43 = some (.iconst 1, 1, 0, 0, 0, 0, 0, 0) from rfl) (fr' := (197, 44, (lv_args 0 [.ref 9, .int m, .int p]), [.int 1])) (M' := M) rfl) ?_
        refine e_then (e_st hT (y := 197) (pc := 44) (q := (yX11_read, cX11_read, 3, (some .int), 11)) rfl (show aTab 197 44 = some (.goto 4, 3, 0, 0, 0, 0, 0, 0) from rfl) (fr' := (197, 48, (lv_args 0 [.ref 9, .int m, .int p]), [.int 1])) (M' := M) rfl) ?_
        exact e_fin (e_iret hT (y := 197) (pc := 48) (q := (yX11_read, cX11_read, 3, (some .int), 11)) rfl (show aTab 197 48 = some (.ireturn, 1, 0, 0, 0, 0, 0, 0) from rfl) ⟨rfl, rfl⟩) ⟨_, rfl, rfl, Or.inr (Or.inl ⟨⟨c1, c2⟩, by rw [emm, epp]; exact c3, rfl⟩)⟩
      · rw [gB_f c3] at q3
        refine e_then (e_call hT (y := 197) (pc := 37) (q := (yX11_read, cX11_read, 3, (some .int), 11)) rfl (show aTab 197 37 = some (.invokevirtual 119, 3, 1, 16, 0, 2, 3, 1) from rfl) rfl ⟨by decide, Nat.le_of_ble_eq_true rfl⟩ (ob_at hM (rfl : tTy 1 = some (.inr (1, _)))).choose_spec (Nat.le_of_ble_eq_true rfl) (Nat.le_of_ble_eq_true rfl) ⟨by decide, by decide⟩ q3) ?_
        refine e_then (e_ifT hT (y := 197) (pc := 40) (q := (yX11_read, cX11_read, 3, (some .int), 11)) rfl (show aTab 197 40 = some (.ifCond .eq 7, 3, 0, 0, 0, 0, 0, 0) from rfl) rfl (t := 47) rfl (cdT (by show _ = _; decide))) ?_
        refine e_then (e_st hT (y := 197) (pc := 47) (q := (yX11_read, cX11_read, 3, (some .int), 11)) rfl (show aTab 197 47 = some (.iconst 0, 1, 0, 0, 0, 0, 0, 0) from rfl) (fr' := (197, 48, (lv_args 0 [.ref 9, .int m, .int p]), [.int 0])) (M' := M) rfl) ?_
        exact e_fin (e_iret hT (y := 197) (pc := 48) (q := (yX11_read, cX11_read, 3, (some .int), 11)) rfl (show aTab 197 48 = some (.ireturn, 1, 0, 0, 0, 0, 0, 0) from rfl) ⟨rfl, rfl⟩) ⟨_, rfl, rfl, Or.inr (Or.inr ⟨⟨c1, c2⟩, by rw [emm, epp]; exact Classical.not_not.mp c3, rfl⟩)⟩
    · rw [gB_f c2] at q2
      refine e_then (e_call hT (y := 197) (pc := 22) (q := (yX11_read, cX11_read, 3, (some .int), 11)) rfl (show aTab 197 22 = some (.invokevirtual 117, 3, 1, 70, 0, 1, 2, 4) from rfl) rfl ⟨by decide, Nat.le_of_ble_eq_true rfl⟩ (ob_at hM (rfl : tTy 11 = some (.inr (4, _)))).choose_spec (Nat.le_of_ble_eq_true rfl) (Nat.le_of_ble_eq_true rfl) ⟨by decide, by decide⟩ q2) ?_
      refine e_then (e_ifF hT (y := 197) (pc := 25) (q := (yX11_read, cX11_read, 3, (some .int), 11)) rfl (show aTab 197 25 = some (.ifCond .ne 6, 3, 0, 0, 0, 0, 0, 0) from rfl) rfl (t := 31) rfl (cdF (by show ¬ (¬ _ = _); decide))) ?_
      refine e_then (e_st hT (y := 197) (pc := 28) (q := (yX11_read, cX11_read, 3, (some .int), 11)) rfl (show aTab 197 28 = some (.ldc 118, 2, 7, 0, (-1000000001), 0, 0, 0) from rfl) (fr' := (197, 30, (lv_args 0 [.ref 9, .int m, .int p]), [.int (-1000000001)])) (M' := M) rfl) ?_
      exact e_fin (e_iret hT (y := 197) (pc := 30) (q := (yX11_read, cX11_read, 3, (some .int), 11)) rfl (show aTab 197 30 = some (.ireturn, 1, 0, 0, 0, 0, 0, 0) from rfl) ⟨rfl, rfl⟩) ⟨_, rfl, rfl, Or.inl ⟨(fun z => by first | exact c1 z.1 | exact c2 z.2), rfl⟩⟩
  · rw [gB_f c1] at q1
    refine e_then (e_call hT (y := 197) (pc := 8) (q := (yX11_read, cX11_read, 3, (some .int), 11)) rfl (show aTab 197 8 = some (.invokevirtual 113, 3, 1, 40, 0, 1, 2, 2) from rfl) rfl ⟨by decide, Nat.le_of_ble_eq_true rfl⟩ (ob_at hM (rfl : tTy 2 = some (.inr (2, _)))).choose_spec (Nat.le_of_ble_eq_true rfl) (Nat.le_of_ble_eq_true rfl) ⟨by decide, by decide⟩ q1) ?_
    refine e_then (e_ifT hT (y := 197) (pc := 11) (q := (yX11_read, cX11_read, 3, (some .int), 11)) rfl (show aTab 197 11 = some (.ifCond .eq 17, 3, 0, 0, 0, 0, 0, 0) from rfl) rfl (t := 28) rfl (cdT (by show _ = _; decide))) ?_
    refine e_then (e_st hT (y := 197) (pc := 28) (q := (yX11_read, cX11_read, 3, (some .int), 11)) rfl (show aTab 197 28 = some (.ldc 118, 2, 7, 0, (-1000000001), 0, 0, 0) from rfl) (fr' := (197, 30, (lv_args 0 [.ref 9, .int m, .int p]), [.int (-1000000001)])) (M' := M) rfl) ?_
    exact e_fin (e_iret hT (y := 197) (pc := 30) (q := (yX11_read, cX11_read, 3, (some .int), 11)) rfl (show aTab 197 30 = some (.ireturn, 1, 0, 0, 0, 0, 0, 0) from rfl) ⟨rfl, rfl⟩) ⟨_, rfl, rfl, Or.inl ⟨(fun z => by first | exact c1 z.1 | exact c2 z.2), rfl⟩⟩
theorem rim_run (hT : aTabOk) {M : mHe} (hM : yTy M) {g : Nat → Nat → Int32} (hg : rdI M = g) {N : Nat} (hN : g 120 3 = Int32.ofNat N) (hN2 : N ≤ 20) {p : Int32} {d : Nat} (hd : 10 ≤ d) : ∃ K, mRun none K d (248, 0, lv_args 0 [.ref 128, .int p], []) M = some (some (.int (gB (decide (0 ≤ p.toInt ∧ p.toInt < (N : Int))))), M) := by
  have eN := i32n (k := N) (by omega)
  have e1 : (1 : Int32).toInt = 1 := rfl
  have hN1 : (Int32.ofNat N - 1).toInt = (N : Int) - 1 := by rw [i32_sub (by omega) (by omega), eN, e1]
  obtain ⟨K1, q1⟩ := isIn_i hT (M := M) (v := p) (l := Int64.ofNat 0) (h := (Int32.ofNat N - 1).toInt64) (d := 9) (by decide)
  rw [show (Int64.ofNat 0).toInt = 0 from rfl, Int32.toInt_toInt64, hN1] at q1
  have e : gB (decide (0 ≤ p.toInt ∧ p.toInt ≤ (N : Int) - 1)) = gB (decide (0 ≤ p.toInt ∧ p.toInt < (N : Int))) := congrArg gB (decide_eq_decide.mpr ⟨fun z => ⟨z.1, by omega⟩, fun z => ⟨z.1, by omega⟩⟩)
  rw [e] at q1
  have go : mEv none 10 (248, 0, lv_args 0 [.ref 128, .int p], []) M (fun r M' => r = some (.int (gB (decide (0 ≤ p.toInt ∧ p.toInt < (N : Int))))) ∧ M' = M) := by
    refine e_then (e_il1 hT (y := 248) (pc := 0) (q := (yX12_isMember, cX12_isMember, 2, (some .boolean), 12)) rfl (show aTab 248 0 = some (.iload_n 1, 1, 0, 0, 0, 0, 0, 0) from rfl) rfl rfl) ?_
    refine e_then (e_st hT (y := 248) (pc := 1) (q := (yX12_isMember, cX12_isMember, 2, (some .boolean), 12)) rfl (show aTab 248 1 = some (.i2l, 1, 0, 0, 0, 0, 0, 0) from rfl) (fr' := (248, 2, (lv_args 0 [.ref 128, .int p]), [.long (p).toInt64])) (M' := M) rfl) ?_
    refine e_then (e_st hT (y := 248) (pc := 2) (q := (yX12_isMember, cX12_isMember, 2, (some .boolean), 12)) rfl (show aTab 248 2 = some (.lconst 0, 1, 0, 0, 0, 0, 0, 0) from rfl) (fr' := (248, 3, (lv_args 0 [.ref 128, .int p]), [.long (Int64.ofNat 0), .long (p).toInt64])) (M' := M) rfl) ?_
    refine e_then (e_al1 hT (y := 248) (pc := 3) (q := (yX12_isMember, cX12_isMember, 2, (some .boolean), 12)) rfl (show aTab 248 3 = some (.aload_n 0, 1, 0, 0, 0, 0, 0, 0) from rfl) rfl rfl) ?_
    refine e_then (e_getR hT (y := 248) (pc := 4) (q := (yX12_isMember, cX12_isMember, 2, (some .boolean), 12)) rfl (show aTab 248 4 = some (.getfield 7, 3, 0, 12, 0, 0, 0, 0) from rfl) rfl (by decide) (by decide) hM rfl rfl) ?_
    refine e_then (e_st hT (y := 248) (pc := 7) (q := (yX12_isMember, cX12_isMember, 2, (some .boolean), 12)) rfl (show aTab 248 7 = some (.iconst 3, 1, 0, 0, 0, 0, 0, 0) from rfl) (fr' := (248, 8, (lv_args 0 [.ref 128, .int p]), [.int 3, .ref 129, .long (Int64.ofNat 0), .long (p).toInt64])) (M' := M) rfl) ?_
    refine e_then (s_aldV hT (y := 248) (pc := 8) (q := (yX12_isMember, cX12_isMember, 2, (some .boolean), 12)) rfl (show aTab 248 8 = some (.iaload, 1, 0, 0, 0, 0, 0, 0) from rfl) rfl hM hg 120 3 rfl rfl (by decide) (v := (Int32.ofNat N)) (show (g 120 3) = (Int32.ofNat N) from hN)) ?_
    refine e_then (e_st hT (y := 248) (pc := 9) (q := (yX12_isMember, cX12_isMember, 2, (some .boolean), 12)) rfl (show aTab 248 9 = some (.iconst 1, 1, 0, 0, 0, 0, 0, 0) from rfl) (fr' := (248, 10, (lv_args 0 [.ref 128, .int p]), [.int 1, .int (Int32.ofNat N), .long (Int64.ofNat 0), .long (p).toInt64])) (M' := M) rfl) ?_
    refine e_then (e_st hT (y := 248) (pc := 10) (q := (yX12_isMember, cX12_isMember, 2, (some .boolean), 12)) rfl (show aTab 248 10 = some (.isub, 1, 0, 0, 0, 0, 0, 0) from rfl) (fr' := (248, 11, (lv_args 0 [.ref 128, .int p]), [.int ((Int32.ofNat N) - 1), .long (Int64.ofNat 0), .long (p).toInt64])) (M' := M) rfl) ?_
    refine e_then (e_st hT (y := 248) (pc := 11) (q := (yX12_isMember, cX12_isMember, 2, (some .boolean), 12)) rfl (show aTab 248 11 = some (.i2l, 1, 0, 0, 0, 0, 0, 0) from rfl) (fr' := (248, 12, (lv_args 0 [.ref 128, .int p]), [.long (((Int32.ofNat N) - 1)).toInt64, .long (Int64.ofNat 0), .long (p).toInt64])) (M' := M) rfl) ?_
    refine e_then (e_calls hT (y := 248) (pc := 12) (q := (yX12_isMember, cX12_isMember, 2, (some .boolean), 12)) rfl (show aTab 248 12 = some (.invokestatic 65, 3, 2, 239, 0, 3, 6, 12) from rfl) (Nat.le_of_ble_eq_true rfl) (Nat.le_of_ble_eq_true rfl) (Nat.le_of_ble_eq_true rfl) ⟨by decide, by decide⟩ q1) ?_
    exact e_fin (e_zret hT (y := 248) (pc := 15) (q := (yX12_isMember, cX12_isMember, 2, (some .boolean), 12)) rfl (show aTab 248 15 = some (.ireturn, 1, 0, 0, 0, 0, 0, 0) from rfl) ⟨rfl, rfl⟩ (gB_01 _)) ⟨rfl, rfl⟩
  obtain ⟨K, r, M', q, rfl, rfl⟩ := go
  exact ⟨K, mRun_dm q hd⟩
theorem rhr_run (hT : aTabOk) {M : mHe} (hM : yTy M) {g : Nat → Nat → Int32} (hg : rdI M = g) {mm pp : Nat} (hml : mm < 20) (hpl : pp < 40) {d : Nat} (hd : 15 ≤ d) [Decidable (¬ g 120 (21 + 5 * mm) &&& g 120 (166 + 10 * pp) = 0)] : ∃ K, mRun none K d (277, 0, lv_args 0 [.ref 128, .int (Int32.ofNat mm), .int (Int32.ofNat pp)], []) M = some (some (.int (gB (decide (¬ g 120 (21 + 5 * mm) &&& g 120 (166 + 10 * pp) = 0)))), M) := by
  obtain ⟨K1, q1⟩ := rma_run hT (M := M) (m := mm) (by omega) (d := 14) (by decide)
  obtain ⟨K2, q2⟩ := rpa_run hT (M := M) (m := pp) (by omega) (d := 14) (by decide)
  have ix6 : (Int32.ofNat (160 + 10 * pp) + 6).toInt = ((166 + 10 * pp : Nat) : Int) := (ixp (a := 160 + 10 * pp) (c := 6) (by omega)).trans (by omega)
  have go : mEv none 15 (277, 0, lv_args 0 [.ref 128, .int (Int32.ofNat mm), .int (Int32.ofNat pp)], []) M (fun r M' => r = some (.int (gB (decide (¬ g 120 (21 + 5 * mm) &&& g 120 (166 + 10 * pp) = 0)))) ∧ M' = M) := by
    refine e_then (e_al1 hT (y := 277) (pc := 0) (q := (yX12_hasRead, cX12_hasRead, 3, (some .boolean), 12)) rfl (show aTab 277 0 = some (.aload_n 0, 1, 0, 0, 0, 0, 0, 0) from rfl) rfl rfl) ?_
    refine e_then (e_getR hT (y := 277) (pc := 1) (q := (yX12_hasRead, cX12_hasRead, 3, (some .boolean), 12)) rfl (show aTab 277 1 = some (.getfield 7, 3, 0, 12, 0, 0, 0, 0) from rfl) rfl (by decide) (by decide) hM rfl rfl) ?_
    refine e_then (e_al1 hT (y := 277) (pc := 4) (q := (yX12_hasRead, cX12_hasRead, 3, (some .boolean), 12)) rfl (show aTab 277 4 = some (.aload_n 0, 1, 0, 0, 0, 0, 0, 0) from rfl) rfl rfl) ?_
    refine e_then (e_il1 hT (y := 277) (pc := 5) (q := (yX12_hasRead, cX12_hasRead, 3, (some .boolean), 12)) rfl (show aTab 277 5 = some (.iload_n 1, 1, 0, 0, 0, 0, 0, 0) from rfl) rfl rfl) ?_
    refine e_then (e_call hT (y := 277) (pc := 6) (q := (yX12_hasRead, cX12_hasRead, 3, (some .boolean), 12)) rfl (show aTab 277 6 = some (.invokevirtual 91, 3, 1, 244, 0, 1, 2, 12) from rfl) rfl ⟨by decide, Nat.le_of_ble_eq_true rfl⟩ (ob_at hM (rfl : tTy 119 = some (.inr (12, _)))).choose_spec (Nat.le_of_ble_eq_true rfl) (Nat.le_of_ble_eq_true rfl) ⟨by decide, by decide⟩ q1) ?_
    refine e_then (e_st hT (y := 277) (pc := 9) (q := (yX12_hasRead, cX12_hasRead, 3, (some .boolean), 12)) rfl (show aTab 277 9 = some (.iconst 1, 1, 0, 0, 0, 0, 0, 0) from rfl) (fr' := (277, 10, (lv_args 0 [.ref 128, .int (Int32.ofNat mm), .int (Int32.ofNat pp)]), [.int 1, .int (Int32.ofNat (20 + 5 * mm)), .ref 129])) (M' := M) rfl) ?_
    refine e_then (e_st hT (y := 277) (pc := 10) (q := (yX12_hasRead, cX12_hasRead, 3, (some .boolean), 12)) rfl (show aTab 277 10 = some (.iadd, 1, 0, 0, 0, 0, 0, 0) from rfl) (fr' := (277, 11, (lv_args 0 [.ref 128, .int (Int32.ofNat mm), .int (Int32.ofNat pp)]), [.int ((Int32.ofNat (20 + 5 * mm)) + 1), .ref 129])) (M' := M) rfl) ?_
    refine e_then (s_ald hT (y := 277) (pc := 11) (q := (yX12_hasRead, cX12_hasRead, 3, (some .boolean), 12)) rfl (show aTab 277 11 = some (.iaload, 1, 0, 0, 0, 0, 0, 0) from rfl) rfl hM hg 120 (21 + 5 * mm) rfl (ixq1 hml) (by omega)) ?_
    refine e_then (e_al1 hT (y := 277) (pc := 12) (q := (yX12_hasRead, cX12_hasRead, 3, (some .boolean), 12)) rfl (show aTab 277 12 = some (.aload_n 0, 1, 0, 0, 0, 0, 0, 0) from rfl) rfl rfl) ?_
    refine e_then (e_getR hT (y := 277) (pc := 13) (q := (yX12_hasRead, cX12_hasRead, 3, (some .boolean), 12)) rfl (show aTab 277 13 = some (.getfield 7, 3, 0, 12, 0, 0, 0, 0) from rfl) rfl (by decide) (by decide) hM rfl rfl) ?_
    refine e_then (e_al1 hT (y := 277) (pc := 16) (q := (yX12_hasRead, cX12_hasRead, 3, (some .boolean), 12)) rfl (show aTab 277 16 = some (.aload_n 0, 1, 0, 0, 0, 0, 0, 0) from rfl) rfl rfl) ?_
    refine e_then (e_il1 hT (y := 277) (pc := 17) (q := (yX12_hasRead, cX12_hasRead, 3, (some .boolean), 12)) rfl (show aTab 277 17 = some (.iload_n 2, 1, 0, 0, 0, 0, 0, 0) from rfl) rfl rfl) ?_
    refine e_then (e_call hT (y := 277) (pc := 18) (q := (yX12_hasRead, cX12_hasRead, 3, (some .boolean), 12)) rfl (show aTab 277 18 = some (.invokevirtual 73, 3, 1, 246, 0, 1, 2, 12) from rfl) rfl ⟨by decide, Nat.le_of_ble_eq_true rfl⟩ (ob_at hM (rfl : tTy 119 = some (.inr (12, _)))).choose_spec (Nat.le_of_ble_eq_true rfl) (Nat.le_of_ble_eq_true rfl) ⟨by decide, by decide⟩ q2) ?_
    refine e_then (e_st hT (y := 277) (pc := 21) (q := (yX12_hasRead, cX12_hasRead, 3, (some .boolean), 12)) rfl (show aTab 277 21 = some (.bipush 6, 2, 0, 0, 0, 0, 0, 0) from rfl) (fr' := (277, 23, (lv_args 0 [.ref 128, .int (Int32.ofNat mm), .int (Int32.ofNat pp)]), [.int 6, .int (Int32.ofNat (160 + 10 * pp)), .ref 129, .int (g 120 (21 + 5 * mm))])) (M' := M) rfl) ?_
    refine e_then (e_st hT (y := 277) (pc := 23) (q := (yX12_hasRead, cX12_hasRead, 3, (some .boolean), 12)) rfl (show aTab 277 23 = some (.iadd, 1, 0, 0, 0, 0, 0, 0) from rfl) (fr' := (277, 24, (lv_args 0 [.ref 128, .int (Int32.ofNat mm), .int (Int32.ofNat pp)]), [.int ((Int32.ofNat (160 + 10 * pp)) + 6), .ref 129, .int (g 120 (21 + 5 * mm))])) (M' := M) rfl) ?_
    refine e_then (s_ald hT (y := 277) (pc := 24) (q := (yX12_hasRead, cX12_hasRead, 3, (some .boolean), 12)) rfl (show aTab 277 24 = some (.iaload, 1, 0, 0, 0, 0, 0, 0) from rfl) rfl hM hg 120 (166 + 10 * pp) rfl ix6 (by omega)) ?_
    refine e_then (e_st hT (y := 277) (pc := 25) (q := (yX12_hasRead, cX12_hasRead, 3, (some .boolean), 12)) rfl (show aTab 277 25 = some (.iand, 1, 0, 0, 0, 0, 0, 0) from rfl) (fr' := (277, 26, (lv_args 0 [.ref 128, .int (Int32.ofNat mm), .int (Int32.ofNat pp)]), [.int ((g 120 (21 + 5 * mm)) &&& (g 120 (166 + 10 * pp)))])) (M' := M) rfl) ?_
    by_cases c1 : g 120 (21 + 5 * mm) &&& g 120 (166 + 10 * pp) = 0
    · refine e_then (e_ifT hT (y := 277) (pc := 26) (q := (yX12_hasRead, cX12_hasRead, 3, (some .boolean), 12)) rfl (show aTab 277 26 = some (.ifCond .eq 7, 3, 0, 0, 0, 0, 0, 0) from rfl) rfl (t := 33) rfl (cdT (by show _ = _; exact (by first | rw [c1] | exact fun z => c1 (Int32.toInt_inj.mp z))))) ?_
      refine e_then (e_st hT (y := 277) (pc := 33) (q := (yX12_hasRead, cX12_hasRead, 3, (some .boolean), 12)) rfl (show aTab 277 33 = some (.iconst 0, 1, 0, 0, 0, 0, 0, 0) from rfl) (fr' := (277, 34, (lv_args 0 [.ref 128, .int (Int32.ofNat mm), .int (Int32.ofNat pp)]), [.int 0])) (M' := M) rfl) ?_
      rw [gB_f (fun z => z c1)]
      exact e_fin (e_zret hT (y := 277) (pc := 34) (q := (yX12_hasRead, cX12_hasRead, 3, (some .boolean), 12)) rfl (show aTab 277 34 = some (.ireturn, 1, 0, 0, 0, 0, 0, 0) from rfl) ⟨rfl, rfl⟩ (Or.inl rfl)) ⟨rfl, rfl⟩
    · refine e_then (e_ifF hT (y := 277) (pc := 26) (q := (yX12_hasRead, cX12_hasRead, 3, (some .boolean), 12)) rfl (show aTab 277 26 = some (.ifCond .eq 7, 3, 0, 0, 0, 0, 0, 0) from rfl) rfl (t := 33) rfl (cdF (by show ¬ _ = _; exact (by first | rw [c1] | exact fun z => c1 (Int32.toInt_inj.mp z))))) ?_
      refine e_then (e_st hT (y := 277) (pc := 29) (q := (yX12_hasRead, cX12_hasRead, 3, (some .boolean), 12)) rfl (show aTab 277 29 = some (.iconst 1, 1, 0, 0, 0, 0, 0, 0) from rfl) (fr' := (277, 30, (lv_args 0 [.ref 128, .int (Int32.ofNat mm), .int (Int32.ofNat pp)]), [.int 1])) (M' := M) rfl) ?_
      refine e_then (e_st hT (y := 277) (pc := 30) (q := (yX12_hasRead, cX12_hasRead, 3, (some .boolean), 12)) rfl (show aTab 277 30 = some (.goto 4, 3, 0, 0, 0, 0, 0, 0) from rfl) (fr' := (277, 34, (lv_args 0 [.ref 128, .int (Int32.ofNat mm), .int (Int32.ofNat pp)]), [.int 1])) (M' := M) rfl) ?_
      rw [gB_t c1]
      exact e_fin (e_zret hT (y := 277) (pc := 34) (q := (yX12_hasRead, cX12_hasRead, 3, (some .boolean), 12)) rfl (show aTab 277 34 = some (.ireturn, 1, 0, 0, 0, 0, 0, 0) from rfl) ⟨rfl, rfl⟩ (Or.inr rfl)) ⟨rfl, rfl⟩
  obtain ⟨K, r, M', q, rfl, rfl⟩ := go
  exact ⟨K, mRun_dm q hd⟩
theorem rrd_run (hT : aTabOk) {M : mHe} (hM : yTy M) {g : Nat → Nat → Int32} (hg : rdI M = g) {N : Nat} (hN : g 120 3 = Int32.ofNat N) (hN2 : N ≤ 20) {P : Nat} (hP : g 120 5 = Int32.ofNat P) (hP2 : P ≤ 40) {m p : Int32} : mEv none 40 (278, 0, lv_args 0 [.ref 128, .int m, .int p], []) M (fun r M' => ∃ x, r = some (.int x) ∧ M' = M ∧ rdQ N P m p x (fun mm pp => g 120 (21 + 5 * mm) &&& g 120 (166 + 10 * pp))) := by
  obtain ⟨K1, q1⟩ := rim_run hT hM hg hN hN2 (p := m) (d := 39) (by decide)
  obtain ⟨K2, q2⟩ := rip_run hT hM hg hP hP2 (p := p) (d := 39) (by decide)
  refine e_then (e_al1 hT (y := 278) (pc := 0) (q := (yX12_read, cX12_read, 3, (some .int), 12)) rfl (show aTab 278 0 = some (.aload_n 0, 1, 0, 0, 0, 0, 0, 0) from rfl) rfl rfl) ?_
  refine e_then (e_il1 hT (y := 278) (pc := 1) (q := (yX12_read, cX12_read, 3, (some .int), 12)) rfl (show aTab 278 1 = some (.iload_n 1, 1, 0, 0, 0, 0, 0, 0) from rfl) rfl rfl) ?_
  by_cases c1 : 0 ≤ m.toInt ∧ m.toInt < (N : Int)
  · rw [gB_t c1] at q1
    refine e_then (e_call hT (y := 278) (pc := 2) (q := (yX12_read, cX12_read, 3, (some .int), 12)) rfl (show aTab 278 2 = some (.invokevirtual 100, 3, 1, 248, 0, 1, 2, 12) from rfl) rfl ⟨by decide, Nat.le_of_ble_eq_true rfl⟩ (ob_at hM (rfl : tTy 119 = some (.inr (12, _)))).choose_spec (Nat.le_of_ble_eq_true rfl) (Nat.le_of_ble_eq_true rfl) ⟨by decide, by decide⟩ q1) ?_
    refine e_then (e_ifF hT (y := 278) (pc := 5) (q := (yX12_read, cX12_read, 3, (some .int), 12)) rfl (show aTab 278 5 = some (.ifCond .eq 11, 3, 0, 0, 0, 0, 0, 0) from rfl) rfl (t := 16) rfl (cdF (by show ¬ (_ = _); decide))) ?_
    refine e_then (e_al1 hT (y := 278) (pc := 8) (q := (yX12_read, cX12_read, 3, (some .int), 12)) rfl (show aTab 278 8 = some (.aload_n 0, 1, 0, 0, 0, 0, 0, 0) from rfl) rfl rfl) ?_
    refine e_then (e_il1 hT (y := 278) (pc := 9) (q := (yX12_read, cX12_read, 3, (some .int), 12)) rfl (show aTab 278 9 = some (.iload_n 2, 1, 0, 0, 0, 0, 0, 0) from rfl) rfl rfl) ?_
    by_cases c2 : 0 ≤ p.toInt ∧ p.toInt < (P : Int)
    · rw [gB_t c2] at q2
      refine e_then (e_call hT (y := 278) (pc := 10) (q := (yX12_read, cX12_read, 3, (some .int), 12)) rfl (show aTab 278 10 = some (.invokevirtual 77, 3, 1, 249, 0, 1, 2, 12) from rfl) rfl ⟨by decide, Nat.le_of_ble_eq_true rfl⟩ (ob_at hM (rfl : tTy 119 = some (.inr (12, _)))).choose_spec (Nat.le_of_ble_eq_true rfl) (Nat.le_of_ble_eq_true rfl) ⟨by decide, by decide⟩ q2) ?_
      refine e_then (e_ifT hT (y := 278) (pc := 13) (q := (yX12_read, cX12_read, 3, (some .int), 12)) rfl (show aTab 278 13 = some (.ifCond .ne 8, 3, 0, 0, 0, 0, 0, 0) from rfl) rfl (t := 21) rfl (cdT (by show ¬ _ = _; decide))) ?_
      obtain ⟨mm, hmm⟩ : ∃ n : Nat, (n : Int) = m.toInt := ⟨m.toInt.toNat, by omega⟩
      obtain ⟨pp, hpp⟩ : ∃ n : Nat, (n : Int) = p.toInt := ⟨p.toInt.toNat, by omega⟩
      have emm : m.toInt.toNat = mm := by omega
      have epp : p.toInt.toNat = pp := by omega
      have hm2 : m = Int32.ofNat mm := i32eq (by rw [i32n (by omega)]; omega)
      have hp2 : p = Int32.ofNat pp := i32eq (by rw [i32n (by omega)]; omega)
      have dR : Decidable (¬ g 120 (21 + 5 * mm) &&& g 120 (166 + 10 * pp) = 0) := Classical.propDecidable _
      obtain ⟨K3, q3⟩ := rhr_run hT hM hg (mm := mm) (pp := pp) (by omega) (by omega) (d := 39) (by decide)
      rw [← hm2, ← hp2] at q3
      refine e_then (e_al1 hT (y := 278) (pc := 21) (q := (yX12_read, cX12_read, 3, (some .int), 12)) rfl (show aTab 278 21 = some (.aload_n 0, 1, 0, 0, 0, 0, 0, 0) from rfl) rfl rfl) ?_
      refine e_then (e_il1 hT (y := 278) (pc := 22) (q := (yX12_read, cX12_read, 3, (some .int), 12)) rfl (show aTab 278 22 = some (.iload_n 1, 1, 0, 0, 0, 0, 0, 0) from rfl) rfl rfl) ?_
      refine e_then (e_il1 hT (y := 278) (pc := 23) (q := (yX12_read, cX12_read, 3, (some .int), 12)) rfl (show aTab 278 23 = some (.iload_n 2, 1, 0, 0, 0, 0, 0, 0) from rfl) rfl rfl) ?_
      by_cases c3 : ¬ g 120 (21 + 5 * mm) &&& g 120 (166 + 10 * pp) = 0
      · rw [gB_t c3] at q3
        refine e_then (e_call hT (y := 278) (pc := 24) (q := (yX12_read, cX12_read, 3, (some .int), 12)) rfl (show aTab 278 24 = some (.invokevirtual 162, 3, 1, 277, 0, 2, 3, 12) from rfl) rfl ⟨by decide, Nat.le_of_ble_eq_true rfl⟩ (ob_at hM (rfl : tTy 119 = some (.inr (12, _)))).choose_spec (Nat.le_of_ble_eq_true rfl) (Nat.le_of_ble_eq_true rfl) ⟨by decide, by decide⟩ q3) ?_
        refine e_then (e_ifF hT (y := 278) (pc := 27) (q := (yX12_read, cX12_read, 3, (some .int), 12)) rfl (show aTab 278 27 = some (.ifCond .eq 7, 3, 0, 0, 0, 0, 0, 0) from rfl) rfl (t := 34) rfl (cdF (by show ¬ (_ = _); decide))) ?_
        refine e_then (e_st hT (y := 278) (pc := 30) (q := (yX12_read, cX12_read, 3, (some .int), 12)) rfl (show aTab 278 30 = some (.iconst 1, 1, 0, 0, 0, 0, 0, 0) from rfl) (fr' := (278, 31, (lv_args 0 [.ref 128, .int m, .int p]), [.int 1])) (M' := M) rfl) ?_
        refine e_then (e_st hT (y := 278) (pc := 31) (q := (yX12_read, cX12_read, 3, (some .int), 12)) rfl (show aTab 278 31 = some (.goto 4, 3, 0, 0, 0, 0, 0, 0) from rfl) (fr' := (278, 35, (lv_args 0 [.ref 128, .int m, .int p]), [.int 1])) (M' := M) rfl) ?_
        exact e_fin (e_iret hT (y := 278) (pc := 35) (q := (yX12_read, cX12_read, 3, (some .int), 12)) rfl (show aTab 278 35 = some (.ireturn, 1, 0, 0, 0, 0, 0, 0) from rfl) ⟨rfl, rfl⟩) ⟨_, rfl, rfl, Or.inr (Or.inl ⟨⟨c1, c2⟩, by rw [emm, epp]; exact c3, rfl⟩)⟩
      · rw [gB_f c3] at q3
        refine e_then (e_call hT (y := 278) (pc := 24) (q := (yX12_read, cX12_read, 3, (some .int), 12)) rfl (show aTab 278 24 = some (.invokevirtual 162, 3, 1, 277, 0, 2, 3, 12) from rfl) rfl ⟨by decide, Nat.le_of_ble_eq_true rfl⟩ (ob_at hM (rfl : tTy 119 = some (.inr (12, _)))).choose_spec (Nat.le_of_ble_eq_true rfl) (Nat.le_of_ble_eq_true rfl) ⟨by decide, by decide⟩ q3) ?_
        refine e_then (e_ifT hT (y := 278) (pc := 27) (q := (yX12_read, cX12_read, 3, (some .int), 12)) rfl (show aTab 278 27 = some (.ifCond .eq 7, 3, 0, 0, 0, 0, 0, 0) from rfl) rfl (t := 34) rfl (cdT (by show _ = _; decide))) ?_
        refine e_then (e_st hT (y := 278) (pc := 34) (q := (yX12_read, cX12_read, 3, (some .int), 12)) rfl (show aTab 278 34 = some (.iconst 0, 1, 0, 0, 0, 0, 0, 0) from rfl) (fr' := (278, 35, (lv_args 0 [.ref 128, .int m, .int p]), [.int 0])) (M' := M) rfl) ?_
        exact e_fin (e_iret hT (y := 278) (pc := 35) (q := (yX12_read, cX12_read, 3, (some .int), 12)) rfl (show aTab 278 35 = some (.ireturn, 1, 0, 0, 0, 0, 0, 0) from rfl) ⟨rfl, rfl⟩) ⟨_, rfl, rfl, Or.inr (Or.inr ⟨⟨c1, c2⟩, by rw [emm, epp]; exact Classical.not_not.mp c3, rfl⟩)⟩
    · rw [gB_f c2] at q2
      refine e_then (e_call hT (y := 278) (pc := 10) (q := (yX12_read, cX12_read, 3, (some .int), 12)) rfl (show aTab 278 10 = some (.invokevirtual 77, 3, 1, 249, 0, 1, 2, 12) from rfl) rfl ⟨by decide, Nat.le_of_ble_eq_true rfl⟩ (ob_at hM (rfl : tTy 119 = some (.inr (12, _)))).choose_spec (Nat.le_of_ble_eq_true rfl) (Nat.le_of_ble_eq_true rfl) ⟨by decide, by decide⟩ q2) ?_
      refine e_then (e_ifF hT (y := 278) (pc := 13) (q := (yX12_read, cX12_read, 3, (some .int), 12)) rfl (show aTab 278 13 = some (.ifCond .ne 8, 3, 0, 0, 0, 0, 0, 0) from rfl) rfl (t := 21) rfl (cdF (by show ¬ (¬ _ = _); decide))) ?_
      refine e_then (e_st hT (y := 278) (pc := 16) (q := (yX12_read, cX12_read, 3, (some .int), 12)) rfl (show aTab 278 16 = some (.ldc 89, 2, 7, 0, (-1000000001), 0, 0, 0) from rfl) (fr' := (278, 18, (lv_args 0 [.ref 128, .int m, .int p]), [.int (-1000000001)])) (M' := M) rfl) ?_
      refine e_then (e_st hT (y := 278) (pc := 18) (q := (yX12_read, cX12_read, 3, (some .int), 12)) rfl (show aTab 278 18 = some (.goto 17, 3, 0, 0, 0, 0, 0, 0) from rfl) (fr' := (278, 35, (lv_args 0 [.ref 128, .int m, .int p]), [.int (-1000000001)])) (M' := M) rfl) ?_
      exact e_fin (e_iret hT (y := 278) (pc := 35) (q := (yX12_read, cX12_read, 3, (some .int), 12)) rfl (show aTab 278 35 = some (.ireturn, 1, 0, 0, 0, 0, 0, 0) from rfl) ⟨rfl, rfl⟩) ⟨_, rfl, rfl, Or.inl ⟨(fun z => by first | exact c1 z.1 | exact c2 z.2), rfl⟩⟩
  · rw [gB_f c1] at q1
    refine e_then (e_call hT (y := 278) (pc := 2) (q := (yX12_read, cX12_read, 3, (some .int), 12)) rfl (show aTab 278 2 = some (.invokevirtual 100, 3, 1, 248, 0, 1, 2, 12) from rfl) rfl ⟨by decide, Nat.le_of_ble_eq_true rfl⟩ (ob_at hM (rfl : tTy 119 = some (.inr (12, _)))).choose_spec (Nat.le_of_ble_eq_true rfl) (Nat.le_of_ble_eq_true rfl) ⟨by decide, by decide⟩ q1) ?_
    refine e_then (e_ifT hT (y := 278) (pc := 5) (q := (yX12_read, cX12_read, 3, (some .int), 12)) rfl (show aTab 278 5 = some (.ifCond .eq 11, 3, 0, 0, 0, 0, 0, 0) from rfl) rfl (t := 16) rfl (cdT (by show _ = _; decide))) ?_
    refine e_then (e_st hT (y := 278) (pc := 16) (q := (yX12_read, cX12_read, 3, (some .int), 12)) rfl (show aTab 278 16 = some (.ldc 89, 2, 7, 0, (-1000000001), 0, 0, 0) from rfl) (fr' := (278, 18, (lv_args 0 [.ref 128, .int m, .int p]), [.int (-1000000001)])) (M' := M) rfl) ?_
    refine e_then (e_st hT (y := 278) (pc := 18) (q := (yX12_read, cX12_read, 3, (some .int), 12)) rfl (show aTab 278 18 = some (.goto 17, 3, 0, 0, 0, 0, 0, 0) from rfl) (fr' := (278, 35, (lv_args 0 [.ref 128, .int m, .int p]), [.int (-1000000001)])) (M' := M) rfl) ?_
    exact e_fin (e_iret hT (y := 278) (pc := 35) (q := (yX12_read, cX12_read, 3, (some .int), 12)) rfl (show aTab 278 35 = some (.ireturn, 1, 0, 0, 0, 0, 0, 0) from rfl) ⟨rfl, rfl⟩) ⟨_, rfl, rfl, Or.inl ⟨(fun z => by first | exact c1 z.1 | exact c2 z.2), rfl⟩⟩
theorem rdQ_1 {N P : Nat} {m p x x' : Int32} {v v' : Nat → Nat → Int32} (hv : ∀ i j, i < N → j < P → v i j = v' i j) (h : rdQ N P m p x v) (h' : rdQ N P m p x' v') : x = x' := by
  rcases h with ⟨a, b⟩ | ⟨a, b, c⟩ | ⟨a, b, c⟩ <;> rcases h' with ⟨a', b'⟩ | ⟨a', b', c'⟩ | ⟨a', b', c'⟩
  · rw [b, b']
  · exact absurd a' a
  · exact absurd a' a
  · exact absurd a a'
  · rw [c, c']
  · exact absurd ((hv _ _ (by have := a.1; omega) (by have := a.2; omega)).trans b') b
  · exact absurd a a'
  · exact absurd ((hv _ _ (by have := a.1; omega) (by have := a.2; omega)).symm.trans b) b'
  · rw [c, c']
