/-! A SHEET MORE -/
theorem xhs_run (hT : aTabOk) {M : mHe} (hM : yTy M) {g : Nat → Nat → Int32} (hg : rdI M = g) {P : Nat} (hP : g 11 0 = Int32.ofNat P) (hP2 : P ≤ 40) {p : Int32} {d : Nat} (hd : 5 ≤ d) : ∃ K, mRun none K d (70, 0, lv_args 0 [.ref 20, .int p], []) M = some (some (.int (gB (decide (0 ≤ p.toInt ∧ p.toInt < (P : Int))))), M) := by
  have eP := i32n (k := P) (by omega)
  have e40 : (40 : Int32).toInt = 40 := rfl
  have go : mEv none 5 (70, 0, lv_args 0 [.ref 20, .int p], []) M (fun r M' => r = some (.int (gB (decide (0 ≤ p.toInt ∧ p.toInt < (P : Int))))) ∧ M' = M) := by
    refine e_then (e_il1 hT (y := 70) (pc := 0) (q := (yX4_has, cX4_has, 2, (some .boolean), 4)) rfl (show aTab 70 0 = some (.iload_n 1, 1, 0, 0, 0, 0, 0, 0) from rfl) rfl rfl) ?_
    by_cases c1 : p.toInt < 0
    · refine e_then (e_ifT hT (y := 70) (pc := 1) (q := (yX4_has, cX4_has, 2, (some .boolean), 4)) rfl (show aTab 70 1 = some (.ifCond .lt 21, 3, 0, 0, 0, 0, 0, 0) from rfl) rfl (t := 22) rfl (cdT (by have e0 : (0 : Int32).toInt = 0 := rfl; show _ < _; omega))) ?_
      refine e_then (e_st hT (y := 70) (pc := 22) (q := (yX4_has, cX4_has, 2, (some .boolean), 4)) rfl (show aTab 70 22 = some (.iconst 0, 1, 0, 0, 0, 0, 0, 0) from rfl) (fr' := (70, 23, (lv_args 0 [.ref 20, .int p]), [.int 0])) (M' := M) rfl) ?_
      rw [gB_f (show ¬ (0 ≤ p.toInt ∧ p.toInt < (P : Int)) by omega)]
      exact e_fin (e_zret hT (y := 70) (pc := 23) (q := (yX4_has, cX4_has, 2, (some .boolean), 4)) rfl (show aTab 70 23 = some (.ireturn, 1, 0, 0, 0, 0, 0, 0) from rfl) ⟨rfl, rfl⟩ (Or.inl rfl)) ⟨rfl, rfl⟩
    · refine e_then (e_ifF hT (y := 70) (pc := 1) (q := (yX4_has, cX4_has, 2, (some .boolean), 4)) rfl (show aTab 70 1 = some (.ifCond .lt 21, 3, 0, 0, 0, 0, 0, 0) from rfl) rfl (t := 22) rfl (cdF (by have e0 : (0 : Int32).toInt = 0 := rfl; show ¬ _ < _; omega))) ?_
      refine e_then (e_il1 hT (y := 70) (pc := 4) (q := (yX4_has, cX4_has, 2, (some .boolean), 4)) rfl (show aTab 70 4 = some (.iload_n 1, 1, 0, 0, 0, 0, 0, 0) from rfl) rfl rfl) ?_
      refine e_then (e_al1 hT (y := 70) (pc := 5) (q := (yX4_has, cX4_has, 2, (some .boolean), 4)) rfl (show aTab 70 5 = some (.aload_n 0, 1, 0, 0, 0, 0, 0, 0) from rfl) rfl rfl) ?_
      refine e_then (s_getV hT (y := 70) (pc := 6) (q := (yX4_has, cX4_has, 2, (some .boolean), 4)) rfl (show aTab 70 6 = some (.getfield 48, 3, 0, 4, 0, 0, 0, 0) from rfl) rfl (by decide) hM hg 11 rfl rfl (v := (Int32.ofNat P)) (show (g 11 0) = (Int32.ofNat P) from hP)) ?_
      by_cases c2 : (P : Int) ≤ p.toInt
      · refine e_then (e_icT hT (y := 70) (pc := 9) (q := (yX4_has, cX4_has, 2, (some .boolean), 4)) rfl (show aTab 70 9 = some (.if_icmp .ge 13, 3, 0, 0, 0, 0, 0, 0) from rfl) rfl (t := 22) rfl (cdT (by show _ ≤ _; omega))) ?_
        refine e_then (e_st hT (y := 70) (pc := 22) (q := (yX4_has, cX4_has, 2, (some .boolean), 4)) rfl (show aTab 70 22 = some (.iconst 0, 1, 0, 0, 0, 0, 0, 0) from rfl) (fr' := (70, 23, (lv_args 0 [.ref 20, .int p]), [.int 0])) (M' := M) rfl) ?_
        rw [gB_f (show ¬ (0 ≤ p.toInt ∧ p.toInt < (P : Int)) by omega)]
        exact e_fin (e_zret hT (y := 70) (pc := 23) (q := (yX4_has, cX4_has, 2, (some .boolean), 4)) rfl (show aTab 70 23 = some (.ireturn, 1, 0, 0, 0, 0, 0, 0) from rfl) ⟨rfl, rfl⟩ (Or.inl rfl)) ⟨rfl, rfl⟩
      · refine e_then (e_icF hT (y := 70) (pc := 9) (q := (yX4_has, cX4_has, 2, (some .boolean), 4)) rfl (show aTab 70 9 = some (.if_icmp .ge 13, 3, 0, 0, 0, 0, 0, 0) from rfl) rfl (t := 22) rfl (cdF (by show ¬ _ ≤ _; omega))) ?_
        refine e_then (e_il1 hT (y := 70) (pc := 12) (q := (yX4_has, cX4_has, 2, (some .boolean), 4)) rfl (show aTab 70 12 = some (.iload_n 1, 1, 0, 0, 0, 0, 0, 0) from rfl) rfl rfl) ?_
        refine e_then (e_st hT (y := 70) (pc := 13) (q := (yX4_has, cX4_has, 2, (some .boolean), 4)) rfl (show aTab 70 13 = some (.bipush 40, 2, 0, 0, 0, 0, 0, 0) from rfl) (fr' := (70, 15, (lv_args 0 [.ref 20, .int p]), [.int 40, .int p])) (M' := M) rfl) ?_
        refine e_then (e_icF hT (y := 70) (pc := 15) (q := (yX4_has, cX4_has, 2, (some .boolean), 4)) rfl (show aTab 70 15 = some (.if_icmp .ge 7, 3, 0, 0, 0, 0, 0, 0) from rfl) rfl (t := 22) rfl (cdF (by show ¬ _ ≤ _; omega))) ?_
        refine e_then (e_st hT (y := 70) (pc := 18) (q := (yX4_has, cX4_has, 2, (some .boolean), 4)) rfl (show aTab 70 18 = some (.iconst 1, 1, 0, 0, 0, 0, 0, 0) from rfl) (fr' := (70, 19, (lv_args 0 [.ref 20, .int p]), [.int 1])) (M' := M) rfl) ?_
        refine e_then (e_st hT (y := 70) (pc := 19) (q := (yX4_has, cX4_has, 2, (some .boolean), 4)) rfl (show aTab 70 19 = some (.goto 4, 3, 0, 0, 0, 0, 0, 0) from rfl) (fr' := (70, 23, (lv_args 0 [.ref 20, .int p]), [.int 1])) (M' := M) rfl) ?_
        rw [gB_t (show 0 ≤ p.toInt ∧ p.toInt < (P : Int) by omega)]
        exact e_fin (e_zret hT (y := 70) (pc := 23) (q := (yX4_has, cX4_has, 2, (some .boolean), 4)) rfl (show aTab 70 23 = some (.ireturn, 1, 0, 0, 0, 0, 0, 0) from rfl) ⟨rfl, rfl⟩ (Or.inr rfl)) ⟨rfl, rfl⟩
  obtain ⟨K, r, M', q, rfl, rfl⟩ := go
  exact ⟨K, mRun_dm q hd⟩
theorem xci_run (hT : aTabOk) {M : mHe} (hM : yTy M) {g : Nat → Nat → Int32} (hg : rdI M = g) {P : Nat} (hP : g 11 0 = Int32.ofNat P) (hP2 : P ≤ 40) {p t : Int32} {pp : Nat} (hp : p.toInt = (pp : Int)) (hpP : pp < P) (ht : 0 ≤ t.toInt ∧ t.toInt ≤ 6) {d : Nat} (hd : 10 ≤ d) : ∃ K M', mRun none K d (91, 0, lv_args 0 [.ref 20, .int p, .int t], []) M = some (none, M') ∧ yTy M' ∧ rdI M' = up2 g 18 pp (g 18 pp ||| (1 <<< (t &&& 31))) := by
  obtain ⟨K1, q1⟩ := xhs_run hT hM hg hP hP2 (p := p) (d := 9) (by decide)
  rw [gB_t (show 0 ≤ p.toInt ∧ p.toInt < (P : Int) by omega)] at q1
  obtain ⟨K2, q2⟩ := within_i hT (M := M) (v := t) (l := 0) (h := 6) (d := 9) (by decide)
  rw [show (0 : Int32).toInt = 0 from rfl, show (6 : Int32).toInt = 6 from rfl, gB_t ht] at q2
  have go : mEv none 10 (91, 0, lv_args 0 [.ref 20, .int p, .int t], []) M (fun r M' => r = none ∧ yTy M' ∧ rdI M' = up2 g 18 pp (g 18 pp ||| (1 <<< (t &&& 31)))) := by
    refine e_then (e_al1 hT (y := 91) (pc := 0) (q := (yX4_comeIn, cX4_comeIn, 3, none, 4)) rfl (show aTab 91 0 = some (.aload_n 0, 1, 0, 0, 0, 0, 0, 0) from rfl) rfl rfl) ?_
    refine e_then (e_il1 hT (y := 91) (pc := 1) (q := (yX4_comeIn, cX4_comeIn, 3, none, 4)) rfl (show aTab 91 1 = some (.iload_n 1, 1, 0, 0, 0, 0, 0, 0) from rfl) rfl rfl) ?_
    refine e_then (e_call hT (y := 91) (pc := 2) (q := (yX4_comeIn, cX4_comeIn, 3, none, 4)) rfl (show aTab 91 2 = some (.invokevirtual 56, 3, 1, 70, 0, 1, 2, 4) from rfl) rfl ⟨by decide, Nat.le_of_ble_eq_true rfl⟩ (ob_at hM (rfl : tTy 11 = some (.inr (4, _)))).choose_spec (Nat.le_of_ble_eq_true rfl) (Nat.le_of_ble_eq_true rfl) ⟨by decide, by decide⟩ q1) ?_
    refine e_then (e_ifF hT (y := 91) (pc := 5) (q := (yX4_comeIn, cX4_comeIn, 3, none, 4)) rfl (show aTab 91 5 = some (.ifCond .eq 25, 3, 0, 0, 0, 0, 0, 0) from rfl) rfl (t := 30) rfl (cdF (by show ¬ (1 : Int32).toInt = 0; decide))) ?_
    refine e_then (e_il1 hT (y := 91) (pc := 8) (q := (yX4_comeIn, cX4_comeIn, 3, none, 4)) rfl (show aTab 91 8 = some (.iload_n 2, 1, 0, 0, 0, 0, 0, 0) from rfl) rfl rfl) ?_
    refine e_then (e_st hT (y := 91) (pc := 9) (q := (yX4_comeIn, cX4_comeIn, 3, none, 4)) rfl (show aTab 91 9 = some (.iconst 0, 1, 0, 0, 0, 0, 0, 0) from rfl) (fr' := (91, 10, (lv_args 0 [.ref 20, .int p, .int t]), [.int 0, .int t])) (M' := M) rfl) ?_
    refine e_then (e_st hT (y := 91) (pc := 10) (q := (yX4_comeIn, cX4_comeIn, 3, none, 4)) rfl (show aTab 91 10 = some (.bipush 6, 2, 0, 0, 0, 0, 0, 0) from rfl) (fr' := (91, 12, (lv_args 0 [.ref 20, .int p, .int t]), [.int 6, .int 0, .int t])) (M' := M) rfl) ?_
    refine e_then (e_callsN hT (y := 91) (pc := 12) (q := (yX4_comeIn, cX4_comeIn, 3, none, 4)) rfl (show aTab 91 12 = some (.invokestatic 61, 3, 3, 234, 0, 3, 3, 11) from rfl) (Nat.le_of_ble_eq_true rfl) (Nat.le_of_ble_eq_true rfl) (Nat.le_of_ble_eq_true rfl) ⟨by decide, by decide⟩ q2) ?_
    refine e_then (e_ifF hT (y := 91) (pc := 15) (q := (yX4_comeIn, cX4_comeIn, 3, none, 4)) rfl (show aTab 91 15 = some (.ifCond .eq 15, 3, 0, 0, 0, 0, 0, 0) from rfl) rfl (t := 30) rfl (cdF (by show ¬ (1 : Int32).toInt = 0; decide))) ?_
    refine e_then (e_al1 hT (y := 91) (pc := 18) (q := (yX4_comeIn, cX4_comeIn, 3, none, 4)) rfl (show aTab 91 18 = some (.aload_n 0, 1, 0, 0, 0, 0, 0, 0) from rfl) rfl rfl) ?_
    refine e_then (e_getR hT (y := 91) (pc := 19) (q := (yX4_comeIn, cX4_comeIn, 3, none, 4)) rfl (show aTab 91 19 = some (.getfield 30, 3, 0, 4, 7, 0, 0, 0) from rfl) rfl (by decide) (by decide) hM rfl rfl) ?_
    refine e_then (e_il1 hT (y := 91) (pc := 22) (q := (yX4_comeIn, cX4_comeIn, 3, none, 4)) rfl (show aTab 91 22 = some (.iload_n 1, 1, 0, 0, 0, 0, 0, 0) from rfl) rfl rfl) ?_
    refine e_then (e_st hT (y := 91) (pc := 23) (q := (yX4_comeIn, cX4_comeIn, 3, none, 4)) rfl (show aTab 91 23 = some (.dup2, 1, 0, 0, 0, 0, 0, 0) from rfl) (fr' := (91, 24, (lv_args 0 [.ref 20, .int p, .int t]), [.int p, .ref 27, .int p, .ref 27])) (M' := M) rfl) ?_
    refine e_then (s_ald hT (y := 91) (pc := 24) (q := (yX4_comeIn, cX4_comeIn, 3, none, 4)) rfl (show aTab 91 24 = some (.iaload, 1, 0, 0, 0, 0, 0, 0) from rfl) rfl hM hg 18 pp rfl hp (by omega)) ?_
    refine e_then (e_st hT (y := 91) (pc := 25) (q := (yX4_comeIn, cX4_comeIn, 3, none, 4)) rfl (show aTab 91 25 = some (.iconst 1, 1, 0, 0, 0, 0, 0, 0) from rfl) (fr' := (91, 26, (lv_args 0 [.ref 20, .int p, .int t]), [.int 1, .int (g 18 pp), .int p, .ref 27])) (M' := M) rfl) ?_
    refine e_then (e_il1 hT (y := 91) (pc := 26) (q := (yX4_comeIn, cX4_comeIn, 3, none, 4)) rfl (show aTab 91 26 = some (.iload_n 2, 1, 0, 0, 0, 0, 0, 0) from rfl) rfl rfl) ?_
    refine e_then (e_st hT (y := 91) (pc := 27) (q := (yX4_comeIn, cX4_comeIn, 3, none, 4)) rfl (show aTab 91 27 = some (.ishl, 1, 0, 0, 0, 0, 0, 0) from rfl) (fr' := (91, 28, (lv_args 0 [.ref 20, .int p, .int t]), [.int (1 <<< (t &&& 31)), .int (g 18 pp), .int p, .ref 27])) (M' := M) rfl) ?_
    refine e_then (e_st hT (y := 91) (pc := 28) (q := (yX4_comeIn, cX4_comeIn, 3, none, 4)) rfl (show aTab 91 28 = some (.ior, 1, 0, 0, 0, 0, 0, 0) from rfl) (fr' := (91, 29, (lv_args 0 [.ref 20, .int p, .int t]), [.int ((g 18 pp) ||| (1 <<< (t &&& 31))), .int p, .ref 27])) (M' := M) rfl) ?_
    obtain ⟨m1, sm1, tm1, em1⟩ := s_ast (sc := none) (d := _) (lv := (lv_args 0 [.ref 20, .int p, .int t])) (st := []) (z := ((g 18 pp) ||| (1 <<< (t &&& 31)))) (i := p) hT (y := 91) (pc := 29) (q := (yX4_comeIn, cX4_comeIn, 3, none, 4)) rfl (show aTab 91 29 = some (.iastore, 1, 0, 0, 0, 0, 0, 0) from rfl) rfl hM hg 18 pp rfl hp (by omega)
    refine e_then sm1 ?_
    exact e_fin (e_vret hT (y := 91) (pc := 30) (q := (yX4_comeIn, cX4_comeIn, 3, none, 4)) rfl (show aTab 91 30 = some (.return_, 1, 0, 0, 0, 0, 0, 0) from rfl) ⟨rfl, rfl⟩) ⟨rfl, tm1, em1⟩
  obtain ⟨K, r, M', q, rfl, q2, q3⟩ := go
  exact ⟨K, M', mRun_dm q hd, q2, q3⟩
def pnOk (P : Nat) (p t l : Int32) : Prop := (0 ≤ p.toInt ∧ p.toInt < (P : Int)) ∧ (0 ≤ t.toInt ∧ t.toInt ≤ 6) ∧ (0 ≤ l.toInt ∧ l.toInt ≤ 99)
/-- what comes of print: 0 refused, 1 full, 2 come at once, 3 on its way -/
def pnC (P Z : Nat) (p t l : Int32) : Nat → Prop
  | 0 => ¬ pnOk P p t l
  | 1 => pnOk P p t l ∧ Z = 30
  | 2 => pnOk P p t l ∧ Z < 30 ∧ l = 0
  | _ => pnOk P p t l ∧ Z < 30 ∧ l ≠ 0
def pnA (Z : Nat) : Nat → Int32
  | 0 => -1000000001
  | 1 => -1000000003
  | 2 => Int32.ofNat Z
  | _ => Int32.ofNat (Z + 1)
def xpnG (g : Nat → Nat → Int32) (Z : Nat) (p t l m : Int32) : Nat → (Nat → Nat → Int32)
  | 0 => g
  | 1 => g
  | 2 => up2 g 18 p.toInt.toNat (g 18 p.toInt.toNat ||| (1 <<< (t &&& 31)))
  | _ => up2 (up2 (up2 (up2 g 25 Z p) 26 Z t) 27 Z (m + l)) 24 0 (Int32.ofNat (Z + 1))
def rpnG (g : Nat → Nat → Int32) (Z : Nat) (p t l m : Int32) : Nat → (Nat → Nat → Int32)
  | 0 => g
  | 1 => g
  | 2 => up2 g 120 (166 + 10 * p.toInt.toNat) (g 120 (166 + 10 * p.toInt.toNat) ||| (1 <<< (t &&& 31)))
  | _ => up2 (up2 (up2 (up2 g 120 (920 + 3 * Z) p) 120 (921 + 3 * Z) t) 120 (922 + 3 * Z) (m + l)) 120 7 (Int32.ofNat (Z + 1))
theorem xpn_run (hT : aTabOk) {M : mHe} (hM : yTy M) {g : Nat → Nat → Int32} (hg : rdI M = g) {P Z : Nat} (hP : g 11 0 = Int32.ofNat P) (hP2 : P ≤ 40) (hZ : g 24 0 = Int32.ofNat Z) (hZ2 : Z ≤ 30) {p t l : Int32} : mEv none 30 (196, 0, lv_args 0 [.ref 9, .int p, .int t, .int l], []) M (fun r M' => yTy M' ∧ ∃ s, s < 4 ∧ pnC P Z p t l s ∧ r = some (.int (pnA Z s)) ∧ rdI M' = xpnG g Z p t l (g 1 0) s) := by
  have eZ := i32n (k := Z) (by omega)
  have e30 : (30 : Int32).toInt = 30 := rfl
  obtain ⟨K1, q1⟩ := xhs_run hT hM hg hP hP2 (p := p) (d := 19) (by decide)
  obtain ⟨K2, q2⟩ := within_i hT (M := M) (v := t) (l := 0) (h := 6) (d := 19) (by decide)
  obtain ⟨K3, q3⟩ := within_i hT (M := M) (v := l) (l := 0) (h := 99) (d := 19) (by decide)
  rw [show (0 : Int32).toInt = 0 from rfl, show (6 : Int32).toInt = 6 from rfl] at q2
  rw [show (0 : Int32).toInt = 0 from rfl, show (99 : Int32).toInt = 99 from rfl] at q3
  have go : mEv none 20 (132, 0, lv_args 0 [.ref 33, .ref 20, .int p, .int t, .int l, .int (g 1 0)], []) M (fun r M' => yTy M' ∧ ∃ s, s < 4 ∧ pnC P Z p t l s ∧ r = some (.int (pnA Z s)) ∧ rdI M' = xpnG g Z p t l (g 1 0) s) := by
    refine e_then (e_al1 hT (y := 132) (pc := 0) (q := (yX6_add, cX6_add, 6, (some .int), 6)) rfl (show aTab 132 0 = some (.aload_n 1, 1, 0, 0, 0, 0, 0, 0) from rfl) rfl rfl) ?_
    refine e_then (e_il1 hT (y := 132) (pc := 1) (q := (yX6_add, cX6_add, 6, (some .int), 6)) rfl (show aTab 132 1 = some (.iload_n 2, 1, 0, 0, 0, 0, 0, 0) from rfl) rfl rfl) ?_
    by_cases c1 : 0 ≤ p.toInt ∧ p.toInt < (P : Int)
    · rw [gB_t c1] at q1
      refine e_then (e_call hT (y := 132) (pc := 2) (q := (yX6_add, cX6_add, 6, (some .int), 6)) rfl (show aTab 132 2 = some (.invokevirtual 29, 3, 1, 70, 0, 1, 2, 4) from rfl) rfl ⟨by decide, Nat.le_of_ble_eq_true rfl⟩ (ob_at hM (rfl : tTy 11 = some (.inr (4, _)))).choose_spec (Nat.le_of_ble_eq_true rfl) (Nat.le_of_ble_eq_true rfl) ⟨by decide, by decide⟩ q1) ?_
      refine e_then (e_ifF hT (y := 132) (pc := 5) (q := (yX6_add, cX6_add, 6, (some .int), 6)) rfl (show aTab 132 5 = some (.ifCond .eq 24, 3, 0, 0, 0, 0, 0, 0) from rfl) rfl (t := 29) rfl (cdF (by show ¬ (_ = _); decide))) ?_
      refine e_then (e_il1 hT (y := 132) (pc := 8) (q := (yX6_add, cX6_add, 6, (some .int), 6)) rfl (show aTab 132 8 = some (.iload_n 3, 1, 0, 0, 0, 0, 0, 0) from rfl) rfl rfl) ?_
      refine e_then (e_st hT (y := 132) (pc := 9) (q := (yX6_add, cX6_add, 6, (some .int), 6)) rfl (show aTab 132 9 = some (.iconst 0, 1, 0, 0, 0, 0, 0, 0) from rfl) (fr' := (132, 10, (lv_args 0 [.ref 33, .ref 20, .int p, .int t, .int l, .int (g 1 0)]), [.int 0, .int t])) (M' := M) rfl) ?_
      refine e_then (e_st hT (y := 132) (pc := 10) (q := (yX6_add, cX6_add, 6, (some .int), 6)) rfl (show aTab 132 10 = some (.bipush 6, 2, 0, 0, 0, 0, 0, 0) from rfl) (fr' := (132, 12, (lv_args 0 [.ref 33, .ref 20, .int p, .int t, .int l, .int (g 1 0)]), [.int 6, .int 0, .int t])) (M' := M) rfl) ?_
      by_cases c2 : 0 ≤ t.toInt ∧ t.toInt ≤ 6
      · rw [gB_t c2] at q2
        refine e_then (e_callsN hT (y := 132) (pc := 12) (q := (yX6_add, cX6_add, 6, (some .int), 6)) rfl (show aTab 132 12 = some (.invokestatic 35, 3, 3, 234, 0, 3, 3, 11) from rfl) (Nat.le_of_ble_eq_true rfl) (Nat.le_of_ble_eq_true rfl) (Nat.le_of_ble_eq_true rfl) ⟨by decide, by decide⟩ q2) ?_
        refine e_then (e_ifF hT (y := 132) (pc := 15) (q := (yX6_add, cX6_add, 6, (some .int), 6)) rfl (show aTab 132 15 = some (.ifCond .eq 14, 3, 0, 0, 0, 0, 0, 0) from rfl) rfl (t := 29) rfl (cdF (by show ¬ (_ = _); decide))) ?_
        refine e_then (e_il2 hT (y := 132) (pc := 18) (q := (yX6_add, cX6_add, 6, (some .int), 6)) rfl (show aTab 132 18 = some (.iload 4, 2, 0, 0, 0, 0, 0, 0) from rfl) rfl rfl) ?_
        refine e_then (e_st hT (y := 132) (pc := 20) (q := (yX6_add, cX6_add, 6, (some .int), 6)) rfl (show aTab 132 20 = some (.iconst 0, 1, 0, 0, 0, 0, 0, 0) from rfl) (fr' := (132, 21, (lv_args 0 [.ref 33, .ref 20, .int p, .int t, .int l, .int (g 1 0)]), [.int 0, .int l])) (M' := M) rfl) ?_
        refine e_then (e_st hT (y := 132) (pc := 21) (q := (yX6_add, cX6_add, 6, (some .int), 6)) rfl (show aTab 132 21 = some (.bipush 99, 2, 0, 0, 0, 0, 0, 0) from rfl) (fr' := (132, 23, (lv_args 0 [.ref 33, .ref 20, .int p, .int t, .int l, .int (g 1 0)]), [.int 99, .int 0, .int l])) (M' := M) rfl) ?_
        by_cases c3 : 0 ≤ l.toInt ∧ l.toInt ≤ 99
        · rw [gB_t c3] at q3
          refine e_then (e_callsN hT (y := 132) (pc := 23) (q := (yX6_add, cX6_add, 6, (some .int), 6)) rfl (show aTab 132 23 = some (.invokestatic 35, 3, 3, 234, 0, 3, 3, 11) from rfl) (Nat.le_of_ble_eq_true rfl) (Nat.le_of_ble_eq_true rfl) (Nat.le_of_ble_eq_true rfl) ⟨by decide, by decide⟩ q3) ?_
          refine e_then (e_ifT hT (y := 132) (pc := 26) (q := (yX6_add, cX6_add, 6, (some .int), 6)) rfl (show aTab 132 26 = some (.ifCond .ne 6, 3, 0, 0, 0, 0, 0, 0) from rfl) rfl (t := 32) rfl (cdT (by show ¬ _ = _; decide))) ?_
          refine e_then (e_al1 hT (y := 132) (pc := 32) (q := (yX6_add, cX6_add, 6, (some .int), 6)) rfl (show aTab 132 32 = some (.aload_n 0, 1, 0, 0, 0, 0, 0, 0) from rfl) rfl rfl) ?_
          refine e_then (s_getV hT (y := 132) (pc := 33) (q := (yX6_add, cX6_add, 6, (some .int), 6)) rfl (show aTab 132 33 = some (.getfield 21, 3, 0, 6, 0, 0, 0, 0) from rfl) rfl (by decide) hM hg 24 rfl rfl (v := (Int32.ofNat Z)) (show (g 24 0) = (Int32.ofNat Z) from hZ)) ?_
          refine e_then (e_st hT (y := 132) (pc := 36) (q := (yX6_add, cX6_add, 6, (some .int), 6)) rfl (show aTab 132 36 = some (.bipush 30, 2, 0, 0, 0, 0, 0, 0) from rfl) (fr' := (132, 38, (lv_args 0 [.ref 33, .ref 20, .int p, .int t, .int l, .int (g 1 0)]), [.int 30, .int (Int32.ofNat Z)])) (M' := M) rfl) ?_
          by_cases c4 : Z < 30
          · refine e_then (e_icT hT (y := 132) (pc := 38) (q := (yX6_add, cX6_add, 6, (some .int), 6)) rfl (show aTab 132 38 = some (.if_icmp .lt 6, 3, 0, 0, 0, 0, 0, 0) from rfl) rfl (t := 44) rfl (cdT (by show _ < _; omega))) ?_
            refine e_then (e_il2 hT (y := 132) (pc := 44) (q := (yX6_add, cX6_add, 6, (some .int), 6)) rfl (show aTab 132 44 = some (.iload 4, 2, 0, 0, 0, 0, 0, 0) from rfl) rfl rfl) ?_
            by_cases c5 : l = 0
            · refine e_then (e_ifF hT (y := 132) (pc := 46) (q := (yX6_add, cX6_add, 6, (some .int), 6)) rfl (show aTab 132 46 = some (.ifCond .ne 14, 3, 0, 0, 0, 0, 0, 0) from rfl) rfl (t := 60) rfl (cdF (by show ¬ (¬ _ = _); exact (by first | exact fun z => z (by rw [c5]) | exact fun z => c5 (Int32.toInt_inj.mp z))))) ?_
              refine e_then (e_al1 hT (y := 132) (pc := 49) (q := (yX6_add, cX6_add, 6, (some .int), 6)) rfl (show aTab 132 49 = some (.aload_n 1, 1, 0, 0, 0, 0, 0, 0) from rfl) rfl rfl) ?_
              refine e_then (e_il1 hT (y := 132) (pc := 50) (q := (yX6_add, cX6_add, 6, (some .int), 6)) rfl (show aTab 132 50 = some (.iload_n 2, 1, 0, 0, 0, 0, 0, 0) from rfl) rfl rfl) ?_
              refine e_then (e_il1 hT (y := 132) (pc := 51) (q := (yX6_add, cX6_add, 6, (some .int), 6)) rfl (show aTab 132 51 = some (.iload_n 3, 1, 0, 0, 0, 0, 0, 0) from rfl) rfl rfl) ?_
              obtain ⟨pp, hpp⟩ : ∃ n : Nat, (n : Int) = p.toInt := ⟨p.toInt.toNat, by omega⟩
              obtain ⟨K4, M4, q4, t4, e4⟩ := xci_run hT hM hg hP hP2 (p := p) (t := t) hpp.symm (by omega) c2 (d := 19) (by decide)
              have epp : p.toInt.toNat = pp := by omega
              refine e_then (e_call hT (y := 132) (pc := 52) (q := (yX6_add, cX6_add, 6, (some .int), 6)) rfl (show aTab 132 52 = some (.invokevirtual 41, 3, 1, 91, 0, 2, 3, 4) from rfl) rfl ⟨by decide, Nat.le_of_ble_eq_true rfl⟩ (ob_at hM (rfl : tTy 11 = some (.inr (4, _)))).choose_spec (Nat.le_of_ble_eq_true rfl) (Nat.le_of_ble_eq_true rfl) ⟨by decide, by decide⟩ q4) ?_
              refine e_then (e_al1 hT (y := 132) (pc := 55) (q := (yX6_add, cX6_add, 6, (some .int), 6)) rfl (show aTab 132 55 = some (.aload_n 0, 1, 0, 0, 0, 0, 0, 0) from rfl) rfl rfl) ?_
              refine e_then (s_getV hT (y := 132) (pc := 56) (q := (yX6_add, cX6_add, 6, (some .int), 6)) rfl (show aTab 132 56 = some (.getfield 21, 3, 0, 6, 0, 0, 0, 0) from rfl) rfl (by decide) t4 e4 24 rfl rfl (v := (Int32.ofNat Z)) (show ((up2 g 18 pp (g 18 pp ||| (1 <<< (t &&& 31)))) 24 0) = (Int32.ofNat Z) from hZ)) ?_
              refine e_fin (e_iret hT (y := 132) (pc := 59) (q := (yX6_add, cX6_add, 6, (some .int), 6)) rfl (show aTab 132 59 = some (.ireturn, 1, 0, 0, 0, 0, 0, 0) from rfl) ⟨rfl, rfl⟩) ⟨t4, 2, by decide, ⟨⟨c1, c2, c3⟩, c4, c5⟩, rfl, ?_⟩
              show _ = up2 g 18 p.toInt.toNat (g 18 p.toInt.toNat ||| (1 <<< (t &&& 31)))
              rw [epp]
              exact e4
            · refine e_then (e_ifT hT (y := 132) (pc := 46) (q := (yX6_add, cX6_add, 6, (some .int), 6)) rfl (show aTab 132 46 = some (.ifCond .ne 14, 3, 0, 0, 0, 0, 0, 0) from rfl) rfl (t := 60) rfl (cdT (by show ¬ _ = _; exact (by first | exact fun z => z (by rw [c5]) | exact fun z => c5 (Int32.toInt_inj.mp z))))) ?_
              refine e_then (e_al1 hT (y := 132) (pc := 60) (q := (yX6_add, cX6_add, 6, (some .int), 6)) rfl (show aTab 132 60 = some (.aload_n 0, 1, 0, 0, 0, 0, 0, 0) from rfl) rfl rfl) ?_
              refine e_then (e_getR hT (y := 132) (pc := 61) (q := (yX6_add, cX6_add, 6, (some .int), 6)) rfl (show aTab 132 61 = some (.getfield 9, 3, 0, 6, 1, 0, 0, 0) from rfl) rfl (by decide) (by decide) hM rfl rfl) ?_
              refine e_then (e_al1 hT (y := 132) (pc := 64) (q := (yX6_add, cX6_add, 6, (some .int), 6)) rfl (show aTab 132 64 = some (.aload_n 0, 1, 0, 0, 0, 0, 0, 0) from rfl) rfl rfl) ?_
              refine e_then (s_getV hT (y := 132) (pc := 65) (q := (yX6_add, cX6_add, 6, (some .int), 6)) rfl (show aTab 132 65 = some (.getfield 21, 3, 0, 6, 0, 0, 0, 0) from rfl) rfl (by decide) hM hg 24 rfl rfl (v := (Int32.ofNat Z)) (show (g 24 0) = (Int32.ofNat Z) from hZ)) ?_
              refine e_then (e_il1 hT (y := 132) (pc := 68) (q := (yX6_add, cX6_add, 6, (some .int), 6)) rfl (show aTab 132 68 = some (.iload_n 2, 1, 0, 0, 0, 0, 0, 0) from rfl) rfl rfl) ?_
              obtain ⟨m1, sm1, tm1, em1⟩ := s_ast (sc := none) (d := _) (lv := (lv_args 0 [.ref 33, .ref 20, .int p, .int t, .int l, .int (g 1 0)])) (st := []) (z := p) (i := (Int32.ofNat Z)) hT (y := 132) (pc := 69) (q := (yX6_add, cX6_add, 6, (some .int), 6)) rfl (show aTab 132 69 = some (.iastore, 1, 0, 0, 0, 0, 0, 0) from rfl) rfl hM hg 25 Z rfl eZ (by omega)
              refine e_then sm1 ?_
              refine e_then (e_al1 hT (y := 132) (pc := 70) (q := (yX6_add, cX6_add, 6, (some .int), 6)) rfl (show aTab 132 70 = some (.aload_n 0, 1, 0, 0, 0, 0, 0, 0) from rfl) rfl rfl) ?_
              refine e_then (e_getR hT (y := 132) (pc := 71) (q := (yX6_add, cX6_add, 6, (some .int), 6)) rfl (show aTab 132 71 = some (.getfield 15, 3, 0, 6, 2, 0, 0, 0) from rfl) rfl (by decide) (by decide) tm1 rfl rfl) ?_
              refine e_then (e_al1 hT (y := 132) (pc := 74) (q := (yX6_add, cX6_add, 6, (some .int), 6)) rfl (show aTab 132 74 = some (.aload_n 0, 1, 0, 0, 0, 0, 0, 0) from rfl) rfl rfl) ?_
              refine e_then (s_getV hT (y := 132) (pc := 75) (q := (yX6_add, cX6_add, 6, (some .int), 6)) rfl (show aTab 132 75 = some (.getfield 21, 3, 0, 6, 0, 0, 0, 0) from rfl) rfl (by decide) tm1 em1 24 rfl rfl (v := (Int32.ofNat Z)) (show ((up2 g 25 Z p) 24 0) = (Int32.ofNat Z) from hZ)) ?_
              refine e_then (e_il1 hT (y := 132) (pc := 78) (q := (yX6_add, cX6_add, 6, (some .int), 6)) rfl (show aTab 132 78 = some (.iload_n 3, 1, 0, 0, 0, 0, 0, 0) from rfl) rfl rfl) ?_
              obtain ⟨m2, sm2, tm2, em2⟩ := s_ast (sc := none) (d := _) (lv := (lv_args 0 [.ref 33, .ref 20, .int p, .int t, .int l, .int (g 1 0)])) (st := []) (z := t) (i := (Int32.ofNat Z)) hT (y := 132) (pc := 79) (q := (yX6_add, cX6_add, 6, (some .int), 6)) rfl (show aTab 132 79 = some (.iastore, 1, 0, 0, 0, 0, 0, 0) from rfl) rfl tm1 em1 26 Z rfl eZ (by omega)
              refine e_then sm2 ?_
              refine e_then (e_al1 hT (y := 132) (pc := 80) (q := (yX6_add, cX6_add, 6, (some .int), 6)) rfl (show aTab 132 80 = some (.aload_n 0, 1, 0, 0, 0, 0, 0, 0) from rfl) rfl rfl) ?_
              refine e_then (e_getR hT (y := 132) (pc := 81) (q := (yX6_add, cX6_add, 6, (some .int), 6)) rfl (show aTab 132 81 = some (.getfield 18, 3, 0, 6, 3, 0, 0, 0) from rfl) rfl (by decide) (by decide) tm2 rfl rfl) ?_
              refine e_then (e_al1 hT (y := 132) (pc := 84) (q := (yX6_add, cX6_add, 6, (some .int), 6)) rfl (show aTab 132 84 = some (.aload_n 0, 1, 0, 0, 0, 0, 0, 0) from rfl) rfl rfl) ?_
              refine e_then (s_getV hT (y := 132) (pc := 85) (q := (yX6_add, cX6_add, 6, (some .int), 6)) rfl (show aTab 132 85 = some (.getfield 21, 3, 0, 6, 0, 0, 0, 0) from rfl) rfl (by decide) tm2 em2 24 rfl rfl (v := (Int32.ofNat Z)) (show ((up2 (up2 g 25 Z p) 26 Z t) 24 0) = (Int32.ofNat Z) from hZ)) ?_
              refine e_then (e_il2 hT (y := 132) (pc := 88) (q := (yX6_add, cX6_add, 6, (some .int), 6)) rfl (show aTab 132 88 = some (.iload 5, 2, 0, 0, 0, 0, 0, 0) from rfl) rfl rfl) ?_
              refine e_then (e_il2 hT (y := 132) (pc := 90) (q := (yX6_add, cX6_add, 6, (some .int), 6)) rfl (show aTab 132 90 = some (.iload 4, 2, 0, 0, 0, 0, 0, 0) from rfl) rfl rfl) ?_
              refine e_then (e_st hT (y := 132) (pc := 92) (q := (yX6_add, cX6_add, 6, (some .int), 6)) rfl (show aTab 132 92 = some (.iadd, 1, 0, 0, 0, 0, 0, 0) from rfl) (fr' := (132, 93, (lv_args 0 [.ref 33, .ref 20, .int p, .int t, .int l, .int (g 1 0)]), [.int ((g 1 0) + l), .int (Int32.ofNat Z), .ref 36])) (M' := m2) rfl) ?_
              obtain ⟨m3, sm3, tm3, em3⟩ := s_ast (sc := none) (d := _) (lv := (lv_args 0 [.ref 33, .ref 20, .int p, .int t, .int l, .int (g 1 0)])) (st := []) (z := ((g 1 0) + l)) (i := (Int32.ofNat Z)) hT (y := 132) (pc := 93) (q := (yX6_add, cX6_add, 6, (some .int), 6)) rfl (show aTab 132 93 = some (.iastore, 1, 0, 0, 0, 0, 0, 0) from rfl) rfl tm2 em2 27 Z rfl eZ (by omega)
              refine e_then sm3 ?_
              refine e_then (e_al1 hT (y := 132) (pc := 94) (q := (yX6_add, cX6_add, 6, (some .int), 6)) rfl (show aTab 132 94 = some (.aload_n 0, 1, 0, 0, 0, 0, 0, 0) from rfl) rfl rfl) ?_
              refine e_then (e_st hT (y := 132) (pc := 95) (q := (yX6_add, cX6_add, 6, (some .int), 6)) rfl (show aTab 132 95 = some (.dup, 1, 0, 0, 0, 0, 0, 0) from rfl) (fr' := (132, 96, (lv_args 0 [.ref 33, .ref 20, .int p, .int t, .int l, .int (g 1 0)]), [.ref 33, .ref 33])) (M' := m3) rfl) ?_
              refine e_then (s_getV hT (y := 132) (pc := 96) (q := (yX6_add, cX6_add, 6, (some .int), 6)) rfl (show aTab 132 96 = some (.getfield 21, 3, 0, 6, 0, 0, 0, 0) from rfl) rfl (by decide) tm3 em3 24 rfl rfl (v := (Int32.ofNat Z)) (show ((up2 (up2 (up2 g 25 Z p) 26 Z t) 27 Z ((g 1 0) + l)) 24 0) = (Int32.ofNat Z) from hZ)) ?_
              refine e_then (e_st hT (y := 132) (pc := 99) (q := (yX6_add, cX6_add, 6, (some .int), 6)) rfl (show aTab 132 99 = some (.iconst 1, 1, 0, 0, 0, 0, 0, 0) from rfl) (fr' := (132, 100, (lv_args 0 [.ref 33, .ref 20, .int p, .int t, .int l, .int (g 1 0)]), [.int 1, .int (Int32.ofNat Z), .ref 33])) (M' := m3) rfl) ?_
              refine e_then (e_st hT (y := 132) (pc := 100) (q := (yX6_add, cX6_add, 6, (some .int), 6)) rfl (show aTab 132 100 = some (.iadd, 1, 0, 0, 0, 0, 0, 0) from rfl) (fr' := (132, 101, (lv_args 0 [.ref 33, .ref 20, .int p, .int t, .int l, .int (g 1 0)]), [.int ((Int32.ofNat Z) + 1), .ref 33])) (M' := m3) rfl) ?_
              obtain ⟨m4, sm4, tm4, em4⟩ := s_putI (sc := none) (d := _) (lv := (lv_args 0 [.ref 33, .ref 20, .int p, .int t, .int l, .int (g 1 0)])) (st := []) (z := ((Int32.ofNat Z) + 1)) hT (y := 132) (pc := 101) (q := (yX6_add, cX6_add, 6, (some .int), 6)) rfl (show aTab 132 101 = some (.putfield 21, 3, 0, 6, 0, 0, 0, 0) from rfl) rfl rfl ⟨by decide, rfl, rfl⟩ tm3 em3 24 rfl rfl ⟨by rw [ix1 (by omega)]; omega, by rw [ix1 (by omega)]; omega⟩ (kn := 0) rfl
              refine e_then sm4 ?_
              refine e_then (e_al1 hT (y := 132) (pc := 104) (q := (yX6_add, cX6_add, 6, (some .int), 6)) rfl (show aTab 132 104 = some (.aload_n 0, 1, 0, 0, 0, 0, 0, 0) from rfl) rfl rfl) ?_
              refine e_then (s_getV hT (y := 132) (pc := 105) (q := (yX6_add, cX6_add, 6, (some .int), 6)) rfl (show aTab 132 105 = some (.getfield 21, 3, 0, 6, 0, 0, 0, 0) from rfl) rfl (by decide) tm4 em4 24 rfl rfl (v := ((Int32.ofNat Z) + 1)) rfl) ?_
              refine e_fin (e_iret hT (y := 132) (pc := 108) (q := (yX6_add, cX6_add, 6, (some .int), 6)) rfl (show aTab 132 108 = some (.ireturn, 1, 0, 0, 0, 0, 0, 0) from rfl) ⟨rfl, rfl⟩) ⟨tm4, 3, by decide, ⟨⟨c1, c2, c3⟩, c4, c5⟩, by rw [oa1 (by omega)]; rfl, ?_⟩
              rw [em4, oa1 (by omega)]
              rfl
          · refine e_then (e_icF hT (y := 132) (pc := 38) (q := (yX6_add, cX6_add, 6, (some .int), 6)) rfl (show aTab 132 38 = some (.if_icmp .lt 6, 3, 0, 0, 0, 0, 0, 0) from rfl) rfl (t := 44) rfl (cdF (by show ¬ _ < _; omega))) ?_
            refine e_then (e_st hT (y := 132) (pc := 41) (q := (yX6_add, cX6_add, 6, (some .int), 6)) rfl (show aTab 132 41 = some (.ldc 40, 2, 7, 0, (-1000000003), 0, 0, 0) from rfl) (fr' := (132, 43, (lv_args 0 [.ref 33, .ref 20, .int p, .int t, .int l, .int (g 1 0)]), [.int (-1000000003)])) (M' := M) rfl) ?_
            exact e_fin (e_iret hT (y := 132) (pc := 43) (q := (yX6_add, cX6_add, 6, (some .int), 6)) rfl (show aTab 132 43 = some (.ireturn, 1, 0, 0, 0, 0, 0, 0) from rfl) ⟨rfl, rfl⟩) ⟨hM, 1, by decide, ⟨⟨c1, c2, c3⟩, by omega⟩, rfl, hg⟩
        · rw [gB_f c3] at q3
          refine e_then (e_callsN hT (y := 132) (pc := 23) (q := (yX6_add, cX6_add, 6, (some .int), 6)) rfl (show aTab 132 23 = some (.invokestatic 35, 3, 3, 234, 0, 3, 3, 11) from rfl) (Nat.le_of_ble_eq_true rfl) (Nat.le_of_ble_eq_true rfl) (Nat.le_of_ble_eq_true rfl) ⟨by decide, by decide⟩ q3) ?_
          refine e_then (e_ifF hT (y := 132) (pc := 26) (q := (yX6_add, cX6_add, 6, (some .int), 6)) rfl (show aTab 132 26 = some (.ifCond .ne 6, 3, 0, 0, 0, 0, 0, 0) from rfl) rfl (t := 32) rfl (cdF (by show ¬ (¬ _ = _); decide))) ?_
          refine e_then (e_st hT (y := 132) (pc := 29) (q := (yX6_add, cX6_add, 6, (some .int), 6)) rfl (show aTab 132 29 = some (.ldc 39, 2, 7, 0, (-1000000001), 0, 0, 0) from rfl) (fr' := (132, 31, (lv_args 0 [.ref 33, .ref 20, .int p, .int t, .int l, .int (g 1 0)]), [.int (-1000000001)])) (M' := M) rfl) ?_
          exact e_fin (e_iret hT (y := 132) (pc := 31) (q := (yX6_add, cX6_add, 6, (some .int), 6)) rfl (show aTab 132 31 = some (.ireturn, 1, 0, 0, 0, 0, 0, 0) from rfl) ⟨rfl, rfl⟩) ⟨hM, 0, by decide, (fun z => by first | exact c1 z.1 | exact c2 z.2.1 | exact c3 z.2.2), rfl, hg⟩
      · rw [gB_f c2] at q2
        refine e_then (e_callsN hT (y := 132) (pc := 12) (q := (yX6_add, cX6_add, 6, (some .int), 6)) rfl (show aTab 132 12 = some (.invokestatic 35, 3, 3, 234, 0, 3, 3, 11) from rfl) (Nat.le_of_ble_eq_true rfl) (Nat.le_of_ble_eq_true rfl) (Nat.le_of_ble_eq_true rfl) ⟨by decide, by decide⟩ q2) ?_
        refine e_then (e_ifT hT (y := 132) (pc := 15) (q := (yX6_add, cX6_add, 6, (some .int), 6)) rfl (show aTab 132 15 = some (.ifCond .eq 14, 3, 0, 0, 0, 0, 0, 0) from rfl) rfl (t := 29) rfl (cdT (by show _ = _; decide))) ?_
        refine e_then (e_st hT (y := 132) (pc := 29) (q := (yX6_add, cX6_add, 6, (some .int), 6)) rfl (show aTab 132 29 = some (.ldc 39, 2, 7, 0, (-1000000001), 0, 0, 0) from rfl) (fr' := (132, 31, (lv_args 0 [.ref 33, .ref 20, .int p, .int t, .int l, .int (g 1 0)]), [.int (-1000000001)])) (M' := M) rfl) ?_
        exact e_fin (e_iret hT (y := 132) (pc := 31) (q := (yX6_add, cX6_add, 6, (some .int), 6)) rfl (show aTab 132 31 = some (.ireturn, 1, 0, 0, 0, 0, 0, 0) from rfl) ⟨rfl, rfl⟩) ⟨hM, 0, by decide, (fun z => by first | exact c1 z.1 | exact c2 z.2.1 | exact c3 z.2.2), rfl, hg⟩
    · rw [gB_f c1] at q1
      refine e_then (e_call hT (y := 132) (pc := 2) (q := (yX6_add, cX6_add, 6, (some .int), 6)) rfl (show aTab 132 2 = some (.invokevirtual 29, 3, 1, 70, 0, 1, 2, 4) from rfl) rfl ⟨by decide, Nat.le_of_ble_eq_true rfl⟩ (ob_at hM (rfl : tTy 11 = some (.inr (4, _)))).choose_spec (Nat.le_of_ble_eq_true rfl) (Nat.le_of_ble_eq_true rfl) ⟨by decide, by decide⟩ q1) ?_
      refine e_then (e_ifT hT (y := 132) (pc := 5) (q := (yX6_add, cX6_add, 6, (some .int), 6)) rfl (show aTab 132 5 = some (.ifCond .eq 24, 3, 0, 0, 0, 0, 0, 0) from rfl) rfl (t := 29) rfl (cdT (by show _ = _; decide))) ?_
      refine e_then (e_st hT (y := 132) (pc := 29) (q := (yX6_add, cX6_add, 6, (some .int), 6)) rfl (show aTab 132 29 = some (.ldc 39, 2, 7, 0, (-1000000001), 0, 0, 0) from rfl) (fr' := (132, 31, (lv_args 0 [.ref 33, .ref 20, .int p, .int t, .int l, .int (g 1 0)]), [.int (-1000000001)])) (M' := M) rfl) ?_
      exact e_fin (e_iret hT (y := 132) (pc := 31) (q := (yX6_add, cX6_add, 6, (some .int), 6)) rfl (show aTab 132 31 = some (.ireturn, 1, 0, 0, 0, 0, 0, 0) from rfl) ⟨rfl, rfl⟩) ⟨hM, 0, by decide, (fun z => by first | exact c1 z.1 | exact c2 z.2.1 | exact c3 z.2.2), rfl, hg⟩
  obtain ⟨K6, r6, M6, q6, t6, s, s1, s2, rfl, s4⟩ := go
  have q6 := mRun_dm q6 (show 20 ≤ 29 by decide)
  refine e_then (e_al1 hT (y := 196) (pc := 0) (q := (yX11_print, cX11_print, 4, (some .int), 11)) rfl (show aTab 196 0 = some (.aload_n 0, 1, 0, 0, 0, 0, 0, 0) from rfl) rfl rfl) ?_
  refine e_then (e_getR hT (y := 196) (pc := 1) (q := (yX11_print, cX11_print, 4, (some .int), 11)) rfl (show aTab 196 1 = some (.getfield 12, 3, 0, 11, 0, 0, 0, 0) from rfl) rfl (by decide) (by decide) hM rfl rfl) ?_
  refine e_then (e_getR hT (y := 196) (pc := 4) (q := (yX11_print, cX11_print, 4, (some .int), 11)) rfl (show aTab 196 4 = some (.getfield 104, 3, 0, 1, 5, 0, 0, 0) from rfl) rfl (by decide) (by decide) hM rfl rfl) ?_
  refine e_then (e_al1 hT (y := 196) (pc := 7) (q := (yX11_print, cX11_print, 4, (some .int), 11)) rfl (show aTab 196 7 = some (.aload_n 0, 1, 0, 0, 0, 0, 0, 0) from rfl) rfl rfl) ?_
  refine e_then (e_getR hT (y := 196) (pc := 8) (q := (yX11_print, cX11_print, 4, (some .int), 11)) rfl (show aTab 196 8 = some (.getfield 12, 3, 0, 11, 0, 0, 0, 0) from rfl) rfl (by decide) (by decide) hM rfl rfl) ?_
  refine e_then (e_getR hT (y := 196) (pc := 11) (q := (yX11_print, cX11_print, 4, (some .int), 11)) rfl (show aTab 196 11 = some (.getfield 85, 3, 0, 1, 4, 0, 0, 0) from rfl) rfl (by decide) (by decide) hM rfl rfl) ?_
  refine e_then (e_il1 hT (y := 196) (pc := 14) (q := (yX11_print, cX11_print, 4, (some .int), 11)) rfl (show aTab 196 14 = some (.iload_n 1, 1, 0, 0, 0, 0, 0, 0) from rfl) rfl rfl) ?_
  refine e_then (e_il1 hT (y := 196) (pc := 15) (q := (yX11_print, cX11_print, 4, (some .int), 11)) rfl (show aTab 196 15 = some (.iload_n 2, 1, 0, 0, 0, 0, 0, 0) from rfl) rfl rfl) ?_
  refine e_then (e_il1 hT (y := 196) (pc := 16) (q := (yX11_print, cX11_print, 4, (some .int), 11)) rfl (show aTab 196 16 = some (.iload_n 3, 1, 0, 0, 0, 0, 0, 0) from rfl) rfl rfl) ?_
  refine e_then (e_al1 hT (y := 196) (pc := 17) (q := (yX11_print, cX11_print, 4, (some .int), 11)) rfl (show aTab 196 17 = some (.aload_n 0, 1, 0, 0, 0, 0, 0, 0) from rfl) rfl rfl) ?_
  refine e_then (e_getR hT (y := 196) (pc := 18) (q := (yX11_print, cX11_print, 4, (some .int), 11)) rfl (show aTab 196 18 = some (.getfield 12, 3, 0, 11, 0, 0, 0, 0) from rfl) rfl (by decide) (by decide) hM rfl rfl) ?_
  refine e_then (s_getV hT (y := 196) (pc := 21) (q := (yX11_print, cX11_print, 4, (some .int), 11)) rfl (show aTab 196 21 = some (.getfield 57, 3, 0, 1, 0, 0, 0, 0) from rfl) rfl (by decide) hM hg 1 rfl rfl (v := (g 1 0)) rfl) ?_
  refine e_then (e_call hT (y := 196) (pc := 24) (q := (yX11_print, cX11_print, 4, (some .int), 11)) rfl (show aTab 196 24 = some (.invokevirtual 108, 3, 1, 132, 0, 5, 6, 6) from rfl) rfl ⟨by decide, Nat.le_of_ble_eq_true rfl⟩ (ob_at hM (rfl : tTy 24 = some (.inr (6, _)))).choose_spec (Nat.le_of_ble_eq_true rfl) (Nat.le_of_ble_eq_true rfl) ⟨by decide, by decide⟩ q6) ?_
  exact e_fin (e_iret hT (y := 196) (pc := 27) (q := (yX11_print, cX11_print, 4, (some .int), 11)) rfl (show aTab 196 27 = some (.ireturn, 1, 0, 0, 0, 0, 0, 0) from rfl) ⟨rfl, rfl⟩) ⟨t6, s, s1, s2, rfl, s4⟩
theorem rip_run (hT : aTabOk) {M : mHe} (hM : yTy M) {g : Nat → Nat → Int32} (hg : rdI M = g) {P : Nat} (hP : g 120 5 = Int32.ofNat P) (hP2 : P ≤ 40) {p : Int32} {d : Nat} (hd : 10 ≤ d) : ∃ K, mRun none K d (249, 0, lv_args 0 [.ref 128, .int p], []) M = some (some (.int (gB (decide (0 ≤ p.toInt ∧ p.toInt < (P : Int))))), M) := by
  have eP := i32n (k := P) (by omega)
  have e1 : (1 : Int32).toInt = 1 := rfl
  have hP1 : (Int32.ofNat P - 1).toInt = (P : Int) - 1 := by rw [i32_sub (by omega) (by omega), eP, e1]
  obtain ⟨K1, q1⟩ := isIn_i hT (M := M) (v := p) (l := Int64.ofNat 0) (h := (Int32.ofNat P - 1).toInt64) (d := 9) (by decide)
  rw [show (Int64.ofNat 0).toInt = 0 from rfl, Int32.toInt_toInt64, hP1] at q1
  have e : gB (decide (0 ≤ p.toInt ∧ p.toInt ≤ (P : Int) - 1)) = gB (decide (0 ≤ p.toInt ∧ p.toInt < (P : Int))) := congrArg gB (decide_eq_decide.mpr ⟨fun z => ⟨z.1, by omega⟩, fun z => ⟨z.1, by omega⟩⟩)
  rw [e] at q1
  have go : mEv none 10 (249, 0, lv_args 0 [.ref 128, .int p], []) M (fun r M' => r = some (.int (gB (decide (0 ≤ p.toInt ∧ p.toInt < (P : Int))))) ∧ M' = M) := by
    refine e_then (e_il1 hT (y := 249) (pc := 0) (q := (yX12_isPaper, cX12_isPaper, 2, (some .boolean), 12)) rfl (show aTab 249 0 = some (.iload_n 1, 1, 0, 0, 0, 0, 0, 0) from rfl) rfl rfl) ?_
    refine e_then (e_st hT (y := 249) (pc := 1) (q := (yX12_isPaper, cX12_isPaper, 2, (some .boolean), 12)) rfl (show aTab 249 1 = some (.i2l, 1, 0, 0, 0, 0, 0, 0) from rfl) (fr' := (249, 2, (lv_args 0 [.ref 128, .int p]), [.long (p).toInt64])) (M' := M) rfl) ?_
    refine e_then (e_st hT (y := 249) (pc := 2) (q := (yX12_isPaper, cX12_isPaper, 2, (some .boolean), 12)) rfl (show aTab 249 2 = some (.lconst 0, 1, 0, 0, 0, 0, 0, 0) from rfl) (fr' := (249, 3, (lv_args 0 [.ref 128, .int p]), [.long (Int64.ofNat 0), .long (p).toInt64])) (M' := M) rfl) ?_
    refine e_then (e_al1 hT (y := 249) (pc := 3) (q := (yX12_isPaper, cX12_isPaper, 2, (some .boolean), 12)) rfl (show aTab 249 3 = some (.aload_n 0, 1, 0, 0, 0, 0, 0, 0) from rfl) rfl rfl) ?_
    refine e_then (e_getR hT (y := 249) (pc := 4) (q := (yX12_isPaper, cX12_isPaper, 2, (some .boolean), 12)) rfl (show aTab 249 4 = some (.getfield 7, 3, 0, 12, 0, 0, 0, 0) from rfl) rfl (by decide) (by decide) hM rfl rfl) ?_
    refine e_then (e_st hT (y := 249) (pc := 7) (q := (yX12_isPaper, cX12_isPaper, 2, (some .boolean), 12)) rfl (show aTab 249 7 = some (.iconst 5, 1, 0, 0, 0, 0, 0, 0) from rfl) (fr' := (249, 8, (lv_args 0 [.ref 128, .int p]), [.int 5, .ref 129, .long (Int64.ofNat 0), .long (p).toInt64])) (M' := M) rfl) ?_
    refine e_then (s_aldV hT (y := 249) (pc := 8) (q := (yX12_isPaper, cX12_isPaper, 2, (some .boolean), 12)) rfl (show aTab 249 8 = some (.iaload, 1, 0, 0, 0, 0, 0, 0) from rfl) rfl hM hg 120 5 rfl rfl (by decide) (v := (Int32.ofNat P)) (show (g 120 5) = (Int32.ofNat P) from hP)) ?_
    refine e_then (e_st hT (y := 249) (pc := 9) (q := (yX12_isPaper, cX12_isPaper, 2, (some .boolean), 12)) rfl (show aTab 249 9 = some (.iconst 1, 1, 0, 0, 0, 0, 0, 0) from rfl) (fr' := (249, 10, (lv_args 0 [.ref 128, .int p]), [.int 1, .int (Int32.ofNat P), .long (Int64.ofNat 0), .long (p).toInt64])) (M' := M) rfl) ?_
    refine e_then (e_st hT (y := 249) (pc := 10) (q := (yX12_isPaper, cX12_isPaper, 2, (some .boolean), 12)) rfl (show aTab 249 10 = some (.isub, 1, 0, 0, 0, 0, 0, 0) from rfl) (fr' := (249, 11, (lv_args 0 [.ref 128, .int p]), [.int ((Int32.ofNat P) - 1), .long (Int64.ofNat 0), .long (p).toInt64])) (M' := M) rfl) ?_
    refine e_then (e_st hT (y := 249) (pc := 11) (q := (yX12_isPaper, cX12_isPaper, 2, (some .boolean), 12)) rfl (show aTab 249 11 = some (.i2l, 1, 0, 0, 0, 0, 0, 0) from rfl) (fr' := (249, 12, (lv_args 0 [.ref 128, .int p]), [.long (((Int32.ofNat P) - 1)).toInt64, .long (Int64.ofNat 0), .long (p).toInt64])) (M' := M) rfl) ?_
    refine e_then (e_calls hT (y := 249) (pc := 12) (q := (yX12_isPaper, cX12_isPaper, 2, (some .boolean), 12)) rfl (show aTab 249 12 = some (.invokestatic 65, 3, 2, 239, 0, 3, 6, 12) from rfl) (Nat.le_of_ble_eq_true rfl) (Nat.le_of_ble_eq_true rfl) (Nat.le_of_ble_eq_true rfl) ⟨by decide, by decide⟩ q1) ?_
    exact e_fin (e_zret hT (y := 249) (pc := 15) (q := (yX12_isPaper, cX12_isPaper, 2, (some .boolean), 12)) rfl (show aTab 249 15 = some (.ireturn, 1, 0, 0, 0, 0, 0, 0) from rfl) ⟨rfl, rfl⟩ (gB_01 _)) ⟨rfl, rfl⟩
  obtain ⟨K, r, M', q, rfl, rfl⟩ := go
  exact ⟨K, mRun_dm q hd⟩
theorem rpa_run (hT : aTabOk) {M : mHe} {m : Nat} (hm : m < 40000) {d : Nat} (hd : 5 ≤ d) : ∃ K, mRun none K d (246, 0, lv_args 0 [.ref 128, .int (Int32.ofNat m)], []) M = some (some (.int (Int32.ofNat (160 + 10 * m))), M) := by
  have e1 : (160 : Int32) + 10 * Int32.ofNat m = Int32.ofNat (160 + 10 * m) := by rw [show (10 : Int32) = Int32.ofNat 10 from rfl, show (160 : Int32) = Int32.ofNat 160 from rfl, ixm (by decide) hm, oa (by omega)]
  have go : mEv none 5 (246, 0, lv_args 0 [.ref 128, .int (Int32.ofNat m)], []) M (fun r M' => r = some (.int (Int32.ofNat (160 + 10 * m))) ∧ M' = M) := by
    refine e_then (e_st hT (y := 246) (pc := 0) (q := (yX12_paperAt, cX12_paperAt, 2, (some .int), 12)) rfl (show aTab 246 0 = some (.sipush 160, 3, 0, 0, 0, 0, 0, 0) from rfl) (fr' := (246, 3, (lv_args 0 [.ref 128, .int (Int32.ofNat m)]), [.int 160])) (M' := M) rfl) ?_
    refine e_then (e_st hT (y := 246) (pc := 3) (q := (yX12_paperAt, cX12_paperAt, 2, (some .int), 12)) rfl (show aTab 246 3 = some (.bipush 10, 2, 0, 0, 0, 0, 0, 0) from rfl) (fr' := (246, 5, (lv_args 0 [.ref 128, .int (Int32.ofNat m)]), [.int 10, .int 160])) (M' := M) rfl) ?_
    refine e_then (e_il1 hT (y := 246) (pc := 5) (q := (yX12_paperAt, cX12_paperAt, 2, (some .int), 12)) rfl (show aTab 246 5 = some (.iload_n 1, 1, 0, 0, 0, 0, 0, 0) from rfl) rfl rfl) ?_
    refine e_then (e_st hT (y := 246) (pc := 6) (q := (yX12_paperAt, cX12_paperAt, 2, (some .int), 12)) rfl (show aTab 246 6 = some (.imul, 1, 0, 0, 0, 0, 0, 0) from rfl) (fr' := (246, 7, (lv_args 0 [.ref 128, .int (Int32.ofNat m)]), [.int (10 * (Int32.ofNat m)), .int 160])) (M' := M) rfl) ?_
    refine e_then (e_st hT (y := 246) (pc := 7) (q := (yX12_paperAt, cX12_paperAt, 2, (some .int), 12)) rfl (show aTab 246 7 = some (.iadd, 1, 0, 0, 0, 0, 0, 0) from rfl) (fr' := (246, 8, (lv_args 0 [.ref 128, .int (Int32.ofNat m)]), [.int (160 + (10 * (Int32.ofNat m)))])) (M' := M) rfl) ?_
    rw [e1]
    exact e_fin (e_iret hT (y := 246) (pc := 8) (q := (yX12_paperAt, cX12_paperAt, 2, (some .int), 12)) rfl (show aTab 246 8 = some (.ireturn, 1, 0, 0, 0, 0, 0, 0) from rfl) ⟨rfl, rfl⟩) ⟨rfl, rfl⟩
  obtain ⟨K, r, M', q, rfl, rfl⟩ := go
  exact ⟨K, mRun_dm q hd⟩
theorem ixh {Z c : Nat} (hZ : Z < 30) (hc : c < 3) {z : Int32} (hz : z.toInt = (c : Int)) : (((920 : Int32) + 3 * Int32.ofNat Z) + z).toInt = ((920 + c + 3 * Z : Nat) : Int) := by
  have e1 : (920 : Int32) + 3 * Int32.ofNat Z = Int32.ofNat (920 + 3 * Z) := by rw [show (3 : Int32) = Int32.ofNat 3 from rfl, show (920 : Int32) = Int32.ofNat 920 from rfl, ixm (by decide) (by omega), oa (by omega)]
  have e2 : z = Int32.ofNat c := i32eq (by rw [hz, i32n (by omega)])
  rw [e1, e2, ixp (by omega)]
  omega
theorem ixh0 {Z : Nat} (hZ : Z < 30) : ((920 : Int32) + 3 * Int32.ofNat Z).toInt = ((920 + 3 * Z : Nat) : Int) := by
  have h := ixh hZ (c := 0) (z := 0) (by decide) rfl
  rw [Int32.add_zero] at h
  exact h
theorem rpn_run (hT : aTabOk) {M : mHe} (hM : yTy M) {g : Nat → Nat → Int32} (hg : rdI M = g) {P Z : Nat} (hP : g 120 5 = Int32.ofNat P) (hP2 : P ≤ 40) (hZ : g 120 7 = Int32.ofNat Z) (hZ2 : Z ≤ 30) {p t l : Int32} : mEv none 30 (276, 0, lv_args 0 [.ref 128, .int p, .int t, .int l], []) M (fun r M' => yTy M' ∧ ∃ s, s < 4 ∧ pnC P Z p t l s ∧ r = some (.int (pnA Z s)) ∧ rdI M' = rpnG g Z p t l (g 120 0) s) := by
  have eZ := i32n (k := Z) (by omega)
  have e30 : (30 : Int32).toInt = 30 := rfl
  obtain ⟨K1, q1⟩ := rip_run hT hM hg hP hP2 (p := p) (d := 29) (by decide)
  have dT : Decidable (tgOk t) := Classical.propDecidable _
  obtain ⟨K2, q2⟩ := rtg_run hT (M := M) (a := t) (d := 29) (by decide)
  obtain ⟨K3, q3⟩ := isIn_i hT (M := M) (v := l) (l := Int64.ofNat 0) (h := Int64.ofInt 99) (d := 29) (by decide)
  rw [show (Int64.ofNat 0).toInt = 0 from rfl, show (Int64.ofInt 99).toInt = 99 from rfl] at q3
  refine e_then (e_al1 hT (y := 276) (pc := 0) (q := (yX12_print, cX12_print, 5, (some .int), 12)) rfl (show aTab 276 0 = some (.aload_n 0, 1, 0, 0, 0, 0, 0, 0) from rfl) rfl rfl) ?_
  refine e_then (e_il1 hT (y := 276) (pc := 1) (q := (yX12_print, cX12_print, 5, (some .int), 12)) rfl (show aTab 276 1 = some (.iload_n 1, 1, 0, 0, 0, 0, 0, 0) from rfl) rfl rfl) ?_
  by_cases c1 : 0 ≤ p.toInt ∧ p.toInt < (P : Int)
  · rw [gB_t c1] at q1
    refine e_then (e_call hT (y := 276) (pc := 2) (q := (yX12_print, cX12_print, 5, (some .int), 12)) rfl (show aTab 276 2 = some (.invokevirtual 77, 3, 1, 249, 0, 1, 2, 12) from rfl) rfl ⟨by decide, Nat.le_of_ble_eq_true rfl⟩ (ob_at hM (rfl : tTy 119 = some (.inr (12, _)))).choose_spec (Nat.le_of_ble_eq_true rfl) (Nat.le_of_ble_eq_true rfl) ⟨by decide, by decide⟩ q1) ?_
    refine e_then (e_ifF hT (y := 276) (pc := 5) (q := (yX12_print, cX12_print, 5, (some .int), 12)) rfl (show aTab 276 5 = some (.ifCond .eq 22, 3, 0, 0, 0, 0, 0, 0) from rfl) rfl (t := 27) rfl (cdF (by show ¬ (_ = _); decide))) ?_
    refine e_then (e_il1 hT (y := 276) (pc := 8) (q := (yX12_print, cX12_print, 5, (some .int), 12)) rfl (show aTab 276 8 = some (.iload_n 2, 1, 0, 0, 0, 0, 0, 0) from rfl) rfl rfl) ?_
    by_cases c2 : tgOk t
    · rw [gB_t c2] at q2
      refine e_then (e_calls hT (y := 276) (pc := 9) (q := (yX12_print, cX12_print, 5, (some .int), 12)) rfl (show aTab 276 9 = some (.invokestatic 157, 3, 2, 252, 0, 1, 1, 12) from rfl) (Nat.le_of_ble_eq_true rfl) (Nat.le_of_ble_eq_true rfl) (Nat.le_of_ble_eq_true rfl) ⟨by decide, by decide⟩ q2) ?_
      refine e_then (e_ifF hT (y := 276) (pc := 12) (q := (yX12_print, cX12_print, 5, (some .int), 12)) rfl (show aTab 276 12 = some (.ifCond .eq 15, 3, 0, 0, 0, 0, 0, 0) from rfl) rfl (t := 27) rfl (cdF (by show ¬ (_ = _); decide))) ?_
      refine e_then (e_il1 hT (y := 276) (pc := 15) (q := (yX12_print, cX12_print, 5, (some .int), 12)) rfl (show aTab 276 15 = some (.iload_n 3, 1, 0, 0, 0, 0, 0, 0) from rfl) rfl rfl) ?_
      refine e_then (e_st hT (y := 276) (pc := 16) (q := (yX12_print, cX12_print, 5, (some .int), 12)) rfl (show aTab 276 16 = some (.i2l, 1, 0, 0, 0, 0, 0, 0) from rfl) (fr' := (276, 17, (lv_args 0 [.ref 128, .int p, .int t, .int l]), [.long (l).toInt64])) (M' := M) rfl) ?_
      refine e_then (e_st hT (y := 276) (pc := 17) (q := (yX12_print, cX12_print, 5, (some .int), 12)) rfl (show aTab 276 17 = some (.lconst 0, 1, 0, 0, 0, 0, 0, 0) from rfl) (fr' := (276, 18, (lv_args 0 [.ref 128, .int p, .int t, .int l]), [.long (Int64.ofNat 0), .long (l).toInt64])) (M' := M) rfl) ?_
      refine e_then (e_st hT (y := 276) (pc := 18) (q := (yX12_print, cX12_print, 5, (some .int), 12)) rfl (show aTab 276 18 = some (.ldc2_w 160, 3, 8, 0, 99, 0, 0, 0) from rfl) (fr' := (276, 21, (lv_args 0 [.ref 128, .int p, .int t, .int l]), [.long (Int64.ofInt 99), .long (Int64.ofNat 0), .long (l).toInt64])) (M' := M) rfl) ?_
      by_cases c3 : 0 ≤ l.toInt ∧ l.toInt ≤ 99
      · rw [gB_t c3] at q3
        refine e_then (e_calls hT (y := 276) (pc := 21) (q := (yX12_print, cX12_print, 5, (some .int), 12)) rfl (show aTab 276 21 = some (.invokestatic 65, 3, 2, 239, 0, 3, 6, 12) from rfl) (Nat.le_of_ble_eq_true rfl) (Nat.le_of_ble_eq_true rfl) (Nat.le_of_ble_eq_true rfl) ⟨by decide, by decide⟩ q3) ?_
        refine e_then (e_ifT hT (y := 276) (pc := 24) (q := (yX12_print, cX12_print, 5, (some .int), 12)) rfl (show aTab 276 24 = some (.ifCond .ne 6, 3, 0, 0, 0, 0, 0, 0) from rfl) rfl (t := 30) rfl (cdT (by show ¬ _ = _; decide))) ?_
        refine e_then (e_al1 hT (y := 276) (pc := 30) (q := (yX12_print, cX12_print, 5, (some .int), 12)) rfl (show aTab 276 30 = some (.aload_n 0, 1, 0, 0, 0, 0, 0, 0) from rfl) rfl rfl) ?_
        refine e_then (e_getR hT (y := 276) (pc := 31) (q := (yX12_print, cX12_print, 5, (some .int), 12)) rfl (show aTab 276 31 = some (.getfield 7, 3, 0, 12, 0, 0, 0, 0) from rfl) rfl (by decide) (by decide) hM rfl rfl) ?_
        refine e_then (e_st hT (y := 276) (pc := 34) (q := (yX12_print, cX12_print, 5, (some .int), 12)) rfl (show aTab 276 34 = some (.bipush 7, 2, 0, 0, 0, 0, 0, 0) from rfl) (fr' := (276, 36, (lv_args 0 [.ref 128, .int p, .int t, .int l]), [.int 7, .ref 129])) (M' := M) rfl) ?_
        refine e_then (s_aldV hT (y := 276) (pc := 36) (q := (yX12_print, cX12_print, 5, (some .int), 12)) rfl (show aTab 276 36 = some (.iaload, 1, 0, 0, 0, 0, 0, 0) from rfl) rfl hM hg 120 7 rfl rfl (by decide) (v := (Int32.ofNat Z)) (show (g 120 7) = (Int32.ofNat Z) from hZ)) ?_
        refine e_then (e_st hT (y := 276) (pc := 37) (q := (yX12_print, cX12_print, 5, (some .int), 12)) rfl (show aTab 276 37 = some (.bipush 30, 2, 0, 0, 0, 0, 0, 0) from rfl) (fr' := (276, 39, (lv_args 0 [.ref 128, .int p, .int t, .int l]), [.int 30, .int (Int32.ofNat Z)])) (M' := M) rfl) ?_
        by_cases c4 : Z < 30
        · refine e_then (e_icT hT (y := 276) (pc := 39) (q := (yX12_print, cX12_print, 5, (some .int), 12)) rfl (show aTab 276 39 = some (.if_icmp .ne 6, 3, 0, 0, 0, 0, 0, 0) from rfl) rfl (t := 45) rfl (cdT (by show ¬ _ = _; omega))) ?_
          refine e_then (e_il1 hT (y := 276) (pc := 45) (q := (yX12_print, cX12_print, 5, (some .int), 12)) rfl (show aTab 276 45 = some (.iload_n 3, 1, 0, 0, 0, 0, 0, 0) from rfl) rfl rfl) ?_
          by_cases c5 : l = 0
          · refine e_then (e_ifF hT (y := 276) (pc := 46) (q := (yX12_print, cX12_print, 5, (some .int), 12)) rfl (show aTab 276 46 = some (.ifCond .ne 30, 3, 0, 0, 0, 0, 0, 0) from rfl) rfl (t := 76) rfl (cdF (by show ¬ (¬ _ = _); exact (by first | exact fun z => z (by rw [c5]) | exact fun z => c5 (Int32.toInt_inj.mp z))))) ?_
            refine e_then (e_al1 hT (y := 276) (pc := 49) (q := (yX12_print, cX12_print, 5, (some .int), 12)) rfl (show aTab 276 49 = some (.aload_n 0, 1, 0, 0, 0, 0, 0, 0) from rfl) rfl rfl) ?_
            refine e_then (e_getR hT (y := 276) (pc := 50) (q := (yX12_print, cX12_print, 5, (some .int), 12)) rfl (show aTab 276 50 = some (.getfield 7, 3, 0, 12, 0, 0, 0, 0) from rfl) rfl (by decide) (by decide) hM rfl rfl) ?_
            obtain ⟨pp, hpp⟩ : ∃ n : Nat, (n : Int) = p.toInt := ⟨p.toInt.toNat, by omega⟩
            have hp2 : p = Int32.ofNat pp := i32eq (by rw [i32n (by omega)]; omega)
            obtain ⟨K4, q4⟩ := rpa_run hT (M := M) (m := pp) (by omega) (d := 29) (by decide)
            rw [← hp2] at q4
            have epp : p.toInt.toNat = pp := by omega
            have ix6 : (Int32.ofNat (160 + 10 * pp) + 6).toInt = ((166 + 10 * pp : Nat) : Int) := (ixp (a := 160 + 10 * pp) (c := 6) (by omega)).trans (by omega)
            refine e_then (e_al1 hT (y := 276) (pc := 53) (q := (yX12_print, cX12_print, 5, (some .int), 12)) rfl (show aTab 276 53 = some (.aload_n 0, 1, 0, 0, 0, 0, 0, 0) from rfl) rfl rfl) ?_
            refine e_then (e_il1 hT (y := 276) (pc := 54) (q := (yX12_print, cX12_print, 5, (some .int), 12)) rfl (show aTab 276 54 = some (.iload_n 1, 1, 0, 0, 0, 0, 0, 0) from rfl) rfl rfl) ?_
            refine e_then (e_call hT (y := 276) (pc := 55) (q := (yX12_print, cX12_print, 5, (some .int), 12)) rfl (show aTab 276 55 = some (.invokevirtual 73, 3, 1, 246, 0, 1, 2, 12) from rfl) rfl ⟨by decide, Nat.le_of_ble_eq_true rfl⟩ (ob_at hM (rfl : tTy 119 = some (.inr (12, _)))).choose_spec (Nat.le_of_ble_eq_true rfl) (Nat.le_of_ble_eq_true rfl) ⟨by decide, by decide⟩ q4) ?_
            refine e_then (e_st hT (y := 276) (pc := 58) (q := (yX12_print, cX12_print, 5, (some .int), 12)) rfl (show aTab 276 58 = some (.bipush 6, 2, 0, 0, 0, 0, 0, 0) from rfl) (fr' := (276, 60, (lv_args 0 [.ref 128, .int p, .int t, .int l]), [.int 6, .int (Int32.ofNat (160 + 10 * pp)), .ref 129])) (M' := M) rfl) ?_
            refine e_then (e_st hT (y := 276) (pc := 60) (q := (yX12_print, cX12_print, 5, (some .int), 12)) rfl (show aTab 276 60 = some (.iadd, 1, 0, 0, 0, 0, 0, 0) from rfl) (fr' := (276, 61, (lv_args 0 [.ref 128, .int p, .int t, .int l]), [.int ((Int32.ofNat (160 + 10 * pp)) + 6), .ref 129])) (M' := M) rfl) ?_
            refine e_then (e_st hT (y := 276) (pc := 61) (q := (yX12_print, cX12_print, 5, (some .int), 12)) rfl (show aTab 276 61 = some (.dup2, 1, 0, 0, 0, 0, 0, 0) from rfl) (fr' := (276, 62, (lv_args 0 [.ref 128, .int p, .int t, .int l]), [.int ((Int32.ofNat (160 + 10 * pp)) + 6), .ref 129, .int ((Int32.ofNat (160 + 10 * pp)) + 6), .ref 129])) (M' := M) rfl) ?_
            refine e_then (s_ald hT (y := 276) (pc := 62) (q := (yX12_print, cX12_print, 5, (some .int), 12)) rfl (show aTab 276 62 = some (.iaload, 1, 0, 0, 0, 0, 0, 0) from rfl) rfl hM hg 120 (166 + 10 * pp) rfl ix6 (by omega)) ?_
            refine e_then (e_st hT (y := 276) (pc := 63) (q := (yX12_print, cX12_print, 5, (some .int), 12)) rfl (show aTab 276 63 = some (.iconst 1, 1, 0, 0, 0, 0, 0, 0) from rfl) (fr' := (276, 64, (lv_args 0 [.ref 128, .int p, .int t, .int l]), [.int 1, .int (g 120 (166 + 10 * pp)), .int ((Int32.ofNat (160 + 10 * pp)) + 6), .ref 129])) (M' := M) rfl) ?_
            refine e_then (e_il1 hT (y := 276) (pc := 64) (q := (yX12_print, cX12_print, 5, (some .int), 12)) rfl (show aTab 276 64 = some (.iload_n 2, 1, 0, 0, 0, 0, 0, 0) from rfl) rfl rfl) ?_
            refine e_then (e_st hT (y := 276) (pc := 65) (q := (yX12_print, cX12_print, 5, (some .int), 12)) rfl (show aTab 276 65 = some (.ishl, 1, 0, 0, 0, 0, 0, 0) from rfl) (fr' := (276, 66, (lv_args 0 [.ref 128, .int p, .int t, .int l]), [.int (1 <<< (t &&& 31)), .int (g 120 (166 + 10 * pp)), .int ((Int32.ofNat (160 + 10 * pp)) + 6), .ref 129])) (M' := M) rfl) ?_
            refine e_then (e_st hT (y := 276) (pc := 66) (q := (yX12_print, cX12_print, 5, (some .int), 12)) rfl (show aTab 276 66 = some (.ior, 1, 0, 0, 0, 0, 0, 0) from rfl) (fr' := (276, 67, (lv_args 0 [.ref 128, .int p, .int t, .int l]), [.int ((g 120 (166 + 10 * pp)) ||| (1 <<< (t &&& 31))), .int ((Int32.ofNat (160 + 10 * pp)) + 6), .ref 129])) (M' := M) rfl) ?_
            obtain ⟨m1, sm1, tm1, em1⟩ := s_asm (sc := none) (d := _) (lv := (lv_args 0 [.ref 128, .int p, .int t, .int l])) (st := []) (z := ((g 120 (166 + 10 * pp)) ||| (1 <<< (t &&& 31)))) (i := ((Int32.ofNat (160 + 10 * pp)) + 6)) (l := 0) (h := 39) (vl := (-2147483648)) (vh := 2147483647) (C := 166) (m := 10) (N := pp) hT (y := 276) (pc := 67) (q := (yX12_print, cX12_print, 5, (some .int), 12)) rfl (show aTab 276 67 = some (.iastore, 1, 0, 0, 0, 0, 0, 0) from rfl) rfl hM hg 120 rfl (by decide +kernel) (by decide) ⟨⟨by omega, by omega⟩, by omega⟩ ix6 ⟨i32_lo _, i32_hi _⟩
            refine e_then sm1 ?_
            refine e_then (e_al1 hT (y := 276) (pc := 68) (q := (yX12_print, cX12_print, 5, (some .int), 12)) rfl (show aTab 276 68 = some (.aload_n 0, 1, 0, 0, 0, 0, 0, 0) from rfl) rfl rfl) ?_
            refine e_then (e_getR hT (y := 276) (pc := 69) (q := (yX12_print, cX12_print, 5, (some .int), 12)) rfl (show aTab 276 69 = some (.getfield 7, 3, 0, 12, 0, 0, 0, 0) from rfl) rfl (by decide) (by decide) tm1 rfl rfl) ?_
            refine e_then (e_st hT (y := 276) (pc := 72) (q := (yX12_print, cX12_print, 5, (some .int), 12)) rfl (show aTab 276 72 = some (.bipush 7, 2, 0, 0, 0, 0, 0, 0) from rfl) (fr' := (276, 74, (lv_args 0 [.ref 128, .int p, .int t, .int l]), [.int 7, .ref 129])) (M' := m1) rfl) ?_
            refine e_then (s_aldV hT (y := 276) (pc := 74) (q := (yX12_print, cX12_print, 5, (some .int), 12)) rfl (show aTab 276 74 = some (.iaload, 1, 0, 0, 0, 0, 0, 0) from rfl) rfl tm1 em1 120 7 rfl rfl (by decide) (v := (Int32.ofNat Z)) (by rw [up2_k _ _ (by omega)]; exact hZ)) ?_
            refine e_fin (e_iret hT (y := 276) (pc := 75) (q := (yX12_print, cX12_print, 5, (some .int), 12)) rfl (show aTab 276 75 = some (.ireturn, 1, 0, 0, 0, 0, 0, 0) from rfl) ⟨rfl, rfl⟩) ⟨tm1, 2, by decide, ⟨⟨c1, c2, c3⟩, c4, c5⟩, rfl, ?_⟩
            show _ = up2 g 120 (166 + 10 * p.toInt.toNat) (g 120 (166 + 10 * p.toInt.toNat) ||| (1 <<< (t &&& 31)))
            rw [epp]
            exact em1
          · refine e_then (e_ifT hT (y := 276) (pc := 46) (q := (yX12_print, cX12_print, 5, (some .int), 12)) rfl (show aTab 276 46 = some (.ifCond .ne 30, 3, 0, 0, 0, 0, 0, 0) from rfl) rfl (t := 76) rfl (cdT (by show ¬ _ = _; exact (by first | exact fun z => z (by rw [c5]) | exact fun z => c5 (Int32.toInt_inj.mp z))))) ?_
            refine e_then (e_st hT (y := 276) (pc := 76) (q := (yX12_print, cX12_print, 5, (some .int), 12)) rfl (show aTab 276 76 = some (.sipush 920, 3, 0, 0, 0, 0, 0, 0) from rfl) (fr' := (276, 79, (lv_args 0 [.ref 128, .int p, .int t, .int l]), [.int 920])) (M' := M) rfl) ?_
            refine e_then (e_st hT (y := 276) (pc := 79) (q := (yX12_print, cX12_print, 5, (some .int), 12)) rfl (show aTab 276 79 = some (.iconst 3, 1, 0, 0, 0, 0, 0, 0) from rfl) (fr' := (276, 80, (lv_args 0 [.ref 128, .int p, .int t, .int l]), [.int 3, .int 920])) (M' := M) rfl) ?_
            refine e_then (e_al1 hT (y := 276) (pc := 80) (q := (yX12_print, cX12_print, 5, (some .int), 12)) rfl (show aTab 276 80 = some (.aload_n 0, 1, 0, 0, 0, 0, 0, 0) from rfl) rfl rfl) ?_
            refine e_then (e_getR hT (y := 276) (pc := 81) (q := (yX12_print, cX12_print, 5, (some .int), 12)) rfl (show aTab 276 81 = some (.getfield 7, 3, 0, 12, 0, 0, 0, 0) from rfl) rfl (by decide) (by decide) hM rfl rfl) ?_
            refine e_then (e_st hT (y := 276) (pc := 84) (q := (yX12_print, cX12_print, 5, (some .int), 12)) rfl (show aTab 276 84 = some (.bipush 7, 2, 0, 0, 0, 0, 0, 0) from rfl) (fr' := (276, 86, (lv_args 0 [.ref 128, .int p, .int t, .int l]), [.int 7, .ref 129, .int 3, .int 920])) (M' := M) rfl) ?_
            refine e_then (s_aldV hT (y := 276) (pc := 86) (q := (yX12_print, cX12_print, 5, (some .int), 12)) rfl (show aTab 276 86 = some (.iaload, 1, 0, 0, 0, 0, 0, 0) from rfl) rfl hM hg 120 7 rfl rfl (by decide) (v := (Int32.ofNat Z)) (show (g 120 7) = (Int32.ofNat Z) from hZ)) ?_
            refine e_then (e_st hT (y := 276) (pc := 87) (q := (yX12_print, cX12_print, 5, (some .int), 12)) rfl (show aTab 276 87 = some (.imul, 1, 0, 0, 0, 0, 0, 0) from rfl) (fr' := (276, 88, (lv_args 0 [.ref 128, .int p, .int t, .int l]), [.int (3 * (Int32.ofNat Z)), .int 920])) (M' := M) rfl) ?_
            refine e_then (e_st hT (y := 276) (pc := 88) (q := (yX12_print, cX12_print, 5, (some .int), 12)) rfl (show aTab 276 88 = some (.iadd, 1, 0, 0, 0, 0, 0, 0) from rfl) (fr' := (276, 89, (lv_args 0 [.ref 128, .int p, .int t, .int l]), [.int (920 + (3 * (Int32.ofNat Z)))])) (M' := M) rfl) ?_
            refine e_then (e_is2 hT (y := 276) (pc := 89) (q := (yX12_print, cX12_print, 5, (some .int), 12)) rfl (show aTab 276 89 = some (.istore 4, 2, 0, 0, 0, 0, 0, 0) from rfl) ⟨rfl, by decide⟩) ?_
            refine e_then (e_al1 hT (y := 276) (pc := 91) (q := (yX12_print, cX12_print, 5, (some .int), 12)) rfl (show aTab 276 91 = some (.aload_n 0, 1, 0, 0, 0, 0, 0, 0) from rfl) rfl (mlg_r rfl (by decide))) ?_
            refine e_then (e_getR hT (y := 276) (pc := 92) (q := (yX12_print, cX12_print, 5, (some .int), 12)) rfl (show aTab 276 92 = some (.getfield 7, 3, 0, 12, 0, 0, 0, 0) from rfl) rfl (by decide) (by decide) hM rfl rfl) ?_
            refine e_then (e_il2 hT (y := 276) (pc := 95) (q := (yX12_print, cX12_print, 5, (some .int), 12)) rfl (show aTab 276 95 = some (.iload 4, 2, 0, 0, 0, 0, 0, 0) from rfl) rfl (mlg_eq 4 _ _)) ?_
            refine e_then (e_il1 hT (y := 276) (pc := 97) (q := (yX12_print, cX12_print, 5, (some .int), 12)) rfl (show aTab 276 97 = some (.iload_n 1, 1, 0, 0, 0, 0, 0, 0) from rfl) rfl (mlg_i rfl (by decide))) ?_
            obtain ⟨m1, sm1, tm1, em1⟩ := s_asm (sc := none) (d := _) (lv := (mlp 4 (.int (920 + (3 * (Int32.ofNat Z)))) (lv_args 0 [.ref 128, .int p, .int t, .int l]))) (st := []) (z := p) (i := (920 + (3 * (Int32.ofNat Z)))) (l := 0) (h := 29) (vl := 0) (vh := 39) (C := 920) (m := 3) (N := Z) hT (y := 276) (pc := 98) (q := (yX12_print, cX12_print, 5, (some .int), 12)) rfl (show aTab 276 98 = some (.iastore, 1, 0, 0, 0, 0, 0, 0) from rfl) rfl hM hg 120 rfl (by decide +kernel) (by decide) ⟨⟨by omega, by omega⟩, by omega⟩ (ixh0 c4) ⟨c1.1, by omega⟩
            refine e_then sm1 ?_
            refine e_then (e_al1 hT (y := 276) (pc := 99) (q := (yX12_print, cX12_print, 5, (some .int), 12)) rfl (show aTab 276 99 = some (.aload_n 0, 1, 0, 0, 0, 0, 0, 0) from rfl) rfl (mlg_r rfl (by decide))) ?_
            refine e_then (e_getR hT (y := 276) (pc := 100) (q := (yX12_print, cX12_print, 5, (some .int), 12)) rfl (show aTab 276 100 = some (.getfield 7, 3, 0, 12, 0, 0, 0, 0) from rfl) rfl (by decide) (by decide) tm1 rfl rfl) ?_
            refine e_then (e_il2 hT (y := 276) (pc := 103) (q := (yX12_print, cX12_print, 5, (some .int), 12)) rfl (show aTab 276 103 = some (.iload 4, 2, 0, 0, 0, 0, 0, 0) from rfl) rfl (mlg_eq 4 _ _)) ?_
            refine e_then (e_st hT (y := 276) (pc := 105) (q := (yX12_print, cX12_print, 5, (some .int), 12)) rfl (show aTab 276 105 = some (.iconst 1, 1, 0, 0, 0, 0, 0, 0) from rfl) (fr' := (276, 106, (mlp 4 (.int (920 + (3 * (Int32.ofNat Z)))) (lv_args 0 [.ref 128, .int p, .int t, .int l])), [.int 1, .int (920 + (3 * (Int32.ofNat Z))), .ref 129])) (M' := m1) rfl) ?_
            refine e_then (e_st hT (y := 276) (pc := 106) (q := (yX12_print, cX12_print, 5, (some .int), 12)) rfl (show aTab 276 106 = some (.iadd, 1, 0, 0, 0, 0, 0, 0) from rfl) (fr' := (276, 107, (mlp 4 (.int (920 + (3 * (Int32.ofNat Z)))) (lv_args 0 [.ref 128, .int p, .int t, .int l])), [.int ((920 + (3 * (Int32.ofNat Z))) + 1), .ref 129])) (M' := m1) rfl) ?_
            refine e_then (e_il1 hT (y := 276) (pc := 107) (q := (yX12_print, cX12_print, 5, (some .int), 12)) rfl (show aTab 276 107 = some (.iload_n 2, 1, 0, 0, 0, 0, 0, 0) from rfl) rfl (mlg_i rfl (by decide))) ?_
            obtain ⟨m2, sm2, tm2, em2⟩ := s_asm (sc := none) (d := _) (lv := (mlp 4 (.int (920 + (3 * (Int32.ofNat Z)))) (lv_args 0 [.ref 128, .int p, .int t, .int l]))) (st := []) (z := t) (i := ((920 + (3 * (Int32.ofNat Z))) + 1)) (l := 0) (h := 29) (vl := 0) (vh := 6) (C := 921) (m := 3) (N := Z) hT (y := 276) (pc := 108) (q := (yX12_print, cX12_print, 5, (some .int), 12)) rfl (show aTab 276 108 = some (.iastore, 1, 0, 0, 0, 0, 0, 0) from rfl) rfl tm1 em1 120 rfl (by decide +kernel) (by decide) ⟨⟨by omega, by omega⟩, by omega⟩ (ixh (c := 1) c4 (by decide) rfl) c2
            refine e_then sm2 ?_
            refine e_then (e_al1 hT (y := 276) (pc := 109) (q := (yX12_print, cX12_print, 5, (some .int), 12)) rfl (show aTab 276 109 = some (.aload_n 0, 1, 0, 0, 0, 0, 0, 0) from rfl) rfl (mlg_r rfl (by decide))) ?_
            refine e_then (e_getR hT (y := 276) (pc := 110) (q := (yX12_print, cX12_print, 5, (some .int), 12)) rfl (show aTab 276 110 = some (.getfield 7, 3, 0, 12, 0, 0, 0, 0) from rfl) rfl (by decide) (by decide) tm2 rfl rfl) ?_
            refine e_then (e_il2 hT (y := 276) (pc := 113) (q := (yX12_print, cX12_print, 5, (some .int), 12)) rfl (show aTab 276 113 = some (.iload 4, 2, 0, 0, 0, 0, 0, 0) from rfl) rfl (mlg_eq 4 _ _)) ?_
            refine e_then (e_st hT (y := 276) (pc := 115) (q := (yX12_print, cX12_print, 5, (some .int), 12)) rfl (show aTab 276 115 = some (.iconst 2, 1, 0, 0, 0, 0, 0, 0) from rfl) (fr' := (276, 116, (mlp 4 (.int (920 + (3 * (Int32.ofNat Z)))) (lv_args 0 [.ref 128, .int p, .int t, .int l])), [.int 2, .int (920 + (3 * (Int32.ofNat Z))), .ref 129])) (M' := m2) rfl) ?_
            refine e_then (e_st hT (y := 276) (pc := 116) (q := (yX12_print, cX12_print, 5, (some .int), 12)) rfl (show aTab 276 116 = some (.iadd, 1, 0, 0, 0, 0, 0, 0) from rfl) (fr' := (276, 117, (mlp 4 (.int (920 + (3 * (Int32.ofNat Z)))) (lv_args 0 [.ref 128, .int p, .int t, .int l])), [.int ((920 + (3 * (Int32.ofNat Z))) + 2), .ref 129])) (M' := m2) rfl) ?_
            refine e_then (e_al1 hT (y := 276) (pc := 117) (q := (yX12_print, cX12_print, 5, (some .int), 12)) rfl (show aTab 276 117 = some (.aload_n 0, 1, 0, 0, 0, 0, 0, 0) from rfl) rfl (mlg_r rfl (by decide))) ?_
            refine e_then (e_getR hT (y := 276) (pc := 118) (q := (yX12_print, cX12_print, 5, (some .int), 12)) rfl (show aTab 276 118 = some (.getfield 7, 3, 0, 12, 0, 0, 0, 0) from rfl) rfl (by decide) (by decide) tm2 rfl rfl) ?_
            refine e_then (e_st hT (y := 276) (pc := 121) (q := (yX12_print, cX12_print, 5, (some .int), 12)) rfl (show aTab 276 121 = some (.iconst 0, 1, 0, 0, 0, 0, 0, 0) from rfl) (fr' := (276, 122, (mlp 4 (.int (920 + (3 * (Int32.ofNat Z)))) (lv_args 0 [.ref 128, .int p, .int t, .int l])), [.int 0, .ref 129, .int ((920 + (3 * (Int32.ofNat Z))) + 2), .ref 129])) (M' := m2) rfl) ?_
            refine e_then (s_aldV hT (y := 276) (pc := 122) (q := (yX12_print, cX12_print, 5, (some .int), 12)) rfl (show aTab 276 122 = some (.iaload, 1, 0, 0, 0, 0, 0, 0) from rfl) rfl tm2 em2 120 0 rfl rfl (by decide) (v := (g 120 0)) (by rw [up2_k _ _ (by omega), up2_k _ _ (by omega)])) ?_
            refine e_then (e_il1 hT (y := 276) (pc := 123) (q := (yX12_print, cX12_print, 5, (some .int), 12)) rfl (show aTab 276 123 = some (.iload_n 3, 1, 0, 0, 0, 0, 0, 0) from rfl) rfl (mlg_i rfl (by decide))) ?_
            refine e_then (e_st hT (y := 276) (pc := 124) (q := (yX12_print, cX12_print, 5, (some .int), 12)) rfl (show aTab 276 124 = some (.iadd, 1, 0, 0, 0, 0, 0, 0) from rfl) (fr' := (276, 125, (mlp 4 (.int (920 + (3 * (Int32.ofNat Z)))) (lv_args 0 [.ref 128, .int p, .int t, .int l])), [.int ((g 120 0) + l), .int ((920 + (3 * (Int32.ofNat Z))) + 2), .ref 129])) (M' := m2) rfl) ?_
            obtain ⟨m3, sm3, tm3, em3⟩ := s_asm (sc := none) (d := _) (lv := (mlp 4 (.int (920 + (3 * (Int32.ofNat Z)))) (lv_args 0 [.ref 128, .int p, .int t, .int l]))) (st := []) (z := ((g 120 0) + l)) (i := ((920 + (3 * (Int32.ofNat Z))) + 2)) (l := 0) (h := 29) (vl := (-2147483648)) (vh := 2147483647) (C := 922) (m := 3) (N := Z) hT (y := 276) (pc := 125) (q := (yX12_print, cX12_print, 5, (some .int), 12)) rfl (show aTab 276 125 = some (.iastore, 1, 0, 0, 0, 0, 0, 0) from rfl) rfl tm2 em2 120 rfl (by decide +kernel) (by decide) ⟨⟨by omega, by omega⟩, by omega⟩ (ixh (c := 2) c4 (by decide) rfl) ⟨i32_lo _, i32_hi _⟩
            refine e_then sm3 ?_
            refine e_then (e_al1 hT (y := 276) (pc := 126) (q := (yX12_print, cX12_print, 5, (some .int), 12)) rfl (show aTab 276 126 = some (.aload_n 0, 1, 0, 0, 0, 0, 0, 0) from rfl) rfl (mlg_r rfl (by decide))) ?_
            refine e_then (e_getR hT (y := 276) (pc := 127) (q := (yX12_print, cX12_print, 5, (some .int), 12)) rfl (show aTab 276 127 = some (.getfield 7, 3, 0, 12, 0, 0, 0, 0) from rfl) rfl (by decide) (by decide) tm3 rfl rfl) ?_
            refine e_then (e_st hT (y := 276) (pc := 130) (q := (yX12_print, cX12_print, 5, (some .int), 12)) rfl (show aTab 276 130 = some (.bipush 7, 2, 0, 0, 0, 0, 0, 0) from rfl) (fr' := (276, 132, (mlp 4 (.int (920 + (3 * (Int32.ofNat Z)))) (lv_args 0 [.ref 128, .int p, .int t, .int l])), [.int 7, .ref 129])) (M' := m3) rfl) ?_
            refine e_then (e_st hT (y := 276) (pc := 132) (q := (yX12_print, cX12_print, 5, (some .int), 12)) rfl (show aTab 276 132 = some (.dup2, 1, 0, 0, 0, 0, 0, 0) from rfl) (fr' := (276, 133, (mlp 4 (.int (920 + (3 * (Int32.ofNat Z)))) (lv_args 0 [.ref 128, .int p, .int t, .int l])), [.int 7, .ref 129, .int 7, .ref 129])) (M' := m3) rfl) ?_
            refine e_then (s_aldV hT (y := 276) (pc := 133) (q := (yX12_print, cX12_print, 5, (some .int), 12)) rfl (show aTab 276 133 = some (.iaload, 1, 0, 0, 0, 0, 0, 0) from rfl) rfl tm3 em3 120 7 rfl rfl (by decide) (v := (Int32.ofNat Z)) (by rw [up2_k _ _ (by omega), up2_k _ _ (by omega), up2_k _ _ (by omega)]; exact hZ)) ?_
            refine e_then (e_st hT (y := 276) (pc := 134) (q := (yX12_print, cX12_print, 5, (some .int), 12)) rfl (show aTab 276 134 = some (.iconst 1, 1, 0, 0, 0, 0, 0, 0) from rfl) (fr' := (276, 135, (mlp 4 (.int (920 + (3 * (Int32.ofNat Z)))) (lv_args 0 [.ref 128, .int p, .int t, .int l])), [.int 1, .int (Int32.ofNat Z), .int 7, .ref 129])) (M' := m3) rfl) ?_
            refine e_then (e_st hT (y := 276) (pc := 135) (q := (yX12_print, cX12_print, 5, (some .int), 12)) rfl (show aTab 276 135 = some (.iadd, 1, 0, 0, 0, 0, 0, 0) from rfl) (fr' := (276, 136, (mlp 4 (.int (920 + (3 * (Int32.ofNat Z)))) (lv_args 0 [.ref 128, .int p, .int t, .int l])), [.int ((Int32.ofNat Z) + 1), .int 7, .ref 129])) (M' := m3) rfl) ?_
            obtain ⟨m4, sm4, tm4, em4⟩ := s_asb (sc := none) (d := _) (lv := (mlp 4 (.int (920 + (3 * (Int32.ofNat Z)))) (lv_args 0 [.ref 128, .int p, .int t, .int l]))) (st := []) (z := ((Int32.ofNat Z) + 1)) (i := 7) (l := 7) (h := 7) (vl := 0) (vh := 30) hT (y := 276) (pc := 136) (q := (yX12_print, cX12_print, 5, (some .int), 12)) rfl (show aTab 276 136 = some (.iastore, 1, 0, 0, 0, 0, 0, 0) from rfl) rfl tm3 em3 120 7 rfl (by decide +kernel) rfl ⟨by decide, by decide⟩ ⟨by rw [ix1 (by omega)]; omega, by rw [ix1 (by omega)]; omega⟩
            refine e_then sm4 ?_
            refine e_then (e_al1 hT (y := 276) (pc := 137) (q := (yX12_print, cX12_print, 5, (some .int), 12)) rfl (show aTab 276 137 = some (.aload_n 0, 1, 0, 0, 0, 0, 0, 0) from rfl) rfl (mlg_r rfl (by decide))) ?_
            refine e_then (e_getR hT (y := 276) (pc := 138) (q := (yX12_print, cX12_print, 5, (some .int), 12)) rfl (show aTab 276 138 = some (.getfield 7, 3, 0, 12, 0, 0, 0, 0) from rfl) rfl (by decide) (by decide) tm4 rfl rfl) ?_
            refine e_then (e_st hT (y := 276) (pc := 141) (q := (yX12_print, cX12_print, 5, (some .int), 12)) rfl (show aTab 276 141 = some (.bipush 7, 2, 0, 0, 0, 0, 0, 0) from rfl) (fr' := (276, 143, (mlp 4 (.int (920 + (3 * (Int32.ofNat Z)))) (lv_args 0 [.ref 128, .int p, .int t, .int l])), [.int 7, .ref 129])) (M' := m4) rfl) ?_
            refine e_then (s_aldV hT (y := 276) (pc := 143) (q := (yX12_print, cX12_print, 5, (some .int), 12)) rfl (show aTab 276 143 = some (.iaload, 1, 0, 0, 0, 0, 0, 0) from rfl) rfl tm4 em4 120 7 rfl rfl (by decide) (v := ((Int32.ofNat Z) + 1)) rfl) ?_
            refine e_fin (e_iret hT (y := 276) (pc := 144) (q := (yX12_print, cX12_print, 5, (some .int), 12)) rfl (show aTab 276 144 = some (.ireturn, 1, 0, 0, 0, 0, 0, 0) from rfl) ⟨rfl, rfl⟩) ⟨tm4, 3, by decide, ⟨⟨c1, c2, c3⟩, c4, c5⟩, by rw [oa1 (by omega)]; rfl, ?_⟩
            rw [em4, oa1 (by omega)]
            rfl
        · refine e_then (e_icF hT (y := 276) (pc := 39) (q := (yX12_print, cX12_print, 5, (some .int), 12)) rfl (show aTab 276 39 = some (.if_icmp .ne 6, 3, 0, 0, 0, 0, 0, 0) from rfl) rfl (t := 45) rfl (cdF (by show ¬ (¬ _ = _); omega))) ?_
          refine e_then (e_st hT (y := 276) (pc := 42) (q := (yX12_print, cX12_print, 5, (some .int), 12)) rfl (show aTab 276 42 = some (.ldc 90, 2, 7, 0, (-1000000003), 0, 0, 0) from rfl) (fr' := (276, 44, (lv_args 0 [.ref 128, .int p, .int t, .int l]), [.int (-1000000003)])) (M' := M) rfl) ?_
          exact e_fin (e_iret hT (y := 276) (pc := 44) (q := (yX12_print, cX12_print, 5, (some .int), 12)) rfl (show aTab 276 44 = some (.ireturn, 1, 0, 0, 0, 0, 0, 0) from rfl) ⟨rfl, rfl⟩) ⟨hM, 1, by decide, ⟨⟨c1, c2, c3⟩, by omega⟩, rfl, hg⟩
      · rw [gB_f c3] at q3
        refine e_then (e_calls hT (y := 276) (pc := 21) (q := (yX12_print, cX12_print, 5, (some .int), 12)) rfl (show aTab 276 21 = some (.invokestatic 65, 3, 2, 239, 0, 3, 6, 12) from rfl) (Nat.le_of_ble_eq_true rfl) (Nat.le_of_ble_eq_true rfl) (Nat.le_of_ble_eq_true rfl) ⟨by decide, by decide⟩ q3) ?_
        refine e_then (e_ifF hT (y := 276) (pc := 24) (q := (yX12_print, cX12_print, 5, (some .int), 12)) rfl (show aTab 276 24 = some (.ifCond .ne 6, 3, 0, 0, 0, 0, 0, 0) from rfl) rfl (t := 30) rfl (cdF (by show ¬ (¬ _ = _); decide))) ?_
        refine e_then (e_st hT (y := 276) (pc := 27) (q := (yX12_print, cX12_print, 5, (some .int), 12)) rfl (show aTab 276 27 = some (.ldc 89, 2, 7, 0, (-1000000001), 0, 0, 0) from rfl) (fr' := (276, 29, (lv_args 0 [.ref 128, .int p, .int t, .int l]), [.int (-1000000001)])) (M' := M) rfl) ?_
        exact e_fin (e_iret hT (y := 276) (pc := 29) (q := (yX12_print, cX12_print, 5, (some .int), 12)) rfl (show aTab 276 29 = some (.ireturn, 1, 0, 0, 0, 0, 0, 0) from rfl) ⟨rfl, rfl⟩) ⟨hM, 0, by decide, (fun z => by first | exact c1 z.1 | exact c2 z.2.1 | exact c3 z.2.2), rfl, hg⟩
    · rw [gB_f c2] at q2
      refine e_then (e_calls hT (y := 276) (pc := 9) (q := (yX12_print, cX12_print, 5, (some .int), 12)) rfl (show aTab 276 9 = some (.invokestatic 157, 3, 2, 252, 0, 1, 1, 12) from rfl) (Nat.le_of_ble_eq_true rfl) (Nat.le_of_ble_eq_true rfl) (Nat.le_of_ble_eq_true rfl) ⟨by decide, by decide⟩ q2) ?_
      refine e_then (e_ifT hT (y := 276) (pc := 12) (q := (yX12_print, cX12_print, 5, (some .int), 12)) rfl (show aTab 276 12 = some (.ifCond .eq 15, 3, 0, 0, 0, 0, 0, 0) from rfl) rfl (t := 27) rfl (cdT (by show _ = _; decide))) ?_
      refine e_then (e_st hT (y := 276) (pc := 27) (q := (yX12_print, cX12_print, 5, (some .int), 12)) rfl (show aTab 276 27 = some (.ldc 89, 2, 7, 0, (-1000000001), 0, 0, 0) from rfl) (fr' := (276, 29, (lv_args 0 [.ref 128, .int p, .int t, .int l]), [.int (-1000000001)])) (M' := M) rfl) ?_
      exact e_fin (e_iret hT (y := 276) (pc := 29) (q := (yX12_print, cX12_print, 5, (some .int), 12)) rfl (show aTab 276 29 = some (.ireturn, 1, 0, 0, 0, 0, 0, 0) from rfl) ⟨rfl, rfl⟩) ⟨hM, 0, by decide, (fun z => by first | exact c1 z.1 | exact c2 z.2.1 | exact c3 z.2.2), rfl, hg⟩
  · rw [gB_f c1] at q1
    refine e_then (e_call hT (y := 276) (pc := 2) (q := (yX12_print, cX12_print, 5, (some .int), 12)) rfl (show aTab 276 2 = some (.invokevirtual 77, 3, 1, 249, 0, 1, 2, 12) from rfl) rfl ⟨by decide, Nat.le_of_ble_eq_true rfl⟩ (ob_at hM (rfl : tTy 119 = some (.inr (12, _)))).choose_spec (Nat.le_of_ble_eq_true rfl) (Nat.le_of_ble_eq_true rfl) ⟨by decide, by decide⟩ q1) ?_
    refine e_then (e_ifT hT (y := 276) (pc := 5) (q := (yX12_print, cX12_print, 5, (some .int), 12)) rfl (show aTab 276 5 = some (.ifCond .eq 22, 3, 0, 0, 0, 0, 0, 0) from rfl) rfl (t := 27) rfl (cdT (by show _ = _; decide))) ?_
    refine e_then (e_st hT (y := 276) (pc := 27) (q := (yX12_print, cX12_print, 5, (some .int), 12)) rfl (show aTab 276 27 = some (.ldc 89, 2, 7, 0, (-1000000001), 0, 0, 0) from rfl) (fr' := (276, 29, (lv_args 0 [.ref 128, .int p, .int t, .int l]), [.int (-1000000001)])) (M' := M) rfl) ?_
    exact e_fin (e_iret hT (y := 276) (pc := 29) (q := (yX12_print, cX12_print, 5, (some .int), 12)) rfl (show aTab 276 29 = some (.ireturn, 1, 0, 0, 0, 0, 0, 0) from rfl) ⟨rfl, rfl⟩) ⟨hM, 0, by decide, (fun z => by first | exact c1 z.1 | exact c2 z.2.1 | exact c3 z.2.2), rfl, hg⟩
theorem pnC_1 {P Z : Nat} (hZ : Z ≤ 30) {p t l : Int32} {s s' : Nat} (hs : s < 4) (hs' : s' < 4) (h : pnC P Z p t l s) (h' : pnC P Z p t l s') : s = s' := by
  match s, s', hs, hs', h, h' with
  | 0, 0, _, _, _, _ => rfl
  | 1, 1, _, _, _, _ => rfl
  | 2, 2, _, _, _, _ => rfl
  | 3, 3, _, _, _, _ => rfl
  | 0, 1, _, _, h, h' => exact absurd h'.1 h
  | 0, 2, _, _, h, h' => exact absurd h'.1 h
  | 0, 3, _, _, h, h' => exact absurd h'.1 h
  | 1, 0, _, _, h, h' => exact absurd h.1 h'
  | 2, 0, _, _, h, h' => exact absurd h.1 h'
  | 3, 0, _, _, h, h' => exact absurd h.1 h'
  | 1, 2, _, _, h, h' => exact absurd h.2 (by have := h'.2.1; omega)
  | 1, 3, _, _, h, h' => exact absurd h.2 (by have := h'.2.1; omega)
  | 2, 1, _, _, h, h' => exact absurd h'.2 (by have := h.2.1; omega)
  | 3, 1, _, _, h, h' => exact absurd h'.2 (by have := h.2.1; omega)
  | 2, 3, _, _, h, h' => exact absurd h.2.2 h'.2.2
  | 3, 2, _, _, h, h' => exact absurd h'.2.2 h.2.2
