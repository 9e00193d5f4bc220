/-! MINUTES GO BY -/
theorem xhm_run (hT : aTabOk) {M : mHe} (hM : yTy M) {g : Nat → Nat → Int32} (hg : rdI M = g) {N : Nat} (hN : g 2 0 = Int32.ofNat N) (hN2 : N ≤ 20) {p : Int32} {d : Nat} (hd : 5 ≤ d) : ∃ K, mRun none K d (40, 0, lv_args 0 [.ref 11, .int p], []) M = some (some (.int (gB (decide (0 ≤ p.toInt ∧ p.toInt < (N : Int))))), M) := by
  have eN := i32n (k := N) (by omega)
  have e20 : (20 : Int32).toInt = 20 := rfl
  have go : mEv none 5 (40, 0, lv_args 0 [.ref 11, .int p], []) M (fun r M' => r = some (.int (gB (decide (0 ≤ p.toInt ∧ p.toInt < (N : Int))))) ∧ M' = M) := by
    refine e_then (e_il1 hT (y := 40) (pc := 0) (q := (yX2_has, cX2_has, 2, (some .boolean), 2)) rfl (show aTab 40 0 = some (.iload_n 1, 1, 0, 0, 0, 0, 0, 0) from rfl) rfl rfl) ?_
    by_cases c1 : p.toInt < 0
    · refine e_then (e_ifT hT (y := 40) (pc := 1) (q := (yX2_has, cX2_has, 2, (some .boolean), 2)) rfl (show aTab 40 1 = some (.ifCond .lt 21, 3, 0, 0, 0, 0, 0, 0) from rfl) rfl (t := 22) rfl (cdT (by have e0 : (0 : Int32).toInt = 0 := rfl; show _ < _; omega))) ?_
      refine e_then (e_st hT (y := 40) (pc := 22) (q := (yX2_has, cX2_has, 2, (some .boolean), 2)) rfl (show aTab 40 22 = some (.iconst 0, 1, 0, 0, 0, 0, 0, 0) from rfl) (fr' := (40, 23, (lv_args 0 [.ref 11, .int p]), [.int 0])) (M' := M) rfl) ?_
      rw [gB_f (show ¬ (0 ≤ p.toInt ∧ p.toInt < (N : Int)) by omega)]
      exact e_fin (e_zret hT (y := 40) (pc := 23) (q := (yX2_has, cX2_has, 2, (some .boolean), 2)) rfl (show aTab 40 23 = some (.ireturn, 1, 0, 0, 0, 0, 0, 0) from rfl) ⟨rfl, rfl⟩ (Or.inl rfl)) ⟨rfl, rfl⟩
    · refine e_then (e_ifF hT (y := 40) (pc := 1) (q := (yX2_has, cX2_has, 2, (some .boolean), 2)) rfl (show aTab 40 1 = some (.ifCond .lt 21, 3, 0, 0, 0, 0, 0, 0) from rfl) rfl (t := 22) rfl (cdF (by have e0 : (0 : Int32).toInt = 0 := rfl; show ¬ _ < _; omega))) ?_
      refine e_then (e_il1 hT (y := 40) (pc := 4) (q := (yX2_has, cX2_has, 2, (some .boolean), 2)) rfl (show aTab 40 4 = some (.iload_n 1, 1, 0, 0, 0, 0, 0, 0) from rfl) rfl rfl) ?_
      refine e_then (e_al1 hT (y := 40) (pc := 5) (q := (yX2_has, cX2_has, 2, (some .boolean), 2)) rfl (show aTab 40 5 = some (.aload_n 0, 1, 0, 0, 0, 0, 0, 0) from rfl) rfl rfl) ?_
      refine e_then (s_getV hT (y := 40) (pc := 6) (q := (yX2_has, cX2_has, 2, (some .boolean), 2)) rfl (show aTab 40 6 = some (.getfield 36, 3, 0, 2, 0, 0, 0, 0) from rfl) rfl (by decide) hM hg 2 rfl rfl (v := (Int32.ofNat N)) (show (g 2 0) = (Int32.ofNat N) from hN)) ?_
      by_cases c2 : (N : Int) ≤ p.toInt
      · refine e_then (e_icT hT (y := 40) (pc := 9) (q := (yX2_has, cX2_has, 2, (some .boolean), 2)) rfl (show aTab 40 9 = some (.if_icmp .ge 13, 3, 0, 0, 0, 0, 0, 0) from rfl) rfl (t := 22) rfl (cdT (by show _ ≤ _; omega))) ?_
        refine e_then (e_st hT (y := 40) (pc := 22) (q := (yX2_has, cX2_has, 2, (some .boolean), 2)) rfl (show aTab 40 22 = some (.iconst 0, 1, 0, 0, 0, 0, 0, 0) from rfl) (fr' := (40, 23, (lv_args 0 [.ref 11, .int p]), [.int 0])) (M' := M) rfl) ?_
        rw [gB_f (show ¬ (0 ≤ p.toInt ∧ p.toInt < (N : Int)) by omega)]
        exact e_fin (e_zret hT (y := 40) (pc := 23) (q := (yX2_has, cX2_has, 2, (some .boolean), 2)) rfl (show aTab 40 23 = some (.ireturn, 1, 0, 0, 0, 0, 0, 0) from rfl) ⟨rfl, rfl⟩ (Or.inl rfl)) ⟨rfl, rfl⟩
      · refine e_then (e_icF hT (y := 40) (pc := 9) (q := (yX2_has, cX2_has, 2, (some .boolean), 2)) rfl (show aTab 40 9 = some (.if_icmp .ge 13, 3, 0, 0, 0, 0, 0, 0) from rfl) rfl (t := 22) rfl (cdF (by show ¬ _ ≤ _; omega))) ?_
        refine e_then (e_il1 hT (y := 40) (pc := 12) (q := (yX2_has, cX2_has, 2, (some .boolean), 2)) rfl (show aTab 40 12 = some (.iload_n 1, 1, 0, 0, 0, 0, 0, 0) from rfl) rfl rfl) ?_
        refine e_then (e_st hT (y := 40) (pc := 13) (q := (yX2_has, cX2_has, 2, (some .boolean), 2)) rfl (show aTab 40 13 = some (.bipush 20, 2, 0, 0, 0, 0, 0, 0) from rfl) (fr' := (40, 15, (lv_args 0 [.ref 11, .int p]), [.int 20, .int p])) (M' := M) rfl) ?_
        refine e_then (e_icF hT (y := 40) (pc := 15) (q := (yX2_has, cX2_has, 2, (some .boolean), 2)) rfl (show aTab 40 15 = some (.if_icmp .ge 7, 3, 0, 0, 0, 0, 0, 0) from rfl) rfl (t := 22) rfl (cdF (by show ¬ _ ≤ _; omega))) ?_
        refine e_then (e_st hT (y := 40) (pc := 18) (q := (yX2_has, cX2_has, 2, (some .boolean), 2)) rfl (show aTab 40 18 = some (.iconst 1, 1, 0, 0, 0, 0, 0, 0) from rfl) (fr' := (40, 19, (lv_args 0 [.ref 11, .int p]), [.int 1])) (M' := M) rfl) ?_
        refine e_then (e_st hT (y := 40) (pc := 19) (q := (yX2_has, cX2_has, 2, (some .boolean), 2)) rfl (show aTab 40 19 = some (.goto 4, 3, 0, 0, 0, 0, 0, 0) from rfl) (fr' := (40, 23, (lv_args 0 [.ref 11, .int p]), [.int 1])) (M' := M) rfl) ?_
        rw [gB_t (show 0 ≤ p.toInt ∧ p.toInt < (N : Int) by omega)]
        exact e_fin (e_zret hT (y := 40) (pc := 23) (q := (yX2_has, cX2_has, 2, (some .boolean), 2)) rfl (show aTab 40 23 = some (.ireturn, 1, 0, 0, 0, 0, 0, 0) from rfl) ⟨rfl, rfl⟩ (Or.inr rfl)) ⟨rfl, rfl⟩
  obtain ⟨K, r, M', q, rfl, rfl⟩ := go
  exact ⟨K, mRun_dm q hd⟩
theorem xlv_run (hT : aTabOk) {M : mHe} (hM : yTy M) {g : Nat → Nat → Int32} (hg : rdI M = g) {N : Nat} (hN : g 2 0 = Int32.ofNat N) (hN2 : N ≤ 20) {m : Nat} (hm : m < N) {a b : Int32} {d : Nat} (hd : 10 ≤ d) : ∃ K, mRun none K d (50, 0, lv_args 0 [.ref 11, .int (Int32.ofNat m), .int a, .int b], []) M = some (some (.int (gB (decide (a.toInt < (g 5 m).toInt ∧ (g 5 m).toInt ≤ b.toInt)))), M) := by
  have em := i32n (k := m) (by omega)
  obtain ⟨K1, q1⟩ := xhm_run hT hM hg hN hN2 (p := Int32.ofNat m) (d := 9) (by decide)
  rw [gB_t (show 0 ≤ (Int32.ofNat m).toInt ∧ (Int32.ofNat m).toInt < (N : Int) by omega)] at q1
  have go : mEv none 10 (50, 0, lv_args 0 [.ref 11, .int (Int32.ofNat m), .int a, .int b], []) M (fun r M' => r = some (.int (gB (decide (a.toInt < (g 5 m).toInt ∧ (g 5 m).toInt ≤ b.toInt)))) ∧ M' = M) := by
    refine e_then (e_al1 hT (y := 50) (pc := 0) (q := (yX2_leaves, cX2_leaves, 4, (some .boolean), 2)) rfl (show aTab 50 0 = some (.aload_n 0, 1, 0, 0, 0, 0, 0, 0) from rfl) rfl rfl) ?_
    refine e_then (e_il1 hT (y := 50) (pc := 1) (q := (yX2_leaves, cX2_leaves, 4, (some .boolean), 2)) rfl (show aTab 50 1 = some (.iload_n 1, 1, 0, 0, 0, 0, 0, 0) from rfl) rfl rfl) ?_
    refine e_then (e_call hT (y := 50) (pc := 2) (q := (yX2_leaves, cX2_leaves, 4, (some .boolean), 2)) rfl (show aTab 50 2 = some (.invokevirtual 54, 3, 1, 40, 0, 1, 2, 2) from rfl) rfl ⟨by decide, Nat.le_of_ble_eq_true rfl⟩ (ob_at hM (rfl : tTy 2 = some (.inr (2, _)))).choose_spec (Nat.le_of_ble_eq_true rfl) (Nat.le_of_ble_eq_true rfl) ⟨by decide, by decide⟩ q1) ?_
    refine e_then (e_ifF hT (y := 50) (pc := 5) (q := (yX2_leaves, cX2_leaves, 4, (some .boolean), 2)) rfl (show aTab 50 5 = some (.ifCond .eq 27, 3, 0, 0, 0, 0, 0, 0) from rfl) rfl (t := 32) rfl (cdF (by show ¬ (_ = _); decide))) ?_
    refine e_then (e_al1 hT (y := 50) (pc := 8) (q := (yX2_leaves, cX2_leaves, 4, (some .boolean), 2)) rfl (show aTab 50 8 = some (.aload_n 0, 1, 0, 0, 0, 0, 0, 0) from rfl) rfl rfl) ?_
    refine e_then (e_getR hT (y := 50) (pc := 9) (q := (yX2_leaves, cX2_leaves, 4, (some .boolean), 2)) rfl (show aTab 50 9 = some (.getfield 18, 3, 0, 2, 3, 0, 0, 0) from rfl) rfl (by decide) (by decide) hM rfl rfl) ?_
    refine e_then (e_il1 hT (y := 50) (pc := 12) (q := (yX2_leaves, cX2_leaves, 4, (some .boolean), 2)) rfl (show aTab 50 12 = some (.iload_n 1, 1, 0, 0, 0, 0, 0, 0) from rfl) rfl rfl) ?_
    refine e_then (s_ald hT (y := 50) (pc := 13) (q := (yX2_leaves, cX2_leaves, 4, (some .boolean), 2)) rfl (show aTab 50 13 = some (.iaload, 1, 0, 0, 0, 0, 0, 0) from rfl) rfl hM hg 5 m rfl em (by omega)) ?_
    refine e_then (e_il1 hT (y := 50) (pc := 14) (q := (yX2_leaves, cX2_leaves, 4, (some .boolean), 2)) rfl (show aTab 50 14 = some (.iload_n 2, 1, 0, 0, 0, 0, 0, 0) from rfl) rfl rfl) ?_
    by_cases c1 : (g 5 m).toInt ≤ a.toInt
    · refine e_then (e_icT hT (y := 50) (pc := 15) (q := (yX2_leaves, cX2_leaves, 4, (some .boolean), 2)) rfl (show aTab 50 15 = some (.if_icmp .le 17, 3, 0, 0, 0, 0, 0, 0) from rfl) rfl (t := 32) rfl (cdT (by show _ ≤ _; omega))) ?_
      refine e_then (e_st hT (y := 50) (pc := 32) (q := (yX2_leaves, cX2_leaves, 4, (some .boolean), 2)) rfl (show aTab 50 32 = some (.iconst 0, 1, 0, 0, 0, 0, 0, 0) from rfl) (fr' := (50, 33, (lv_args 0 [.ref 11, .int (Int32.ofNat m), .int a, .int b]), [.int 0])) (M' := M) rfl) ?_
      rw [gB_f (show ¬ (a.toInt < (g 5 m).toInt ∧ (g 5 m).toInt ≤ b.toInt) by omega)]
      exact e_fin (e_zret hT (y := 50) (pc := 33) (q := (yX2_leaves, cX2_leaves, 4, (some .boolean), 2)) rfl (show aTab 50 33 = some (.ireturn, 1, 0, 0, 0, 0, 0, 0) from rfl) ⟨rfl, rfl⟩ (Or.inl rfl)) ⟨rfl, rfl⟩
    · refine e_then (e_icF hT (y := 50) (pc := 15) (q := (yX2_leaves, cX2_leaves, 4, (some .boolean), 2)) rfl (show aTab 50 15 = some (.if_icmp .le 17, 3, 0, 0, 0, 0, 0, 0) from rfl) rfl (t := 32) rfl (cdF (by show ¬ _ ≤ _; omega))) ?_
      refine e_then (e_al1 hT (y := 50) (pc := 18) (q := (yX2_leaves, cX2_leaves, 4, (some .boolean), 2)) rfl (show aTab 50 18 = some (.aload_n 0, 1, 0, 0, 0, 0, 0, 0) from rfl) rfl rfl) ?_
      refine e_then (e_getR hT (y := 50) (pc := 19) (q := (yX2_leaves, cX2_leaves, 4, (some .boolean), 2)) rfl (show aTab 50 19 = some (.getfield 18, 3, 0, 2, 3, 0, 0, 0) from rfl) rfl (by decide) (by decide) hM rfl rfl) ?_
      refine e_then (e_il1 hT (y := 50) (pc := 22) (q := (yX2_leaves, cX2_leaves, 4, (some .boolean), 2)) rfl (show aTab 50 22 = some (.iload_n 1, 1, 0, 0, 0, 0, 0, 0) from rfl) rfl rfl) ?_
      refine e_then (s_ald hT (y := 50) (pc := 23) (q := (yX2_leaves, cX2_leaves, 4, (some .boolean), 2)) rfl (show aTab 50 23 = some (.iaload, 1, 0, 0, 0, 0, 0, 0) from rfl) rfl hM hg 5 m rfl em (by omega)) ?_
      refine e_then (e_il1 hT (y := 50) (pc := 24) (q := (yX2_leaves, cX2_leaves, 4, (some .boolean), 2)) rfl (show aTab 50 24 = some (.iload_n 3, 1, 0, 0, 0, 0, 0, 0) from rfl) rfl rfl) ?_
      by_cases c2 : b.toInt < (g 5 m).toInt
      · refine e_then (e_icT hT (y := 50) (pc := 25) (q := (yX2_leaves, cX2_leaves, 4, (some .boolean), 2)) rfl (show aTab 50 25 = some (.if_icmp .gt 7, 3, 0, 0, 0, 0, 0, 0) from rfl) rfl (t := 32) rfl (cdT (by show _ < _; omega))) ?_
        refine e_then (e_st hT (y := 50) (pc := 32) (q := (yX2_leaves, cX2_leaves, 4, (some .boolean), 2)) rfl (show aTab 50 32 = some (.iconst 0, 1, 0, 0, 0, 0, 0, 0) from rfl) (fr' := (50, 33, (lv_args 0 [.ref 11, .int (Int32.ofNat m), .int a, .int b]), [.int 0])) (M' := M) rfl) ?_
        rw [gB_f (show ¬ (a.toInt < (g 5 m).toInt ∧ (g 5 m).toInt ≤ b.toInt) by omega)]
        exact e_fin (e_zret hT (y := 50) (pc := 33) (q := (yX2_leaves, cX2_leaves, 4, (some .boolean), 2)) rfl (show aTab 50 33 = some (.ireturn, 1, 0, 0, 0, 0, 0, 0) from rfl) ⟨rfl, rfl⟩ (Or.inl rfl)) ⟨rfl, rfl⟩
      · refine e_then (e_icF hT (y := 50) (pc := 25) (q := (yX2_leaves, cX2_leaves, 4, (some .boolean), 2)) rfl (show aTab 50 25 = some (.if_icmp .gt 7, 3, 0, 0, 0, 0, 0, 0) from rfl) rfl (t := 32) rfl (cdF (by show ¬ _ < _; omega))) ?_
        refine e_then (e_st hT (y := 50) (pc := 28) (q := (yX2_leaves, cX2_leaves, 4, (some .boolean), 2)) rfl (show aTab 50 28 = some (.iconst 1, 1, 0, 0, 0, 0, 0, 0) from rfl) (fr' := (50, 29, (lv_args 0 [.ref 11, .int (Int32.ofNat m), .int a, .int b]), [.int 1])) (M' := M) rfl) ?_
        refine e_then (e_st hT (y := 50) (pc := 29) (q := (yX2_leaves, cX2_leaves, 4, (some .boolean), 2)) rfl (show aTab 50 29 = some (.goto 4, 3, 0, 0, 0, 0, 0, 0) from rfl) (fr' := (50, 33, (lv_args 0 [.ref 11, .int (Int32.ofNat m), .int a, .int b]), [.int 1])) (M' := M) rfl) ?_
        rw [gB_t (show a.toInt < (g 5 m).toInt ∧ (g 5 m).toInt ≤ b.toInt by omega)]
        exact e_fin (e_zret hT (y := 50) (pc := 33) (q := (yX2_leaves, cX2_leaves, 4, (some .boolean), 2)) rfl (show aTab 50 33 = some (.ireturn, 1, 0, 0, 0, 0, 0, 0) from rfl) ⟨rfl, rfl⟩ (Or.inr rfl)) ⟨rfl, rfl⟩
  obtain ⟨K, r, M', q, rfl, rfl⟩ := go
  exact ⟨K, mRun_dm q hd⟩
/-- who has left between -/
def lvG (g : Nat → Nat → Int32) (i : Nat) (a b : Int) : Nat → Nat → Int32 := fun c k => if c = 7 ∧ k < i ∧ a < (g 5 k).toInt ∧ (g 5 k).toInt ≤ b then 0 else g c k
theorem lvG_c {g : Nat → Nat → Int32} {i : Nat} {a b : Int} {c : Nat} (h : c ≠ 7) (k : Nat) : lvG g i a b c k = g c k := if_neg (fun z => h z.1)
theorem lvG_0 (g : Nat → Nat → Int32) (a b : Int) : lvG g 0 a b = g := by
  funext c k
  exact if_neg (fun z => by have := z.2.1; omega)
theorem lvG_s1 {g : Nat → Nat → Int32} {i : Nat} {a b : Int} (h : a < (g 5 i).toInt ∧ (g 5 i).toInt ≤ b) : up2 (lvG g i a b) 7 i 0 = lvG g (i + 1) a b := by
  funext c k
  by_cases e : c = 7 ∧ k = i
  · obtain ⟨rfl, rfl⟩ := e
    rw [up2_eq]
    exact (if_pos ⟨rfl, Nat.lt_succ_self _, h⟩).symm
  · rw [show up2 (lvG g i a b) 7 i 0 c k = lvG g i a b c k from if_neg e]
    unfold lvG
    by_cases e2 : c = 7 ∧ k < i ∧ a < (g 5 k).toInt ∧ (g 5 k).toInt ≤ b
    · rw [if_pos e2, if_pos ⟨e2.1, by have := e2.2.1; omega, e2.2.2⟩]
    · rw [if_neg e2, if_neg (fun z => e2 ⟨z.1, by have h1 := z.1; have h2 := z.2.1; have h3 : ¬ (c = 7 ∧ k = i) := e; omega, z.2.2⟩)]
theorem lvG_s0 {g : Nat → Nat → Int32} {i : Nat} {a b : Int} (h : ¬ (a < (g 5 i).toInt ∧ (g 5 i).toInt ≤ b)) : lvG g i a b = lvG g (i + 1) a b := by
  funext c k
  unfold lvG
  by_cases e2 : c = 7 ∧ k < i ∧ a < (g 5 k).toInt ∧ (g 5 k).toInt ≤ b
  · rw [if_pos e2, if_pos ⟨e2.1, by have := e2.2.1; omega, e2.2.2⟩]
  · rw [if_neg e2, if_neg (fun z => by
      by_cases e : k = i
      · subst e; exact h z.2.2
      · exact e2 ⟨z.1, by have h2 := z.2.1; omega, z.2.2⟩)]
theorem xlb_loop (hT : aTabOk) {g : Nat → Nat → Int32} {N : Nat} (hN : g 2 0 = Int32.ofNat N) (hN2 : N ≤ 20) {a b : Int32} : ∀ (d i : Nat) (lv : List (Nat × Value)) (M1 : mHe), i + d = N → yTy M1 → rdI M1 = lvG g i a.toInt b.toInt → mlg 0 lv = some (.ref 11) → mlg 1 lv = some (.int a) → mlg 2 lv = some (.int b) → mlg 3 lv = some (.int (Int32.ofNat i)) → mEv none 20 (51, 2, lv, []) M1 (fun r M' => r = none ∧ yTy M' ∧ rdI M' = lvG g N a.toInt b.toInt) := by
  have eN := i32n (k := N) (by omega)
  have e20 : (20 : Int32).toInt = 20 := rfl
  intro d
  induction d with
  | zero =>
    intro i lv M1 hd hM hI h0 h1 h2 h3
    have hd : i = N := by omega
    subst hd
    obtain ⟨g1, hg⟩ : ∃ x, x = rdI M1 := ⟨_, rfl⟩
    rw [← hg] at hI
    have hg := hg.symm
    have hN1 : g1 2 0 = Int32.ofNat i := by rw [hI, lvG_c (by decide)]; exact hN
    refine e_then (e_il1 hT (y := 51) (pc := 2) (q := (yX2_leaveBetween, cX2_leaveBetween, 4, none, 2)) rfl (show aTab 51 2 = some (.iload_n 3, 1, 0, 0, 0, 0, 0, 0) from rfl) rfl h3) ?_
    refine e_then (e_al1 hT (y := 51) (pc := 3) (q := (yX2_leaveBetween, cX2_leaveBetween, 4, none, 2)) rfl (show aTab 51 3 = some (.aload_n 0, 1, 0, 0, 0, 0, 0, 0) from rfl) rfl h0) ?_
    refine e_then (s_getV hT (y := 51) (pc := 4) (q := (yX2_leaveBetween, cX2_leaveBetween, 4, none, 2)) rfl (show aTab 51 4 = some (.getfield 36, 3, 0, 2, 0, 0, 0, 0) from rfl) rfl (by decide) hM hg 2 rfl rfl (v := (Int32.ofNat i)) (show (g1 2 0) = (Int32.ofNat i) from hN1)) ?_
    refine e_then (e_icT hT (y := 51) (pc := 7) (q := (yX2_leaveBetween, cX2_leaveBetween, 4, none, 2)) rfl (show aTab 51 7 = some (.if_icmp .ge 32, 3, 0, 0, 0, 0, 0, 0) from rfl) rfl (t := 39) rfl (cdT (Int.le_refl _))) ?_
    exact e_fin (e_vret hT (y := 51) (pc := 39) (q := (yX2_leaveBetween, cX2_leaveBetween, 4, none, 2)) rfl (show aTab 51 39 = some (.return_, 1, 0, 0, 0, 0, 0, 0) from rfl) ⟨rfl, rfl⟩) ⟨rfl, hM, hg.trans hI⟩
  | succ d ih =>
    intro i lv M1 hd hM hI h0 h1 h2 h3
    have ei := i32n (k := i) (by omega)
    have hiN : i < N := by omega
    obtain ⟨g1, hg⟩ : ∃ x, x = rdI M1 := ⟨_, rfl⟩
    rw [← hg] at hI
    have hg := hg.symm
    have hN1 : g1 2 0 = Int32.ofNat N := by rw [hI, lvG_c (by decide)]; exact hN
    have h5 : g1 5 i = g 5 i := by rw [hI, lvG_c (by decide)]
    obtain ⟨K1, q1⟩ := xlv_run hT hM hg hN1 hN2 hiN (a := a) (b := b) (d := 19) (by decide)
    rw [h5] at q1
    refine e_then (e_il1 hT (y := 51) (pc := 2) (q := (yX2_leaveBetween, cX2_leaveBetween, 4, none, 2)) rfl (show aTab 51 2 = some (.iload_n 3, 1, 0, 0, 0, 0, 0, 0) from rfl) rfl h3) ?_
    refine e_then (e_al1 hT (y := 51) (pc := 3) (q := (yX2_leaveBetween, cX2_leaveBetween, 4, none, 2)) rfl (show aTab 51 3 = some (.aload_n 0, 1, 0, 0, 0, 0, 0, 0) from rfl) rfl h0) ?_
    refine e_then (s_getV hT (y := 51) (pc := 4) (q := (yX2_leaveBetween, cX2_leaveBetween, 4, none, 2)) rfl (show aTab 51 4 = some (.getfield 36, 3, 0, 2, 0, 0, 0, 0) from rfl) rfl (by decide) hM hg 2 rfl rfl (v := (Int32.ofNat N)) (show (g1 2 0) = (Int32.ofNat N) from hN1)) ?_
    refine e_then (e_icF hT (y := 51) (pc := 7) (q := (yX2_leaveBetween, cX2_leaveBetween, 4, none, 2)) rfl (show aTab 51 7 = some (.if_icmp .ge 32, 3, 0, 0, 0, 0, 0, 0) from rfl) rfl (t := 39) rfl (cdF (by show ¬ _ ≤ _; omega))) ?_
    refine e_then (e_il1 hT (y := 51) (pc := 10) (q := (yX2_leaveBetween, cX2_leaveBetween, 4, none, 2)) rfl (show aTab 51 10 = some (.iload_n 3, 1, 0, 0, 0, 0, 0, 0) from rfl) rfl h3) ?_
    refine e_then (e_st hT (y := 51) (pc := 11) (q := (yX2_leaveBetween, cX2_leaveBetween, 4, none, 2)) rfl (show aTab 51 11 = some (.bipush 20, 2, 0, 0, 0, 0, 0, 0) from rfl) (fr' := (51, 13, lv, [.int 20, .int (Int32.ofNat i)])) (M' := M1) rfl) ?_
    refine e_then (e_icF hT (y := 51) (pc := 13) (q := (yX2_leaveBetween, cX2_leaveBetween, 4, none, 2)) rfl (show aTab 51 13 = some (.if_icmp .ge 26, 3, 0, 0, 0, 0, 0, 0) from rfl) rfl (t := 39) rfl (cdF (by show ¬ _ ≤ _; omega))) ?_
    refine e_then (e_al1 hT (y := 51) (pc := 16) (q := (yX2_leaveBetween, cX2_leaveBetween, 4, none, 2)) rfl (show aTab 51 16 = some (.aload_n 0, 1, 0, 0, 0, 0, 0, 0) from rfl) rfl h0) ?_
    refine e_then (e_il1 hT (y := 51) (pc := 17) (q := (yX2_leaveBetween, cX2_leaveBetween, 4, none, 2)) rfl (show aTab 51 17 = some (.iload_n 3, 1, 0, 0, 0, 0, 0, 0) from rfl) rfl h3) ?_
    refine e_then (e_il1 hT (y := 51) (pc := 18) (q := (yX2_leaveBetween, cX2_leaveBetween, 4, none, 2)) rfl (show aTab 51 18 = some (.iload_n 1, 1, 0, 0, 0, 0, 0, 0) from rfl) rfl h1) ?_
    refine e_then (e_il1 hT (y := 51) (pc := 19) (q := (yX2_leaveBetween, cX2_leaveBetween, 4, none, 2)) rfl (show aTab 51 19 = some (.iload_n 2, 1, 0, 0, 0, 0, 0, 0) from rfl) rfl h2) ?_
    by_cases c1 : a.toInt < (g 5 i).toInt ∧ (g 5 i).toInt ≤ b.toInt
    · rw [gB_t c1] at q1
      refine e_then (e_call hT (y := 51) (pc := 20) (q := (yX2_leaveBetween, cX2_leaveBetween, 4, none, 2)) rfl (show aTab 51 20 = some (.invokevirtual 65, 3, 1, 50, 0, 3, 4, 2) from rfl) rfl ⟨by decide, Nat.le_of_ble_eq_true rfl⟩ (ob_at hM (rfl : tTy 2 = some (.inr (2, _)))).choose_spec (Nat.le_of_ble_eq_true rfl) (Nat.le_of_ble_eq_true rfl) ⟨by decide, by decide⟩ q1) ?_
      refine e_then (e_ifF hT (y := 51) (pc := 23) (q := (yX2_leaveBetween, cX2_leaveBetween, 4, none, 2)) rfl (show aTab 51 23 = some (.ifCond .eq 10, 3, 0, 0, 0, 0, 0, 0) from rfl) rfl (t := 33) rfl (cdF (by show ¬ (_ = _); decide))) ?_
      refine e_then (e_al1 hT (y := 51) (pc := 26) (q := (yX2_leaveBetween, cX2_leaveBetween, 4, none, 2)) rfl (show aTab 51 26 = some (.aload_n 0, 1, 0, 0, 0, 0, 0, 0) from rfl) rfl h0) ?_
      refine e_then (e_getR hT (y := 51) (pc := 27) (q := (yX2_leaveBetween, cX2_leaveBetween, 4, none, 2)) rfl (show aTab 51 27 = some (.getfield 24, 3, 0, 2, 5, 0, 0, 0) from rfl) rfl (by decide) (by decide) hM rfl rfl) ?_
      refine e_then (e_il1 hT (y := 51) (pc := 30) (q := (yX2_leaveBetween, cX2_leaveBetween, 4, none, 2)) rfl (show aTab 51 30 = some (.iload_n 3, 1, 0, 0, 0, 0, 0, 0) from rfl) rfl h3) ?_
      refine e_then (e_st hT (y := 51) (pc := 31) (q := (yX2_leaveBetween, cX2_leaveBetween, 4, none, 2)) rfl (show aTab 51 31 = some (.iconst 0, 1, 0, 0, 0, 0, 0, 0) from rfl) (fr' := (51, 32, lv, [.int 0, .int (Int32.ofNat i), .ref 16])) (M' := M1) rfl) ?_
      obtain ⟨m1, sm1, tm1, em1⟩ := s_ast (sc := none) (d := _) (lv := lv) (st := []) (z := 0) (i := (Int32.ofNat i)) hT (y := 51) (pc := 32) (q := (yX2_leaveBetween, cX2_leaveBetween, 4, none, 2)) rfl (show aTab 51 32 = some (.iastore, 1, 0, 0, 0, 0, 0, 0) from rfl) rfl hM hg 7 i rfl ei (by omega)
      refine e_then sm1 ?_
      refine e_then (e_ii hT (y := 51) (pc := 33) (q := (yX2_leaveBetween, cX2_leaveBetween, 4, none, 2)) rfl (show aTab 51 33 = some (.iinc 3 1, 3, 0, 0, 0, 0, 0, 0) from rfl) ⟨rfl, by decide⟩ h3) ?_
      refine e_then (e_st hT (y := 51) (pc := 36) (q := (yX2_leaveBetween, cX2_leaveBetween, 4, none, 2)) rfl (show aTab 51 36 = some (.goto (-34), 3, 0, 0, 0, 0, 0, 0) from rfl) (fr' := (51, 2, (mlp 3 (.int ((Int32.ofNat i) + Int32.ofInt 1)) lv), [])) (M' := m1) rfl) ?_
      rw [os1 (by omega)]
      exact ih _ _ _ (by omega) tm1 (by rw [em1, hI]; exact lvG_s1 c1) (mlg_r h0 (by decide)) (mlg_i h1 (by decide)) (mlg_i h2 (by decide)) (mlg_eq 3 _ _)
    · rw [gB_f c1] at q1
      refine e_then (e_call hT (y := 51) (pc := 20) (q := (yX2_leaveBetween, cX2_leaveBetween, 4, none, 2)) rfl (show aTab 51 20 = some (.invokevirtual 65, 3, 1, 50, 0, 3, 4, 2) from rfl) rfl ⟨by decide, Nat.le_of_ble_eq_true rfl⟩ (ob_at hM (rfl : tTy 2 = some (.inr (2, _)))).choose_spec (Nat.le_of_ble_eq_true rfl) (Nat.le_of_ble_eq_true rfl) ⟨by decide, by decide⟩ q1) ?_
      refine e_then (e_ifT hT (y := 51) (pc := 23) (q := (yX2_leaveBetween, cX2_leaveBetween, 4, none, 2)) rfl (show aTab 51 23 = some (.ifCond .eq 10, 3, 0, 0, 0, 0, 0, 0) from rfl) rfl (t := 33) rfl (cdT (by show _ = _; decide))) ?_
      refine e_then (e_ii hT (y := 51) (pc := 33) (q := (yX2_leaveBetween, cX2_leaveBetween, 4, none, 2)) rfl (show aTab 51 33 = some (.iinc 3 1, 3, 0, 0, 0, 0, 0, 0) from rfl) ⟨rfl, by decide⟩ h3) ?_
      refine e_then (e_st hT (y := 51) (pc := 36) (q := (yX2_leaveBetween, cX2_leaveBetween, 4, none, 2)) rfl (show aTab 51 36 = some (.goto (-34), 3, 0, 0, 0, 0, 0, 0) from rfl) (fr' := (51, 2, (mlp 3 (.int ((Int32.ofNat i) + Int32.ofInt 1)) lv), [])) (M' := M1) rfl) ?_
      rw [os1 (by omega)]
      exact ih _ _ _ (by omega) hM (by rw [hg, hI]; exact lvG_s0 c1) (mlg_r h0 (by decide)) (mlg_i h1 (by decide)) (mlg_i h2 (by decide)) (mlg_eq 3 _ _)
theorem xlb_run (hT : aTabOk) {M : mHe} (hM : yTy M) {g : Nat → Nat → Int32} (hg : rdI M = g) {N : Nat} (hN : g 2 0 = Int32.ofNat N) (hN2 : N ≤ 20) {a b : Int32} {d : Nat} (hd : 20 ≤ d) : ∃ K M', mRun none K d (51, 0, lv_args 0 [.ref 11, .int a, .int b], []) M = some (none, M') ∧ yTy M' ∧ rdI M' = lvG g N a.toInt b.toInt := by
  have go : mEv none 20 (51, 0, lv_args 0 [.ref 11, .int a, .int b], []) M (fun r M' => r = none ∧ yTy M' ∧ rdI M' = lvG g N a.toInt b.toInt) := by
    refine e_then (e_st hT (y := 51) (pc := 0) (q := (yX2_leaveBetween, cX2_leaveBetween, 4, none, 2)) rfl (show aTab 51 0 = some (.iconst 0, 1, 0, 0, 0, 0, 0, 0) from rfl) (fr' := (51, 1, (lv_args 0 [.ref 11, .int a, .int b]), [.int 0])) (M' := M) rfl) ?_
    refine e_then (e_is1 hT (y := 51) (pc := 1) (q := (yX2_leaveBetween, cX2_leaveBetween, 4, none, 2)) rfl (show aTab 51 1 = some (.istore_n 3, 1, 0, 0, 0, 0, 0, 0) from rfl) ⟨rfl, by decide⟩) ?_
    exact xlb_loop hT hN hN2 N 0 _ M (by omega) hM (by rw [lvG_0]; exact hg) (mlg_r rfl (by decide)) (mlg_i rfl (by decide)) (mlg_i rfl (by decide)) (mlg_eq 3 _ _)
  obtain ⟨K, r, M', q, rfl, q2, q3⟩ := go
  exact ⟨K, M', mRun_dm q hd, q2, q3⟩
def rnOk (n : Int32) : Prop := 1 ≤ n.toInt ∧ n.toInt ≤ 240
/-- what goOn does, where it does -/
def xrnP (g : Nat → Nat → Int32) (N Z : Nat) (n : Int32) (g' : Nat → Nat → Int32) : Prop := ∃ ga g5 : Nat → Nat → Int32, (∀ c k, c ≠ 1 → ga c k = g c k) ∧ ga 1 0 = g 1 0 + n ∧ ga 1 1 = (if (g 1 2).toInt = 0 then g 1 1 + n else g 1 1) ∧ (∀ k, k ≠ 0 → k ≠ 1 → ga 1 k = g 1 k) ∧ xcmI ga Z (g 1 0 + n).toInt Z g5 ∧ g' = lvG (up2 g5 24 0 (Int32.ofNat ((shL (ga 25) (ga 26) (ga 27) Z).filter (shQ (g 1 0 + n).toInt)).length)) N (g 1 0).toInt (g 1 0 + n).toInt
def xrnQ (g : Nat → Nat → Int32) (N Z : Nat) (n x : Int32) (g' : Nat → Nat → Int32) : Prop := (¬ rnOk n ∧ x = -1000000001 ∧ g' = g) ∨ (rnOk n ∧ 9999 < (g 1 0 + n).toInt ∧ x = -1000000003 ∧ g' = g) ∨ (rnOk n ∧ (g 1 0 + n).toInt ≤ 9999 ∧ x = g 1 0 + n ∧ xrnP g N Z n g')
theorem xrn_run (hT : aTabOk) {M : mHe} (hM : yTy M) {g : Nat → Nat → Int32} (hg : rdI M = g) {N P Z : Nat} (hN : g 2 0 = Int32.ofNat N) (hN2 : N ≤ 20) (hP : g 11 0 = Int32.ofNat P) (hP2 : P ≤ 40) (hZ : g 24 0 = Int32.ofNat Z) (hZ2 : Z ≤ 30) (hs : ∀ i, i < Z → (0 ≤ (g 25 i).toInt ∧ (g 25 i).toInt < (P : Int)) ∧ (0 ≤ (g 26 i).toInt ∧ (g 26 i).toInt ≤ 6)) {n : Int32} : mEv none 40 (190, 0, lv_args 0 [.ref 9, .int n], []) M (fun r M' => ∃ x, r = some (.int x) ∧ yTy M' ∧ xrnQ g N Z n x (rdI M')) := by
  have e9 : (9999 : Int32).toInt = 9999 := rfl
  obtain ⟨K1, q1⟩ := within_i hT (M := M) (v := n) (l := 1) (h := 240) (d := 29) (by decide)
  rw [show (1 : Int32).toInt = 1 from rfl, show (240 : Int32).toInt = 240 from rfl] at q1
  have go : mEv none 30 (15, 0, lv_args 0 [.ref 10, .int n], []) M (fun r M' => ∃ x, r = some (.int x) ∧ yTy M' ∧ xrnQ g N Z n x (rdI M')) := by
    refine e_then (e_il1 hT (y := 15) (pc := 0) (q := (yX1_goOn, cX1_goOn, 3, (some .int), 1)) rfl (show aTab 15 0 = some (.iload_n 1, 1, 0, 0, 0, 0, 0, 0) from rfl) rfl rfl) ?_
    refine e_then (e_st hT (y := 15) (pc := 1) (q := (yX1_goOn, cX1_goOn, 3, (some .int), 1)) rfl (show aTab 15 1 = some (.iconst 1, 1, 0, 0, 0, 0, 0, 0) from rfl) (fr' := (15, 2, (lv_args 0 [.ref 10, .int n]), [.int 1, .int n])) (M' := M) rfl) ?_
    refine e_then (e_st hT (y := 15) (pc := 2) (q := (yX1_goOn, cX1_goOn, 3, (some .int), 1)) rfl (show aTab 15 2 = some (.sipush 240, 3, 0, 0, 0, 0, 0, 0) from rfl) (fr' := (15, 5, (lv_args 0 [.ref 10, .int n]), [.int 240, .int 1, .int n])) (M' := M) rfl) ?_
    by_cases c1 : 1 ≤ n.toInt ∧ n.toInt ≤ 240
    · rw [gB_t c1] at q1
      refine e_then (e_callsN hT (y := 15) (pc := 5) (q := (yX1_goOn, cX1_goOn, 3, (some .int), 1)) rfl (show aTab 15 5 = some (.invokestatic 116, 3, 3, 234, 0, 3, 3, 11) from rfl) (Nat.le_of_ble_eq_true rfl) (Nat.le_of_ble_eq_true rfl) (Nat.le_of_ble_eq_true rfl) ⟨by decide, by decide⟩ q1) ?_
      refine e_then (e_ifT hT (y := 15) (pc := 8) (q := (yX1_goOn, cX1_goOn, 3, (some .int), 1)) rfl (show aTab 15 8 = some (.ifCond .ne 6, 3, 0, 0, 0, 0, 0, 0) from rfl) rfl (t := 14) rfl (cdT (by show ¬ _ = _; decide))) ?_
      refine e_then (e_al1 hT (y := 15) (pc := 14) (q := (yX1_goOn, cX1_goOn, 3, (some .int), 1)) rfl (show aTab 15 14 = some (.aload_n 0, 1, 0, 0, 0, 0, 0, 0) from rfl) rfl rfl) ?_
      refine e_then (s_getV hT (y := 15) (pc := 15) (q := (yX1_goOn, cX1_goOn, 3, (some .int), 1)) rfl (show aTab 15 15 = some (.getfield 76, 3, 0, 1, 0, 0, 0, 0) from rfl) rfl (by decide) hM hg 1 rfl rfl (v := (g 1 0)) rfl) ?_
      refine e_then (e_il1 hT (y := 15) (pc := 18) (q := (yX1_goOn, cX1_goOn, 3, (some .int), 1)) rfl (show aTab 15 18 = some (.iload_n 1, 1, 0, 0, 0, 0, 0, 0) from rfl) rfl rfl) ?_
      refine e_then (e_st hT (y := 15) (pc := 19) (q := (yX1_goOn, cX1_goOn, 3, (some .int), 1)) rfl (show aTab 15 19 = some (.iadd, 1, 0, 0, 0, 0, 0, 0) from rfl) (fr' := (15, 20, (lv_args 0 [.ref 10, .int n]), [.int ((g 1 0) + n)])) (M' := M) rfl) ?_
      refine e_then (e_st hT (y := 15) (pc := 20) (q := (yX1_goOn, cX1_goOn, 3, (some .int), 1)) rfl (show aTab 15 20 = some (.sipush 9999, 3, 0, 0, 0, 0, 0, 0) from rfl) (fr' := (15, 23, (lv_args 0 [.ref 10, .int n]), [.int 9999, .int ((g 1 0) + n)])) (M' := M) rfl) ?_
      by_cases c2 : (g 1 0 + n).toInt ≤ 9999
      · refine e_then (e_icT hT (y := 15) (pc := 23) (q := (yX1_goOn, cX1_goOn, 3, (some .int), 1)) rfl (show aTab 15 23 = some (.if_icmp .le 6, 3, 0, 0, 0, 0, 0, 0) from rfl) rfl (t := 29) rfl (cdT (by show _ ≤ _; omega))) ?_
        refine e_then (e_al1 hT (y := 15) (pc := 29) (q := (yX1_goOn, cX1_goOn, 3, (some .int), 1)) rfl (show aTab 15 29 = some (.aload_n 0, 1, 0, 0, 0, 0, 0, 0) from rfl) rfl rfl) ?_
        refine e_then (s_getV hT (y := 15) (pc := 30) (q := (yX1_goOn, cX1_goOn, 3, (some .int), 1)) rfl (show aTab 15 30 = some (.getfield 76, 3, 0, 1, 0, 0, 0, 0) from rfl) rfl (by decide) hM hg 1 rfl rfl (v := (g 1 0)) rfl) ?_
        refine e_then (e_is1 hT (y := 15) (pc := 33) (q := (yX1_goOn, cX1_goOn, 3, (some .int), 1)) rfl (show aTab 15 33 = some (.istore_n 2, 1, 0, 0, 0, 0, 0, 0) from rfl) ⟨rfl, by decide⟩) ?_
        refine e_then (e_al1 hT (y := 15) (pc := 34) (q := (yX1_goOn, cX1_goOn, 3, (some .int), 1)) rfl (show aTab 15 34 = some (.aload_n 0, 1, 0, 0, 0, 0, 0, 0) from rfl) rfl (mlg_r rfl (by decide))) ?_
        refine e_then (e_st hT (y := 15) (pc := 35) (q := (yX1_goOn, cX1_goOn, 3, (some .int), 1)) rfl (show aTab 15 35 = some (.dup, 1, 0, 0, 0, 0, 0, 0) from rfl) (fr' := (15, 36, (mlp 2 (.int (g 1 0)) (lv_args 0 [.ref 10, .int n])), [.ref 10, .ref 10])) (M' := M) rfl) ?_
        refine e_then (s_getV hT (y := 15) (pc := 36) (q := (yX1_goOn, cX1_goOn, 3, (some .int), 1)) rfl (show aTab 15 36 = some (.getfield 76, 3, 0, 1, 0, 0, 0, 0) from rfl) rfl (by decide) hM hg 1 rfl rfl (v := (g 1 0)) rfl) ?_
        refine e_then (e_il1 hT (y := 15) (pc := 39) (q := (yX1_goOn, cX1_goOn, 3, (some .int), 1)) rfl (show aTab 15 39 = some (.iload_n 1, 1, 0, 0, 0, 0, 0, 0) from rfl) rfl (mlg_i rfl (by decide))) ?_
        refine e_then (e_st hT (y := 15) (pc := 40) (q := (yX1_goOn, cX1_goOn, 3, (some .int), 1)) rfl (show aTab 15 40 = some (.iadd, 1, 0, 0, 0, 0, 0, 0) from rfl) (fr' := (15, 41, (mlp 2 (.int (g 1 0)) (lv_args 0 [.ref 10, .int n])), [.int ((g 1 0) + n), .ref 10])) (M' := M) rfl) ?_
        obtain ⟨m1, sm1, tm1, em1⟩ := s_putI (sc := none) (d := _) (lv := (mlp 2 (.int (g 1 0)) (lv_args 0 [.ref 10, .int n]))) (st := []) (z := ((g 1 0) + n)) hT (y := 15) (pc := 41) (q := (yX1_goOn, cX1_goOn, 3, (some .int), 1)) rfl (show aTab 15 41 = some (.putfield 76, 3, 0, 1, 0, 0, 0, 0) from rfl) rfl rfl ⟨by decide, rfl, rfl⟩ hM hg 1 rfl rfl ⟨i32_lo _, i32_hi _⟩ (kn := 0) rfl
        refine e_then sm1 ?_
        refine e_then (e_al1 hT (y := 15) (pc := 44) (q := (yX1_goOn, cX1_goOn, 3, (some .int), 1)) rfl (show aTab 15 44 = some (.aload_n 0, 1, 0, 0, 0, 0, 0, 0) from rfl) rfl (mlg_r rfl (by decide))) ?_
        refine e_then (s_getV hT (y := 15) (pc := 45) (q := (yX1_goOn, cX1_goOn, 3, (some .int), 1)) rfl (show aTab 15 45 = some (.getfield 83, 3, 0, 1, 2, 0, 0, 0) from rfl) rfl (by decide) tm1 em1 1 rfl rfl (v := (g 1 2)) rfl) ?_
        by_cases c3 : (g 1 2).toInt = 0
        · refine e_then (e_ifF hT (y := 15) (pc := 48) (q := (yX1_goOn, cX1_goOn, 3, (some .int), 1)) rfl (show aTab 15 48 = some (.ifCond .ne 13, 3, 0, 0, 0, 0, 0, 0) from rfl) rfl (t := 61) rfl (cdF (by have e0 : (0 : Int32).toInt = 0 := rfl; show ¬ (¬ _ = _); omega))) ?_
          refine e_then (e_al1 hT (y := 15) (pc := 51) (q := (yX1_goOn, cX1_goOn, 3, (some .int), 1)) rfl (show aTab 15 51 = some (.aload_n 0, 1, 0, 0, 0, 0, 0, 0) from rfl) rfl (mlg_r rfl (by decide))) ?_
          refine e_then (e_st hT (y := 15) (pc := 52) (q := (yX1_goOn, cX1_goOn, 3, (some .int), 1)) rfl (show aTab 15 52 = some (.dup, 1, 0, 0, 0, 0, 0, 0) from rfl) (fr' := (15, 53, (mlp 2 (.int (g 1 0)) (lv_args 0 [.ref 10, .int n])), [.ref 10, .ref 10])) (M' := m1) rfl) ?_
          refine e_then (s_getV hT (y := 15) (pc := 53) (q := (yX1_goOn, cX1_goOn, 3, (some .int), 1)) rfl (show aTab 15 53 = some (.getfield 80, 3, 0, 1, 1, 0, 0, 0) from rfl) rfl (by decide) tm1 em1 1 rfl rfl (v := (g 1 1)) rfl) ?_
          refine e_then (e_il1 hT (y := 15) (pc := 56) (q := (yX1_goOn, cX1_goOn, 3, (some .int), 1)) rfl (show aTab 15 56 = some (.iload_n 1, 1, 0, 0, 0, 0, 0, 0) from rfl) rfl (mlg_i rfl (by decide))) ?_
          refine e_then (e_st hT (y := 15) (pc := 57) (q := (yX1_goOn, cX1_goOn, 3, (some .int), 1)) rfl (show aTab 15 57 = some (.iadd, 1, 0, 0, 0, 0, 0, 0) from rfl) (fr' := (15, 58, (mlp 2 (.int (g 1 0)) (lv_args 0 [.ref 10, .int n])), [.int ((g 1 1) + n), .ref 10])) (M' := m1) rfl) ?_
          obtain ⟨m2, sm2, tm2, em2⟩ := s_putI (sc := none) (d := _) (lv := (mlp 2 (.int (g 1 0)) (lv_args 0 [.ref 10, .int n]))) (st := []) (z := ((g 1 1) + n)) hT (y := 15) (pc := 58) (q := (yX1_goOn, cX1_goOn, 3, (some .int), 1)) rfl (show aTab 15 58 = some (.putfield 80, 3, 0, 1, 1, 0, 0, 0) from rfl) rfl rfl ⟨by decide, rfl, rfl⟩ tm1 em1 1 rfl rfl ⟨i32_lo _, i32_hi _⟩ (kn := 1) rfl
          refine e_then sm2 ?_
          refine e_then (e_al1 hT (y := 15) (pc := 61) (q := (yX1_goOn, cX1_goOn, 3, (some .int), 1)) rfl (show aTab 15 61 = some (.aload_n 0, 1, 0, 0, 0, 0, 0, 0) from rfl) rfl (mlg_r rfl (by decide))) ?_
          refine e_then (e_getR hT (y := 15) (pc := 62) (q := (yX1_goOn, cX1_goOn, 3, (some .int), 1)) rfl (show aTab 15 62 = some (.getfield 28, 3, 0, 1, 5, 0, 0, 0) from rfl) rfl (by decide) (by decide) tm2 rfl rfl) ?_
          refine e_then (e_al1 hT (y := 15) (pc := 65) (q := (yX1_goOn, cX1_goOn, 3, (some .int), 1)) rfl (show aTab 15 65 = some (.aload_n 0, 1, 0, 0, 0, 0, 0, 0) from rfl) rfl (mlg_r rfl (by decide))) ?_
          refine e_then (s_getV hT (y := 15) (pc := 66) (q := (yX1_goOn, cX1_goOn, 3, (some .int), 1)) rfl (show aTab 15 66 = some (.getfield 76, 3, 0, 1, 0, 0, 0, 0) from rfl) rfl (by decide) tm2 em2 1 rfl rfl (v := ((g 1 0) + n)) rfl) ?_
          refine e_then (e_al1 hT (y := 15) (pc := 69) (q := (yX1_goOn, cX1_goOn, 3, (some .int), 1)) rfl (show aTab 15 69 = some (.aload_n 0, 1, 0, 0, 0, 0, 0, 0) from rfl) rfl (mlg_r rfl (by decide))) ?_
          refine e_then (e_getR hT (y := 15) (pc := 70) (q := (yX1_goOn, cX1_goOn, 3, (some .int), 1)) rfl (show aTab 15 70 = some (.getfield 21, 3, 0, 1, 4, 0, 0, 0) from rfl) rfl (by decide) (by decide) tm2 rfl rfl) ?_
          obtain ⟨ga, hga⟩ : ∃ x, x = (up2 (up2 g 1 0 ((g 1 0) + n)) 1 1 ((g 1 1) + n)) := ⟨_, rfl⟩
          have ca : ∀ c k, c ≠ 1 → ga c k = g c k := fun c k h => by rw [hga, up2_c _ _ h, up2_c _ _ h]
          have a0 : ga 1 0 = g 1 0 + n := by rw [hga, up2_k _ _ (by decide), up2_eq]
          have a1 : ga 1 1 = (if (g 1 2).toInt = 0 then g 1 1 + n else g 1 1) := by rw [hga, up2_eq, if_pos c3]
          have a2 : ∀ k, k ≠ 0 → k ≠ 1 → ga 1 k = g 1 k := fun k h0 h1 => by rw [hga, up2_k _ _ h1, up2_k _ _ h0]
          have hga2 := em2.trans hga.symm
          obtain ⟨K5, M5, q5, t5, g5, i5, e5⟩ := xcm_run hT tm2 hga2 (P := P) (Z := Z) (by rw [ca 11 0 (by decide)]; exact hP) hP2 (by rw [ca 24 0 (by decide)]; exact hZ) hZ2 (fun i hi => by rw [ca 25 i (by decide), ca 26 i (by decide)]; exact hs i hi) (m := g 1 0 + n) (d := 29) (by decide)
          have h50 : g5 1 0 = g 1 0 + n := by rw [i5.1 1 0 (by decide) (by decide) (by decide) (by decide)]; exact a0
          have hN5 : g5 2 0 = Int32.ofNat N := by rw [i5.1 2 0 (by decide) (by decide) (by decide) (by decide), ca 2 0 (by decide)]; exact hN
          obtain ⟨K6, M6, q6, t6, e6⟩ := xlb_run hT t5 e5 (N := N) (by rw [up2_c _ _ (by decide)]; exact hN5) hN2 (a := g 1 0) (b := g 1 0 + n) (d := 29) (by decide)
          refine e_then (e_call hT (y := 15) (pc := 73) (q := (yX1_goOn, cX1_goOn, 3, (some .int), 1)) rfl (show aTab 15 73 = some (.invokevirtual 122, 3, 1, 133, 0, 2, 5, 6) from rfl) rfl ⟨by decide, Nat.le_of_ble_eq_true rfl⟩ (ob_at tm2 (rfl : tTy 24 = some (.inr (6, _)))).choose_spec (Nat.le_of_ble_eq_true rfl) (Nat.le_of_ble_eq_true rfl) ⟨by decide, by decide⟩ q5) ?_
          refine e_then (e_al1 hT (y := 15) (pc := 76) (q := (yX1_goOn, cX1_goOn, 3, (some .int), 1)) rfl (show aTab 15 76 = some (.aload_n 0, 1, 0, 0, 0, 0, 0, 0) from rfl) rfl (mlg_r rfl (by decide))) ?_
          refine e_then (e_getR hT (y := 15) (pc := 77) (q := (yX1_goOn, cX1_goOn, 3, (some .int), 1)) rfl (show aTab 15 77 = some (.getfield 12, 3, 0, 1, 3, 0, 0, 0) from rfl) rfl (by decide) (by decide) t5 rfl rfl) ?_
          refine e_then (e_il1 hT (y := 15) (pc := 80) (q := (yX1_goOn, cX1_goOn, 3, (some .int), 1)) rfl (show aTab 15 80 = some (.iload_n 2, 1, 0, 0, 0, 0, 0, 0) from rfl) rfl (mlg_eq 2 _ _)) ?_
          refine e_then (e_al1 hT (y := 15) (pc := 81) (q := (yX1_goOn, cX1_goOn, 3, (some .int), 1)) rfl (show aTab 15 81 = some (.aload_n 0, 1, 0, 0, 0, 0, 0, 0) from rfl) rfl (mlg_r rfl (by decide))) ?_
          refine e_then (s_getV hT (y := 15) (pc := 82) (q := (yX1_goOn, cX1_goOn, 3, (some .int), 1)) rfl (show aTab 15 82 = some (.getfield 76, 3, 0, 1, 0, 0, 0, 0) from rfl) rfl (by decide) t5 e5 1 rfl rfl (v := ((g 1 0) + n)) (show ((up2 g5 24 0 (Int32.ofNat ((shL (ga 25) (ga 26) (ga 27) Z).filter (shQ (g 1 0 + n).toInt)).length)) 1 0) = ((g 1 0) + n) from h50)) ?_
          refine e_then (e_call hT (y := 15) (pc := 85) (q := (yX1_goOn, cX1_goOn, 3, (some .int), 1)) rfl (show aTab 15 85 = some (.invokevirtual 126, 3, 1, 51, 0, 2, 4, 2) from rfl) rfl ⟨by decide, Nat.le_of_ble_eq_true rfl⟩ (ob_at t5 (rfl : tTy 2 = some (.inr (2, _)))).choose_spec (Nat.le_of_ble_eq_true rfl) (Nat.le_of_ble_eq_true rfl) ⟨by decide, by decide⟩ q6) ?_
          refine e_then (e_al1 hT (y := 15) (pc := 88) (q := (yX1_goOn, cX1_goOn, 3, (some .int), 1)) rfl (show aTab 15 88 = some (.aload_n 0, 1, 0, 0, 0, 0, 0, 0) from rfl) rfl (mlg_r rfl (by decide))) ?_
          refine e_then (s_getV hT (y := 15) (pc := 89) (q := (yX1_goOn, cX1_goOn, 3, (some .int), 1)) rfl (show aTab 15 89 = some (.getfield 76, 3, 0, 1, 0, 0, 0, 0) from rfl) rfl (by decide) t6 e6 1 rfl rfl (v := ((g 1 0) + n)) (show ((lvG (up2 g5 24 0 (Int32.ofNat ((shL (ga 25) (ga 26) (ga 27) Z).filter (shQ (g 1 0 + n).toInt)).length)) N (g 1 0).toInt (g 1 0 + n).toInt) 1 0) = ((g 1 0) + n) from (by rw [lvG_c (by decide), up2_c _ _ (by decide)]; exact h50))) ?_
          exact e_fin (e_iret hT (y := 15) (pc := 92) (q := (yX1_goOn, cX1_goOn, 3, (some .int), 1)) rfl (show aTab 15 92 = some (.ireturn, 1, 0, 0, 0, 0, 0, 0) from rfl) ⟨rfl, rfl⟩) ⟨_, rfl, t6, Or.inr (Or.inr ⟨c1, c2, rfl, ga, g5, ca, a0, a1, a2, i5, e6⟩)⟩
        · refine e_then (e_ifT hT (y := 15) (pc := 48) (q := (yX1_goOn, cX1_goOn, 3, (some .int), 1)) rfl (show aTab 15 48 = some (.ifCond .ne 13, 3, 0, 0, 0, 0, 0, 0) from rfl) rfl (t := 61) rfl (cdT (by have e0 : (0 : Int32).toInt = 0 := rfl; show ¬ _ = _; omega))) ?_
          refine e_then (e_al1 hT (y := 15) (pc := 61) (q := (yX1_goOn, cX1_goOn, 3, (some .int), 1)) rfl (show aTab 15 61 = some (.aload_n 0, 1, 0, 0, 0, 0, 0, 0) from rfl) rfl (mlg_r rfl (by decide))) ?_
          refine e_then (e_getR hT (y := 15) (pc := 62) (q := (yX1_goOn, cX1_goOn, 3, (some .int), 1)) rfl (show aTab 15 62 = some (.getfield 28, 3, 0, 1, 5, 0, 0, 0) from rfl) rfl (by decide) (by decide) tm1 rfl rfl) ?_
          refine e_then (e_al1 hT (y := 15) (pc := 65) (q := (yX1_goOn, cX1_goOn, 3, (some .int), 1)) rfl (show aTab 15 65 = some (.aload_n 0, 1, 0, 0, 0, 0, 0, 0) from rfl) rfl (mlg_r rfl (by decide))) ?_
          refine e_then (s_getV hT (y := 15) (pc := 66) (q := (yX1_goOn, cX1_goOn, 3, (some .int), 1)) rfl (show aTab 15 66 = some (.getfield 76, 3, 0, 1, 0, 0, 0, 0) from rfl) rfl (by decide) tm1 em1 1 rfl rfl (v := ((g 1 0) + n)) rfl) ?_
          refine e_then (e_al1 hT (y := 15) (pc := 69) (q := (yX1_goOn, cX1_goOn, 3, (some .int), 1)) rfl (show aTab 15 69 = some (.aload_n 0, 1, 0, 0, 0, 0, 0, 0) from rfl) rfl (mlg_r rfl (by decide))) ?_
          refine e_then (e_getR hT (y := 15) (pc := 70) (q := (yX1_goOn, cX1_goOn, 3, (some .int), 1)) rfl (show aTab 15 70 = some (.getfield 21, 3, 0, 1, 4, 0, 0, 0) from rfl) rfl (by decide) (by decide) tm1 rfl rfl) ?_
          obtain ⟨ga, hga⟩ : ∃ x, x = (up2 g 1 0 ((g 1 0) + n)) := ⟨_, rfl⟩
          have ca : ∀ c k, c ≠ 1 → ga c k = g c k := fun c k h => by rw [hga, up2_c _ _ h]
          have a0 : ga 1 0 = g 1 0 + n := by rw [hga, up2_eq]
          have a1 : ga 1 1 = (if (g 1 2).toInt = 0 then g 1 1 + n else g 1 1) := by rw [hga, up2_k _ _ (by decide), if_neg c3]
          have a2 : ∀ k, k ≠ 0 → k ≠ 1 → ga 1 k = g 1 k := fun k h0 h1 => by rw [hga, up2_k _ _ h0]
          have hga2 := em1.trans hga.symm
          obtain ⟨K5, M5, q5, t5, g5, i5, e5⟩ := xcm_run hT tm1 hga2 (P := P) (Z := Z) (by rw [ca 11 0 (by decide)]; exact hP) hP2 (by rw [ca 24 0 (by decide)]; exact hZ) hZ2 (fun i hi => by rw [ca 25 i (by decide), ca 26 i (by decide)]; exact hs i hi) (m := g 1 0 + n) (d := 29) (by decide)
          have h50 : g5 1 0 = g 1 0 + n := by rw [i5.1 1 0 (by decide) (by decide) (by decide) (by decide)]; exact a0
          have hN5 : g5 2 0 = Int32.ofNat N := by rw [i5.1 2 0 (by decide) (by decide) (by decide) (by decide), ca 2 0 (by decide)]; exact hN
          obtain ⟨K6, M6, q6, t6, e6⟩ := xlb_run hT t5 e5 (N := N) (by rw [up2_c _ _ (by decide)]; exact hN5) hN2 (a := g 1 0) (b := g 1 0 + n) (d := 29) (by decide)
          refine e_then (e_call hT (y := 15) (pc := 73) (q := (yX1_goOn, cX1_goOn, 3, (some .int), 1)) rfl (show aTab 15 73 = some (.invokevirtual 122, 3, 1, 133, 0, 2, 5, 6) from rfl) rfl ⟨by decide, Nat.le_of_ble_eq_true rfl⟩ (ob_at tm1 (rfl : tTy 24 = some (.inr (6, _)))).choose_spec (Nat.le_of_ble_eq_true rfl) (Nat.le_of_ble_eq_true rfl) ⟨by decide, by decide⟩ q5) ?_
          refine e_then (e_al1 hT (y := 15) (pc := 76) (q := (yX1_goOn, cX1_goOn, 3, (some .int), 1)) rfl (show aTab 15 76 = some (.aload_n 0, 1, 0, 0, 0, 0, 0, 0) from rfl) rfl (mlg_r rfl (by decide))) ?_
          refine e_then (e_getR hT (y := 15) (pc := 77) (q := (yX1_goOn, cX1_goOn, 3, (some .int), 1)) rfl (show aTab 15 77 = some (.getfield 12, 3, 0, 1, 3, 0, 0, 0) from rfl) rfl (by decide) (by decide) t5 rfl rfl) ?_
          refine e_then (e_il1 hT (y := 15) (pc := 80) (q := (yX1_goOn, cX1_goOn, 3, (some .int), 1)) rfl (show aTab 15 80 = some (.iload_n 2, 1, 0, 0, 0, 0, 0, 0) from rfl) rfl (mlg_eq 2 _ _)) ?_
          refine e_then (e_al1 hT (y := 15) (pc := 81) (q := (yX1_goOn, cX1_goOn, 3, (some .int), 1)) rfl (show aTab 15 81 = some (.aload_n 0, 1, 0, 0, 0, 0, 0, 0) from rfl) rfl (mlg_r rfl (by decide))) ?_
          refine e_then (s_getV hT (y := 15) (pc := 82) (q := (yX1_goOn, cX1_goOn, 3, (some .int), 1)) rfl (show aTab 15 82 = some (.getfield 76, 3, 0, 1, 0, 0, 0, 0) from rfl) rfl (by decide) t5 e5 1 rfl rfl (v := ((g 1 0) + n)) (show ((up2 g5 24 0 (Int32.ofNat ((shL (ga 25) (ga 26) (ga 27) Z).filter (shQ (g 1 0 + n).toInt)).length)) 1 0) = ((g 1 0) + n) from h50)) ?_
          refine e_then (e_call hT (y := 15) (pc := 85) (q := (yX1_goOn, cX1_goOn, 3, (some .int), 1)) rfl (show aTab 15 85 = some (.invokevirtual 126, 3, 1, 51, 0, 2, 4, 2) from rfl) rfl ⟨by decide, Nat.le_of_ble_eq_true rfl⟩ (ob_at t5 (rfl : tTy 2 = some (.inr (2, _)))).choose_spec (Nat.le_of_ble_eq_true rfl) (Nat.le_of_ble_eq_true rfl) ⟨by decide, by decide⟩ q6) ?_
          refine e_then (e_al1 hT (y := 15) (pc := 88) (q := (yX1_goOn, cX1_goOn, 3, (some .int), 1)) rfl (show aTab 15 88 = some (.aload_n 0, 1, 0, 0, 0, 0, 0, 0) from rfl) rfl (mlg_r rfl (by decide))) ?_
          refine e_then (s_getV hT (y := 15) (pc := 89) (q := (yX1_goOn, cX1_goOn, 3, (some .int), 1)) rfl (show aTab 15 89 = some (.getfield 76, 3, 0, 1, 0, 0, 0, 0) from rfl) rfl (by decide) t6 e6 1 rfl rfl (v := ((g 1 0) + n)) (show ((lvG (up2 g5 24 0 (Int32.ofNat ((shL (ga 25) (ga 26) (ga 27) Z).filter (shQ (g 1 0 + n).toInt)).length)) N (g 1 0).toInt (g 1 0 + n).toInt) 1 0) = ((g 1 0) + n) from (by rw [lvG_c (by decide), up2_c _ _ (by decide)]; exact h50))) ?_
          exact e_fin (e_iret hT (y := 15) (pc := 92) (q := (yX1_goOn, cX1_goOn, 3, (some .int), 1)) rfl (show aTab 15 92 = some (.ireturn, 1, 0, 0, 0, 0, 0, 0) from rfl) ⟨rfl, rfl⟩) ⟨_, rfl, t6, Or.inr (Or.inr ⟨c1, c2, rfl, ga, g5, ca, a0, a1, a2, i5, e6⟩)⟩
      · refine e_then (e_icF hT (y := 15) (pc := 23) (q := (yX1_goOn, cX1_goOn, 3, (some .int), 1)) rfl (show aTab 15 23 = some (.if_icmp .le 6, 3, 0, 0, 0, 0, 0, 0) from rfl) rfl (t := 29) rfl (cdF (by show ¬ _ ≤ _; omega))) ?_
        refine e_then (e_st hT (y := 15) (pc := 26) (q := (yX1_goOn, cX1_goOn, 3, (some .int), 1)) rfl (show aTab 15 26 = some (.ldc 121, 2, 7, 0, (-1000000003), 0, 0, 0) from rfl) (fr' := (15, 28, (lv_args 0 [.ref 10, .int n]), [.int (-1000000003)])) (M' := M) rfl) ?_
        exact e_fin (e_iret hT (y := 15) (pc := 28) (q := (yX1_goOn, cX1_goOn, 3, (some .int), 1)) rfl (show aTab 15 28 = some (.ireturn, 1, 0, 0, 0, 0, 0, 0) from rfl) ⟨rfl, rfl⟩) ⟨_, rfl, hM, Or.inr (Or.inl ⟨c1, by omega, rfl, hg⟩)⟩
    · rw [gB_f c1] at q1
      refine e_then (e_callsN hT (y := 15) (pc := 5) (q := (yX1_goOn, cX1_goOn, 3, (some .int), 1)) rfl (show aTab 15 5 = some (.invokestatic 116, 3, 3, 234, 0, 3, 3, 11) from rfl) (Nat.le_of_ble_eq_true rfl) (Nat.le_of_ble_eq_true rfl) (Nat.le_of_ble_eq_true rfl) ⟨by decide, by decide⟩ q1) ?_
      refine e_then (e_ifF hT (y := 15) (pc := 8) (q := (yX1_goOn, cX1_goOn, 3, (some .int), 1)) rfl (show aTab 15 8 = some (.ifCond .ne 6, 3, 0, 0, 0, 0, 0, 0) from rfl) rfl (t := 14) rfl (cdF (by show ¬ (¬ _ = _); decide))) ?_
      refine e_then (e_st hT (y := 15) (pc := 11) (q := (yX1_goOn, cX1_goOn, 3, (some .int), 1)) rfl (show aTab 15 11 = some (.ldc 120, 2, 7, 0, (-1000000001), 0, 0, 0) from rfl) (fr' := (15, 13, (lv_args 0 [.ref 10, .int n]), [.int (-1000000001)])) (M' := M) rfl) ?_
      exact e_fin (e_iret hT (y := 15) (pc := 13) (q := (yX1_goOn, cX1_goOn, 3, (some .int), 1)) rfl (show aTab 15 13 = some (.ireturn, 1, 0, 0, 0, 0, 0, 0) from rfl) ⟨rfl, rfl⟩) ⟨_, rfl, hM, Or.inl ⟨c1, rfl, hg⟩⟩
  obtain ⟨K6, r6, M6, q6, x, rfl, t6, f6⟩ := go
  have q6 := mRun_dm q6 (show 30 ≤ 39 by decide)
  refine e_then (e_al1 hT (y := 190) (pc := 0) (q := (yX11_run, cX11_run, 2, (some .int), 11)) rfl (show aTab 190 0 = some (.aload_n 0, 1, 0, 0, 0, 0, 0, 0) from rfl) rfl rfl) ?_
  refine e_then (e_getR hT (y := 190) (pc := 1) (q := (yX11_run, cX11_run, 2, (some .int), 11)) rfl (show aTab 190 1 = some (.getfield 12, 3, 0, 11, 0, 0, 0, 0) from rfl) rfl (by decide) (by decide) hM rfl rfl) ?_
  refine e_then (e_il1 hT (y := 190) (pc := 4) (q := (yX11_run, cX11_run, 2, (some .int), 11)) rfl (show aTab 190 4 = some (.iload_n 1, 1, 0, 0, 0, 0, 0, 0) from rfl) rfl rfl) ?_
  refine e_then (e_call hT (y := 190) (pc := 5) (q := (yX11_run, cX11_run, 2, (some .int), 11)) rfl (show aTab 190 5 = some (.invokevirtual 82, 3, 1, 15, 0, 1, 3, 1) from rfl) rfl ⟨by decide, Nat.le_of_ble_eq_true rfl⟩ (ob_at hM (rfl : tTy 1 = some (.inr (1, _)))).choose_spec (Nat.le_of_ble_eq_true rfl) (Nat.le_of_ble_eq_true rfl) ⟨by decide, by decide⟩ q6) ?_
  exact e_fin (e_iret hT (y := 190) (pc := 8) (q := (yX11_run, cX11_run, 2, (some .int), 11)) rfl (show aTab 190 8 = some (.ireturn, 1, 0, 0, 0, 0, 0, 0) from rfl) ⟨rfl, rfl⟩) ⟨x, rfl, t6, f6⟩
/-! MINUTES GO BY THERE -/
def rvG (g : Nat → Nat → Int32) (i : Nat) (m : Int32) : Nat → Nat → Int32 := fun c k => if c = 120 ∧ 20 ≤ k ∧ k < 20 + 5 * i ∧ k % 5 = 3 ∧ g 120 (k - 1) = m then 0 else g c k
theorem rvG_c {g : Nat → Nat → Int32} {i : Nat} {m : Int32} {c : Nat} (h : c ≠ 120) (k : Nat) : rvG g i m c k = g c k := if_neg (fun z => h z.1)
theorem rvG_k {g : Nat → Nat → Int32} {i : Nat} {m : Int32} {k : Nat} (h : k < 20 ∨ 20 + 5 * i ≤ k ∨ k % 5 ≠ 3) : rvG g i m 120 k = g 120 k := if_neg (fun z => by have h1 := z.2.1; have h2 := z.2.2.1; have h3 := z.2.2.2.1; omega)
theorem rvG_0 (g : Nat → Nat → Int32) (m : Int32) : rvG g 0 m = g := by
  funext c k
  exact if_neg (fun z => by have := z.2.1; have := z.2.2.1; omega)
theorem rvG_s (g : Nat → Nat → Int32) (i : Nat) (m z : Int32) (hz : z = if g 120 (22 + 5 * i) = m then 0 else g 120 (23 + 5 * i)) : up2 (rvG g i m) 120 (23 + 5 * i) z = rvG g (i + 1) m := by
  funext c k
  by_cases e : c = 120 ∧ k = 23 + 5 * i
  · obtain ⟨rfl, rfl⟩ := e
    rw [up2_eq, hz]
    unfold rvG
    by_cases h : g 120 (22 + 5 * i) = m
    · rw [if_pos h, if_pos ⟨rfl, by omega, by omega, by omega, by rw [show 23 + 5 * i - 1 = 22 + 5 * i by omega]; exact h⟩]
    · rw [if_neg h, if_neg (fun z => h (by have h2 := z.2.2.2.2; rw [show 23 + 5 * i - 1 = 22 + 5 * i by omega] at h2; exact h2))]
  · rw [show up2 (rvG g i m) 120 (23 + 5 * i) z c k = rvG g i m c k from if_neg e]
    unfold rvG
    by_cases e2 : c = 120 ∧ 20 ≤ k ∧ k < 20 + 5 * i ∧ k % 5 = 3 ∧ g 120 (k - 1) = m
    · rw [if_pos e2, if_pos ⟨e2.1, e2.2.1, by have := e2.2.2.1; omega, e2.2.2.2⟩]
    · rw [if_neg e2, if_neg (fun z => e2 ⟨z.1, z.2.1, by have h0 := z.1; have h1 := z.2.1; have h2 := z.2.2.1; have h3 := z.2.2.2.1; have h4 : ¬ (c = 120 ∧ k = 23 + 5 * i) := e; omega, z.2.2.2⟩)]
theorem rml_loop (hT : aTabOk) {g : Nat → Nat → Int32} {N : Nat} (hN : g 120 3 = Int32.ofNat N) (hN2 : N ≤ 20) {m : Int32} (hm : g 120 0 = m) : ∀ (d i : Nat) (lv : List (Nat × Value)) (M1 : mHe), i + d = N → yTy M1 → rdI M1 = rvG g i m → mlg 0 lv = some (.ref 128) → mlg 1 lv = some (.int (Int32.ofNat i)) → mEv none 30 (267, 40, lv, []) M1 (fun r M' => r = none ∧ yTy M' ∧ rdI M' = rvG g N m) := by
  have eN := i32n (k := N) (by omega)
  intro d
  induction d with
  | zero =>
    intro i lv M1 hd hM hI h0 h1
    have hd : i = N := by omega
    subst hd
    obtain ⟨g1, hg⟩ : ∃ x, x = rdI M1 := ⟨_, rfl⟩
    rw [← hg] at hI
    have hg := hg.symm
    have hN1 : g1 120 3 = Int32.ofNat i := by rw [hI, rvG_k (by omega)]; exact hN
    refine e_then (e_il1 hT (y := 267) (pc := 40) (q := (yX12_minute, cX12_minute, 3, none, 12)) rfl (show aTab 267 40 = some (.iload_n 1, 1, 0, 0, 0, 0, 0, 0) from rfl) rfl h1) ?_
    refine e_then (e_al1 hT (y := 267) (pc := 41) (q := (yX12_minute, cX12_minute, 3, none, 12)) rfl (show aTab 267 41 = some (.aload_n 0, 1, 0, 0, 0, 0, 0, 0) from rfl) rfl h0) ?_
    refine e_then (e_getR hT (y := 267) (pc := 42) (q := (yX12_minute, cX12_minute, 3, none, 12)) rfl (show aTab 267 42 = some (.getfield 7, 3, 0, 12, 0, 0, 0, 0) from rfl) rfl (by decide) (by decide) hM rfl rfl) ?_
    refine e_then (e_st hT (y := 267) (pc := 45) (q := (yX12_minute, cX12_minute, 3, none, 12)) rfl (show aTab 267 45 = some (.iconst 3, 1, 0, 0, 0, 0, 0, 0) from rfl) (fr' := (267, 46, lv, [.int 3, .ref 129, .int (Int32.ofNat i)])) (M' := M1) rfl) ?_
    refine e_then (s_aldV hT (y := 267) (pc := 46) (q := (yX12_minute, cX12_minute, 3, none, 12)) rfl (show aTab 267 46 = some (.iaload, 1, 0, 0, 0, 0, 0, 0) from rfl) rfl hM hg 120 3 rfl rfl (by decide) (v := (Int32.ofNat i)) (show (g1 120 3) = (Int32.ofNat i) from hN1)) ?_
    refine e_then (e_icT hT (y := 267) (pc := 47) (q := (yX12_minute, cX12_minute, 3, none, 12)) rfl (show aTab 267 47 = some (.if_icmp .ge 52, 3, 0, 0, 0, 0, 0, 0) from rfl) rfl (t := 99) rfl (cdT (Int.le_refl _))) ?_
    exact e_fin (e_vret hT (y := 267) (pc := 99) (q := (yX12_minute, cX12_minute, 3, none, 12)) rfl (show aTab 267 99 = some (.return_, 1, 0, 0, 0, 0, 0, 0) from rfl) ⟨rfl, rfl⟩) ⟨rfl, hM, hg.trans hI⟩
  | succ d ih =>
    intro i lv M1 hd hM hI h0 h1
    have ei := i32n (k := i) (by omega)
    have hiN : i < N := by omega
    obtain ⟨g1, hg⟩ : ∃ x, x = rdI M1 := ⟨_, rfl⟩
    rw [← hg] at hI
    have hg := hg.symm
    have hN1 : g1 120 3 = Int32.ofNat N := by rw [hI, rvG_k (by omega)]; exact hN
    have hm1 : g1 120 0 = m := by rw [hI, rvG_k (by omega)]; exact hm
    have h22 : g1 120 (22 + 5 * i) = g 120 (22 + 5 * i) := by rw [hI, rvG_k (by omega)]
    have h23 : g1 120 (23 + 5 * i) = g 120 (23 + 5 * i) := by rw [hI, rvG_k (by omega)]
    obtain ⟨K1, q1⟩ := rma_run hT (M := M1) (m := i) (by omega) (d := 29) (by decide)
    refine e_then (e_il1 hT (y := 267) (pc := 40) (q := (yX12_minute, cX12_minute, 3, none, 12)) rfl (show aTab 267 40 = some (.iload_n 1, 1, 0, 0, 0, 0, 0, 0) from rfl) rfl h1) ?_
    refine e_then (e_al1 hT (y := 267) (pc := 41) (q := (yX12_minute, cX12_minute, 3, none, 12)) rfl (show aTab 267 41 = some (.aload_n 0, 1, 0, 0, 0, 0, 0, 0) from rfl) rfl h0) ?_
    refine e_then (e_getR hT (y := 267) (pc := 42) (q := (yX12_minute, cX12_minute, 3, none, 12)) rfl (show aTab 267 42 = some (.getfield 7, 3, 0, 12, 0, 0, 0, 0) from rfl) rfl (by decide) (by decide) hM rfl rfl) ?_
    refine e_then (e_st hT (y := 267) (pc := 45) (q := (yX12_minute, cX12_minute, 3, none, 12)) rfl (show aTab 267 45 = some (.iconst 3, 1, 0, 0, 0, 0, 0, 0) from rfl) (fr' := (267, 46, lv, [.int 3, .ref 129, .int (Int32.ofNat i)])) (M' := M1) rfl) ?_
    refine e_then (s_aldV hT (y := 267) (pc := 46) (q := (yX12_minute, cX12_minute, 3, none, 12)) rfl (show aTab 267 46 = some (.iaload, 1, 0, 0, 0, 0, 0, 0) from rfl) rfl hM hg 120 3 rfl rfl (by decide) (v := (Int32.ofNat N)) (show (g1 120 3) = (Int32.ofNat N) from hN1)) ?_
    refine e_then (e_icF hT (y := 267) (pc := 47) (q := (yX12_minute, cX12_minute, 3, none, 12)) rfl (show aTab 267 47 = some (.if_icmp .ge 52, 3, 0, 0, 0, 0, 0, 0) from rfl) rfl (t := 99) rfl (cdF (by show ¬ _ ≤ _; omega))) ?_
    refine e_then (e_al1 hT (y := 267) (pc := 50) (q := (yX12_minute, cX12_minute, 3, none, 12)) rfl (show aTab 267 50 = some (.aload_n 0, 1, 0, 0, 0, 0, 0, 0) from rfl) rfl h0) ?_
    refine e_then (e_il1 hT (y := 267) (pc := 51) (q := (yX12_minute, cX12_minute, 3, none, 12)) rfl (show aTab 267 51 = some (.iload_n 1, 1, 0, 0, 0, 0, 0, 0) from rfl) rfl h1) ?_
    refine e_then (e_call hT (y := 267) (pc := 52) (q := (yX12_minute, cX12_minute, 3, none, 12)) rfl (show aTab 267 52 = some (.invokevirtual 91, 3, 1, 244, 0, 1, 2, 12) from rfl) rfl ⟨by decide, Nat.le_of_ble_eq_true rfl⟩ (ob_at hM (rfl : tTy 119 = some (.inr (12, _)))).choose_spec (Nat.le_of_ble_eq_true rfl) (Nat.le_of_ble_eq_true rfl) ⟨by decide, by decide⟩ q1) ?_
    refine e_then (e_is1 hT (y := 267) (pc := 55) (q := (yX12_minute, cX12_minute, 3, none, 12)) rfl (show aTab 267 55 = some (.istore_n 2, 1, 0, 0, 0, 0, 0, 0) from rfl) ⟨rfl, by decide⟩) ?_
    refine e_then (e_al1 hT (y := 267) (pc := 56) (q := (yX12_minute, cX12_minute, 3, none, 12)) rfl (show aTab 267 56 = some (.aload_n 0, 1, 0, 0, 0, 0, 0, 0) from rfl) rfl (mlg_r h0 (by decide))) ?_
    refine e_then (e_getR hT (y := 267) (pc := 57) (q := (yX12_minute, cX12_minute, 3, none, 12)) rfl (show aTab 267 57 = some (.getfield 7, 3, 0, 12, 0, 0, 0, 0) from rfl) rfl (by decide) (by decide) hM rfl rfl) ?_
    refine e_then (e_il1 hT (y := 267) (pc := 60) (q := (yX12_minute, cX12_minute, 3, none, 12)) rfl (show aTab 267 60 = some (.iload_n 2, 1, 0, 0, 0, 0, 0, 0) from rfl) rfl (mlg_eq 2 _ _)) ?_
    refine e_then (e_st hT (y := 267) (pc := 61) (q := (yX12_minute, cX12_minute, 3, none, 12)) rfl (show aTab 267 61 = some (.iconst 3, 1, 0, 0, 0, 0, 0, 0) from rfl) (fr' := (267, 62, (mlp 2 (.int (Int32.ofNat (20 + 5 * i))) lv), [.int 3, .int (Int32.ofNat (20 + 5 * i)), .ref 129])) (M' := M1) rfl) ?_
    refine e_then (e_st hT (y := 267) (pc := 62) (q := (yX12_minute, cX12_minute, 3, none, 12)) rfl (show aTab 267 62 = some (.iadd, 1, 0, 0, 0, 0, 0, 0) from rfl) (fr' := (267, 63, (mlp 2 (.int (Int32.ofNat (20 + 5 * i))) lv), [.int ((Int32.ofNat (20 + 5 * i)) + 3), .ref 129])) (M' := M1) rfl) ?_
    refine e_then (e_al1 hT (y := 267) (pc := 63) (q := (yX12_minute, cX12_minute, 3, none, 12)) rfl (show aTab 267 63 = some (.aload_n 0, 1, 0, 0, 0, 0, 0, 0) from rfl) rfl (mlg_r h0 (by decide))) ?_
    refine e_then (e_getR hT (y := 267) (pc := 64) (q := (yX12_minute, cX12_minute, 3, none, 12)) rfl (show aTab 267 64 = some (.getfield 7, 3, 0, 12, 0, 0, 0, 0) from rfl) rfl (by decide) (by decide) hM rfl rfl) ?_
    refine e_then (e_il1 hT (y := 267) (pc := 67) (q := (yX12_minute, cX12_minute, 3, none, 12)) rfl (show aTab 267 67 = some (.iload_n 2, 1, 0, 0, 0, 0, 0, 0) from rfl) rfl (mlg_eq 2 _ _)) ?_
    refine e_then (e_st hT (y := 267) (pc := 68) (q := (yX12_minute, cX12_minute, 3, none, 12)) rfl (show aTab 267 68 = some (.iconst 2, 1, 0, 0, 0, 0, 0, 0) from rfl) (fr' := (267, 69, (mlp 2 (.int (Int32.ofNat (20 + 5 * i))) lv), [.int 2, .int (Int32.ofNat (20 + 5 * i)), .ref 129, .int ((Int32.ofNat (20 + 5 * i)) + 3), .ref 129])) (M' := M1) rfl) ?_
    refine e_then (e_st hT (y := 267) (pc := 69) (q := (yX12_minute, cX12_minute, 3, none, 12)) rfl (show aTab 267 69 = some (.iadd, 1, 0, 0, 0, 0, 0, 0) from rfl) (fr' := (267, 70, (mlp 2 (.int (Int32.ofNat (20 + 5 * i))) lv), [.int ((Int32.ofNat (20 + 5 * i)) + 2), .ref 129, .int ((Int32.ofNat (20 + 5 * i)) + 3), .ref 129])) (M' := M1) rfl) ?_
    refine e_then (s_aldV hT (y := 267) (pc := 70) (q := (yX12_minute, cX12_minute, 3, none, 12)) rfl (show aTab 267 70 = some (.iaload, 1, 0, 0, 0, 0, 0, 0) from rfl) rfl hM hg 120 (22 + 5 * i) rfl (ixq2 (by omega)) (by omega) (v := (g 120 (22 + 5 * i))) (show (g1 120 (22 + 5 * i)) = (g 120 (22 + 5 * i)) from h22)) ?_
    refine e_then (e_al1 hT (y := 267) (pc := 71) (q := (yX12_minute, cX12_minute, 3, none, 12)) rfl (show aTab 267 71 = some (.aload_n 0, 1, 0, 0, 0, 0, 0, 0) from rfl) rfl (mlg_r h0 (by decide))) ?_
    refine e_then (e_getR hT (y := 267) (pc := 72) (q := (yX12_minute, cX12_minute, 3, none, 12)) rfl (show aTab 267 72 = some (.getfield 7, 3, 0, 12, 0, 0, 0, 0) from rfl) rfl (by decide) (by decide) hM rfl rfl) ?_
    refine e_then (e_st hT (y := 267) (pc := 75) (q := (yX12_minute, cX12_minute, 3, none, 12)) rfl (show aTab 267 75 = some (.iconst 0, 1, 0, 0, 0, 0, 0, 0) from rfl) (fr' := (267, 76, (mlp 2 (.int (Int32.ofNat (20 + 5 * i))) lv), [.int 0, .ref 129, .int (g 120 (22 + 5 * i)), .int ((Int32.ofNat (20 + 5 * i)) + 3), .ref 129])) (M' := M1) rfl) ?_
    refine e_then (s_aldV hT (y := 267) (pc := 76) (q := (yX12_minute, cX12_minute, 3, none, 12)) rfl (show aTab 267 76 = some (.iaload, 1, 0, 0, 0, 0, 0, 0) from rfl) rfl hM hg 120 0 rfl rfl (by decide) (v := m) (show (g1 120 0) = m from hm1)) ?_
    by_cases c1 : g 120 (22 + 5 * i) = m
    · refine e_then (e_icF hT (y := 267) (pc := 77) (q := (yX12_minute, cX12_minute, 3, none, 12)) rfl (show aTab 267 77 = some (.if_icmp .ne 7, 3, 0, 0, 0, 0, 0, 0) from rfl) rfl (t := 84) rfl (cdF (by show ¬ (¬ _ = _); exact (by first | exact fun z => z (by rw [c1]) | exact fun z => c1 (Int32.toInt_inj.mp z))))) ?_
      refine e_then (e_st hT (y := 267) (pc := 80) (q := (yX12_minute, cX12_minute, 3, none, 12)) rfl (show aTab 267 80 = some (.iconst 0, 1, 0, 0, 0, 0, 0, 0) from rfl) (fr' := (267, 81, (mlp 2 (.int (Int32.ofNat (20 + 5 * i))) lv), [.int 0, .int ((Int32.ofNat (20 + 5 * i)) + 3), .ref 129])) (M' := M1) rfl) ?_
      refine e_then (e_st hT (y := 267) (pc := 81) (q := (yX12_minute, cX12_minute, 3, none, 12)) rfl (show aTab 267 81 = some (.goto 11, 3, 0, 0, 0, 0, 0, 0) from rfl) (fr' := (267, 92, (mlp 2 (.int (Int32.ofNat (20 + 5 * i))) lv), [.int 0, .int ((Int32.ofNat (20 + 5 * i)) + 3), .ref 129])) (M' := M1) rfl) ?_
      obtain ⟨m1, sm1, tm1, em1⟩ := s_asm (sc := none) (d := _) (lv := (mlp 2 (.int (Int32.ofNat (20 + 5 * i))) lv)) (st := []) (z := 0) (i := ((Int32.ofNat (20 + 5 * i)) + 3)) (l := 0) (h := 19) (vl := (-2147483648)) (vh := 2147483647) (C := 23) (m := 5) (N := i) hT (y := 267) (pc := 92) (q := (yX12_minute, cX12_minute, 3, none, 12)) rfl (show aTab 267 92 = some (.iastore, 1, 0, 0, 0, 0, 0, 0) from rfl) rfl hM hg 120 rfl (by decide +kernel) (by decide) ⟨⟨by omega, by omega⟩, by omega⟩ (ixq3 (by omega)) ⟨i32_lo _, i32_hi _⟩
      refine e_then sm1 ?_
      refine e_then (e_ii hT (y := 267) (pc := 93) (q := (yX12_minute, cX12_minute, 3, none, 12)) rfl (show aTab 267 93 = some (.iinc 1 1, 3, 0, 0, 0, 0, 0, 0) from rfl) ⟨rfl, by decide⟩ (mlg_i h1 (by decide))) ?_
      refine e_then (e_st hT (y := 267) (pc := 96) (q := (yX12_minute, cX12_minute, 3, none, 12)) rfl (show aTab 267 96 = some (.goto (-56), 3, 0, 0, 0, 0, 0, 0) from rfl) (fr' := (267, 40, (mlp 1 (.int ((Int32.ofNat i) + Int32.ofInt 1)) (mlp 2 (.int (Int32.ofNat (20 + 5 * i))) lv)), [])) (M' := m1) rfl) ?_
      rw [os1 (by omega)]
      exact ih _ _ _ (by omega) tm1 (by rw [em1, hI]; exact rvG_s _ _ _ _ (by rw [if_pos c1])) (mlg_r (mlg_r h0 (by decide)) (by decide)) (mlg_eq 1 _ _)
    · refine e_then (e_icT hT (y := 267) (pc := 77) (q := (yX12_minute, cX12_minute, 3, none, 12)) rfl (show aTab 267 77 = some (.if_icmp .ne 7, 3, 0, 0, 0, 0, 0, 0) from rfl) rfl (t := 84) rfl (cdT (by show ¬ _ = _; exact (by first | exact fun z => z (by rw [c1]) | exact fun z => c1 (Int32.toInt_inj.mp z))))) ?_
      refine e_then (e_al1 hT (y := 267) (pc := 84) (q := (yX12_minute, cX12_minute, 3, none, 12)) rfl (show aTab 267 84 = some (.aload_n 0, 1, 0, 0, 0, 0, 0, 0) from rfl) rfl (mlg_r h0 (by decide))) ?_
      refine e_then (e_getR hT (y := 267) (pc := 85) (q := (yX12_minute, cX12_minute, 3, none, 12)) rfl (show aTab 267 85 = some (.getfield 7, 3, 0, 12, 0, 0, 0, 0) from rfl) rfl (by decide) (by decide) hM rfl rfl) ?_
      refine e_then (e_il1 hT (y := 267) (pc := 88) (q := (yX12_minute, cX12_minute, 3, none, 12)) rfl (show aTab 267 88 = some (.iload_n 2, 1, 0, 0, 0, 0, 0, 0) from rfl) rfl (mlg_eq 2 _ _)) ?_
      refine e_then (e_st hT (y := 267) (pc := 89) (q := (yX12_minute, cX12_minute, 3, none, 12)) rfl (show aTab 267 89 = some (.iconst 3, 1, 0, 0, 0, 0, 0, 0) from rfl) (fr' := (267, 90, (mlp 2 (.int (Int32.ofNat (20 + 5 * i))) lv), [.int 3, .int (Int32.ofNat (20 + 5 * i)), .ref 129, .int ((Int32.ofNat (20 + 5 * i)) + 3), .ref 129])) (M' := M1) rfl) ?_
      refine e_then (e_st hT (y := 267) (pc := 90) (q := (yX12_minute, cX12_minute, 3, none, 12)) rfl (show aTab 267 90 = some (.iadd, 1, 0, 0, 0, 0, 0, 0) from rfl) (fr' := (267, 91, (mlp 2 (.int (Int32.ofNat (20 + 5 * i))) lv), [.int ((Int32.ofNat (20 + 5 * i)) + 3), .ref 129, .int ((Int32.ofNat (20 + 5 * i)) + 3), .ref 129])) (M' := M1) rfl) ?_
      refine e_then (s_aldV hT (y := 267) (pc := 91) (q := (yX12_minute, cX12_minute, 3, none, 12)) rfl (show aTab 267 91 = some (.iaload, 1, 0, 0, 0, 0, 0, 0) from rfl) rfl hM hg 120 (23 + 5 * i) rfl (ixq3 (by omega)) (by omega) (v := (g 120 (23 + 5 * i))) (show (g1 120 (23 + 5 * i)) = (g 120 (23 + 5 * i)) from h23)) ?_
      obtain ⟨m1, sm1, tm1, em1⟩ := s_asm (sc := none) (d := _) (lv := (mlp 2 (.int (Int32.ofNat (20 + 5 * i))) lv)) (st := []) (z := (g 120 (23 + 5 * i))) (i := ((Int32.ofNat (20 + 5 * i)) + 3)) (l := 0) (h := 19) (vl := (-2147483648)) (vh := 2147483647) (C := 23) (m := 5) (N := i) hT (y := 267) (pc := 92) (q := (yX12_minute, cX12_minute, 3, none, 12)) rfl (show aTab 267 92 = some (.iastore, 1, 0, 0, 0, 0, 0, 0) from rfl) rfl hM hg 120 rfl (by decide +kernel) (by decide) ⟨⟨by omega, by omega⟩, by omega⟩ (ixq3 (by omega)) ⟨i32_lo _, i32_hi _⟩
      refine e_then sm1 ?_
      refine e_then (e_ii hT (y := 267) (pc := 93) (q := (yX12_minute, cX12_minute, 3, none, 12)) rfl (show aTab 267 93 = some (.iinc 1 1, 3, 0, 0, 0, 0, 0, 0) from rfl) ⟨rfl, by decide⟩ (mlg_i h1 (by decide))) ?_
      refine e_then (e_st hT (y := 267) (pc := 96) (q := (yX12_minute, cX12_minute, 3, none, 12)) rfl (show aTab 267 96 = some (.goto (-56), 3, 0, 0, 0, 0, 0, 0) from rfl) (fr' := (267, 40, (mlp 1 (.int ((Int32.ofNat i) + Int32.ofInt 1)) (mlp 2 (.int (Int32.ofNat (20 + 5 * i))) lv)), [])) (M' := m1) rfl) ?_
      rw [os1 (by omega)]
      exact ih _ _ _ (by omega) tm1 (by rw [em1, hI]; exact rvG_s _ _ _ _ (by rw [if_neg c1])) (mlg_r (mlg_r h0 (by decide)) (by decide)) (mlg_eq 1 _ _)
/-- one minute there -/
def rmnP (g : Nat → Nat → Int32) (N Z : Nat) (g' : Nat → Nat → Int32) : Prop := ∃ ga g5 : Nat → Nat → Int32, (∀ c k, c ≠ 120 ∨ (k ≠ 0 ∧ k ≠ 1) → ga c k = g c k) ∧ ga 120 0 = g 120 0 + 1 ∧ ga 120 1 = (if (g 120 2).toInt = 1 then g 120 1 + 0 else g 120 1 + 1) ∧ rcmI ga Z (g 120 0 + 1).toInt Z g5 ∧ g' = rvG (up2 g5 120 7 (Int32.ofNat ((shL (rfP ga 920) (rfP ga 921) (rfP ga 922) Z).filter (shQ (g 120 0 + 1).toInt)).length)) N (g 120 0 + 1)
theorem rmn_run (hT : aTabOk) {M : mHe} (hM : yTy M) {g : Nat → Nat → Int32} (hg : rdI M = g) {N Z : Nat} (hN : g 120 3 = Int32.ofNat N) (hN2 : N ≤ 20) (hZ : g 120 7 = Int32.ofNat Z) (hZ2 : Z ≤ 30) (hs : ∀ i, i < Z → (0 ≤ (g 120 (920 + 3 * i)).toInt ∧ (g 120 (920 + 3 * i)).toInt ≤ 39) ∧ (0 ≤ (g 120 (921 + 3 * i)).toInt ∧ (g 120 (921 + 3 * i)).toInt ≤ 6)) {d : Nat} (hd : 30 ≤ d) : ∃ K M', mRun none K d (267, 0, lv_args 0 [.ref 128], []) M = some (none, M') ∧ yTy M' ∧ rmnP g N Z (rdI M') := by
  have go : mEv none 30 (267, 0, lv_args 0 [.ref 128], []) M (fun r M' => r = none ∧ yTy M' ∧ rmnP g N Z (rdI M')) := by
    refine e_then (e_al1 hT (y := 267) (pc := 0) (q := (yX12_minute, cX12_minute, 3, none, 12)) rfl (show aTab 267 0 = some (.aload_n 0, 1, 0, 0, 0, 0, 0, 0) from rfl) rfl rfl) ?_
    refine e_then (e_getR hT (y := 267) (pc := 1) (q := (yX12_minute, cX12_minute, 3, none, 12)) rfl (show aTab 267 1 = some (.getfield 7, 3, 0, 12, 0, 0, 0, 0) from rfl) rfl (by decide) (by decide) hM rfl rfl) ?_
    refine e_then (e_st hT (y := 267) (pc := 4) (q := (yX12_minute, cX12_minute, 3, none, 12)) rfl (show aTab 267 4 = some (.iconst 0, 1, 0, 0, 0, 0, 0, 0) from rfl) (fr' := (267, 5, (lv_args 0 [.ref 128]), [.int 0, .ref 129])) (M' := M) rfl) ?_
    refine e_then (e_st hT (y := 267) (pc := 5) (q := (yX12_minute, cX12_minute, 3, none, 12)) rfl (show aTab 267 5 = some (.dup2, 1, 0, 0, 0, 0, 0, 0) from rfl) (fr' := (267, 6, (lv_args 0 [.ref 128]), [.int 0, .ref 129, .int 0, .ref 129])) (M' := M) rfl) ?_
    refine e_then (s_ald hT (y := 267) (pc := 6) (q := (yX12_minute, cX12_minute, 3, none, 12)) rfl (show aTab 267 6 = some (.iaload, 1, 0, 0, 0, 0, 0, 0) from rfl) rfl hM hg 120 0 rfl rfl (by decide)) ?_
    refine e_then (e_st hT (y := 267) (pc := 7) (q := (yX12_minute, cX12_minute, 3, none, 12)) rfl (show aTab 267 7 = some (.iconst 1, 1, 0, 0, 0, 0, 0, 0) from rfl) (fr' := (267, 8, (lv_args 0 [.ref 128]), [.int 1, .int (g 120 0), .int 0, .ref 129])) (M' := M) rfl) ?_
    refine e_then (e_st hT (y := 267) (pc := 8) (q := (yX12_minute, cX12_minute, 3, none, 12)) rfl (show aTab 267 8 = some (.iadd, 1, 0, 0, 0, 0, 0, 0) from rfl) (fr' := (267, 9, (lv_args 0 [.ref 128]), [.int ((g 120 0) + 1), .int 0, .ref 129])) (M' := M) rfl) ?_
    obtain ⟨m1, sm1, tm1, em1⟩ := s_asb (sc := none) (d := _) (lv := (lv_args 0 [.ref 128])) (st := []) (z := ((g 120 0) + 1)) (i := 0) (l := 0) (h := 0) (vl := (-2147483648)) (vh := 2147483647) hT (y := 267) (pc := 9) (q := (yX12_minute, cX12_minute, 3, none, 12)) rfl (show aTab 267 9 = some (.iastore, 1, 0, 0, 0, 0, 0, 0) from rfl) rfl hM hg 120 0 rfl (by decide +kernel) rfl ⟨by decide, by decide⟩ ⟨i32_lo _, i32_hi _⟩
    refine e_then sm1 ?_
    refine e_then (e_al1 hT (y := 267) (pc := 10) (q := (yX12_minute, cX12_minute, 3, none, 12)) rfl (show aTab 267 10 = some (.aload_n 0, 1, 0, 0, 0, 0, 0, 0) from rfl) rfl rfl) ?_
    refine e_then (e_getR hT (y := 267) (pc := 11) (q := (yX12_minute, cX12_minute, 3, none, 12)) rfl (show aTab 267 11 = some (.getfield 7, 3, 0, 12, 0, 0, 0, 0) from rfl) rfl (by decide) (by decide) tm1 rfl rfl) ?_
    refine e_then (e_st hT (y := 267) (pc := 14) (q := (yX12_minute, cX12_minute, 3, none, 12)) rfl (show aTab 267 14 = some (.iconst 1, 1, 0, 0, 0, 0, 0, 0) from rfl) (fr' := (267, 15, (lv_args 0 [.ref 128]), [.int 1, .ref 129])) (M' := m1) rfl) ?_
    refine e_then (e_st hT (y := 267) (pc := 15) (q := (yX12_minute, cX12_minute, 3, none, 12)) rfl (show aTab 267 15 = some (.dup2, 1, 0, 0, 0, 0, 0, 0) from rfl) (fr' := (267, 16, (lv_args 0 [.ref 128]), [.int 1, .ref 129, .int 1, .ref 129])) (M' := m1) rfl) ?_
    refine e_then (s_aldV hT (y := 267) (pc := 16) (q := (yX12_minute, cX12_minute, 3, none, 12)) rfl (show aTab 267 16 = some (.iaload, 1, 0, 0, 0, 0, 0, 0) from rfl) rfl tm1 em1 120 1 rfl rfl (by decide) (v := (g 120 1)) rfl) ?_
    refine e_then (e_al1 hT (y := 267) (pc := 17) (q := (yX12_minute, cX12_minute, 3, none, 12)) rfl (show aTab 267 17 = some (.aload_n 0, 1, 0, 0, 0, 0, 0, 0) from rfl) rfl rfl) ?_
    refine e_then (e_getR hT (y := 267) (pc := 18) (q := (yX12_minute, cX12_minute, 3, none, 12)) rfl (show aTab 267 18 = some (.getfield 7, 3, 0, 12, 0, 0, 0, 0) from rfl) rfl (by decide) (by decide) tm1 rfl rfl) ?_
    refine e_then (e_st hT (y := 267) (pc := 21) (q := (yX12_minute, cX12_minute, 3, none, 12)) rfl (show aTab 267 21 = some (.iconst 2, 1, 0, 0, 0, 0, 0, 0) from rfl) (fr' := (267, 22, (lv_args 0 [.ref 128]), [.int 2, .ref 129, .int (g 120 1), .int 1, .ref 129])) (M' := m1) rfl) ?_
    refine e_then (s_aldV hT (y := 267) (pc := 22) (q := (yX12_minute, cX12_minute, 3, none, 12)) rfl (show aTab 267 22 = some (.iaload, 1, 0, 0, 0, 0, 0, 0) from rfl) rfl tm1 em1 120 2 rfl rfl (by decide) (v := (g 120 2)) rfl) ?_
    refine e_then (e_st hT (y := 267) (pc := 23) (q := (yX12_minute, cX12_minute, 3, none, 12)) rfl (show aTab 267 23 = some (.iconst 1, 1, 0, 0, 0, 0, 0, 0) from rfl) (fr' := (267, 24, (lv_args 0 [.ref 128]), [.int 1, .int (g 120 2), .int (g 120 1), .int 1, .ref 129])) (M' := m1) rfl) ?_
    by_cases c3 : (g 120 2).toInt = 1
    · refine e_then (e_icF hT (y := 267) (pc := 24) (q := (yX12_minute, cX12_minute, 3, none, 12)) rfl (show aTab 267 24 = some (.if_icmp .ne 7, 3, 0, 0, 0, 0, 0, 0) from rfl) rfl (t := 31) rfl (cdF (by show ¬ (¬ _ = _); rw [show (1 : Int32).toInt = 1 from rfl]; omega))) ?_
      refine e_then (e_st hT (y := 267) (pc := 27) (q := (yX12_minute, cX12_minute, 3, none, 12)) rfl (show aTab 267 27 = some (.iconst 0, 1, 0, 0, 0, 0, 0, 0) from rfl) (fr' := (267, 28, (lv_args 0 [.ref 128]), [.int 0, .int (g 120 1), .int 1, .ref 129])) (M' := m1) rfl) ?_
      refine e_then (e_st hT (y := 267) (pc := 28) (q := (yX12_minute, cX12_minute, 3, none, 12)) rfl (show aTab 267 28 = some (.goto 4, 3, 0, 0, 0, 0, 0, 0) from rfl) (fr' := (267, 32, (lv_args 0 [.ref 128]), [.int 0, .int (g 120 1), .int 1, .ref 129])) (M' := m1) rfl) ?_
      refine e_then (e_st hT (y := 267) (pc := 32) (q := (yX12_minute, cX12_minute, 3, none, 12)) rfl (show aTab 267 32 = some (.iadd, 1, 0, 0, 0, 0, 0, 0) from rfl) (fr' := (267, 33, (lv_args 0 [.ref 128]), [.int ((g 120 1) + 0), .int 1, .ref 129])) (M' := m1) rfl) ?_
      obtain ⟨m2, sm2, tm2, em2⟩ := s_asb (sc := none) (d := _) (lv := (lv_args 0 [.ref 128])) (st := []) (z := ((g 120 1) + 0)) (i := 1) (l := 1) (h := 1) (vl := (-2147483648)) (vh := 2147483647) hT (y := 267) (pc := 33) (q := (yX12_minute, cX12_minute, 3, none, 12)) rfl (show aTab 267 33 = some (.iastore, 1, 0, 0, 0, 0, 0, 0) from rfl) rfl tm1 em1 120 1 rfl (by decide +kernel) rfl ⟨by decide, by decide⟩ ⟨i32_lo _, i32_hi _⟩
      refine e_then sm2 ?_
      obtain ⟨ga, hga⟩ : ∃ x, x = (up2 (up2 g 120 0 ((g 120 0) + 1)) 120 1 ((g 120 1) + 0)) := ⟨_, rfl⟩
      have ca : ∀ c k, c ≠ 120 ∨ (k ≠ 0 ∧ k ≠ 1) → ga c k = g c k := fun c k h => by
        rw [hga]
        rcases h with h | h
        · rw [up2_c _ _ h, up2_c _ _ h]
        · by_cases hc : c = 120
          · subst hc; rw [up2_k _ _ h.2, up2_k _ _ h.1]
          · rw [up2_c _ _ hc, up2_c _ _ hc]
      have a0 : ga 120 0 = g 120 0 + 1 := by rw [hga, up2_k _ _ (by decide), up2_eq]
      have a1 : ga 120 1 = (if (g 120 2).toInt = 1 then g 120 1 + 0 else g 120 1 + 1) := by rw [hga, up2_eq, if_pos c3]
      have hga2 := em2.trans hga.symm
      obtain ⟨K5, M5, q5, t5, g5, i5, e5⟩ := rcm_run hT tm2 hga2 (Z := Z) (by rw [ca 120 7 (Or.inr ⟨by decide, by decide⟩)]; exact hZ) hZ2 (fun i hi => by rw [ca 120 (920 + 3 * i) (Or.inr ⟨by omega, by omega⟩), ca 120 (921 + 3 * i) (Or.inr ⟨by omega, by omega⟩)]; exact hs i hi) (m := g 120 0 + 1) a0 (d := 29) (by decide)
      have hN5 : (up2 g5 120 7 (Int32.ofNat ((shL (rfP ga 920) (rfP ga 921) (rfP ga 922) Z).filter (shQ (g 120 0 + 1).toInt)).length)) 120 3 = Int32.ofNat N := by rw [up2_k _ _ (by decide), i5.2.1 3 (fun p hp => by omega) (by omega), ca 120 3 (Or.inr ⟨by decide, by decide⟩)]; exact hN
      have h50 : (up2 g5 120 7 (Int32.ofNat ((shL (rfP ga 920) (rfP ga 921) (rfP ga 922) Z).filter (shQ (g 120 0 + 1).toInt)).length)) 120 0 = g 120 0 + 1 := by rw [up2_k _ _ (by decide), i5.2.1 0 (fun p hp => by omega) (by omega)]; exact a0
      refine e_then (e_al1 hT (y := 267) (pc := 34) (q := (yX12_minute, cX12_minute, 3, none, 12)) rfl (show aTab 267 34 = some (.aload_n 0, 1, 0, 0, 0, 0, 0, 0) from rfl) rfl rfl) ?_
      refine e_then (e_call hT (y := 267) (pc := 35) (q := (yX12_minute, cX12_minute, 3, none, 12)) rfl (show aTab 267 35 = some (.invokevirtual 118, 3, 1, 266, 0, 0, 5, 12) from rfl) rfl ⟨by decide, Nat.le_of_ble_eq_true rfl⟩ (ob_at tm2 (rfl : tTy 119 = some (.inr (12, _)))).choose_spec (Nat.le_of_ble_eq_true rfl) (Nat.le_of_ble_eq_true rfl) ⟨by decide, by decide⟩ q5) ?_
      refine e_then (e_st hT (y := 267) (pc := 38) (q := (yX12_minute, cX12_minute, 3, none, 12)) rfl (show aTab 267 38 = some (.iconst 0, 1, 0, 0, 0, 0, 0, 0) from rfl) (fr' := (267, 39, (lv_args 0 [.ref 128]), [.int 0])) (M' := M5) rfl) ?_
      refine e_then (e_is1 hT (y := 267) (pc := 39) (q := (yX12_minute, cX12_minute, 3, none, 12)) rfl (show aTab 267 39 = some (.istore_n 1, 1, 0, 0, 0, 0, 0, 0) from rfl) ⟨rfl, by decide⟩) ?_
      obtain ⟨K6, r6, M6, q6, rfl, t6, e6⟩ := rml_loop hT hN5 hN2 h50 N 0 (mlp 1 (.int 0) (lv_args 0 [.ref 128])) M5 (by omega) t5 (by rw [rvG_0]; exact e5) (mlg_r rfl (by decide)) (mlg_eq 1 _ _)
      exact ⟨K6, none, M6, q6, rfl, t6, ga, g5, ca, a0, a1, i5, e6⟩
    · refine e_then (e_icT hT (y := 267) (pc := 24) (q := (yX12_minute, cX12_minute, 3, none, 12)) rfl (show aTab 267 24 = some (.if_icmp .ne 7, 3, 0, 0, 0, 0, 0, 0) from rfl) rfl (t := 31) rfl (cdT (by show ¬ _ = _; rw [show (1 : Int32).toInt = 1 from rfl]; omega))) ?_
      refine e_then (e_st hT (y := 267) (pc := 31) (q := (yX12_minute, cX12_minute, 3, none, 12)) rfl (show aTab 267 31 = some (.iconst 1, 1, 0, 0, 0, 0, 0, 0) from rfl) (fr' := (267, 32, (lv_args 0 [.ref 128]), [.int 1, .int (g 120 1), .int 1, .ref 129])) (M' := m1) rfl) ?_
      refine e_then (e_st hT (y := 267) (pc := 32) (q := (yX12_minute, cX12_minute, 3, none, 12)) rfl (show aTab 267 32 = some (.iadd, 1, 0, 0, 0, 0, 0, 0) from rfl) (fr' := (267, 33, (lv_args 0 [.ref 128]), [.int ((g 120 1) + 1), .int 1, .ref 129])) (M' := m1) rfl) ?_
      obtain ⟨m2, sm2, tm2, em2⟩ := s_asb (sc := none) (d := _) (lv := (lv_args 0 [.ref 128])) (st := []) (z := ((g 120 1) + 1)) (i := 1) (l := 1) (h := 1) (vl := (-2147483648)) (vh := 2147483647) hT (y := 267) (pc := 33) (q := (yX12_minute, cX12_minute, 3, none, 12)) rfl (show aTab 267 33 = some (.iastore, 1, 0, 0, 0, 0, 0, 0) from rfl) rfl tm1 em1 120 1 rfl (by decide +kernel) rfl ⟨by decide, by decide⟩ ⟨i32_lo _, i32_hi _⟩
      refine e_then sm2 ?_
      obtain ⟨ga, hga⟩ : ∃ x, x = (up2 (up2 g 120 0 ((g 120 0) + 1)) 120 1 ((g 120 1) + 1)) := ⟨_, rfl⟩
      have ca : ∀ c k, c ≠ 120 ∨ (k ≠ 0 ∧ k ≠ 1) → ga c k = g c k := fun c k h => by
        rw [hga]
        rcases h with h | h
        · rw [up2_c _ _ h, up2_c _ _ h]
        · by_cases hc : c = 120
          · subst hc; rw [up2_k _ _ h.2, up2_k _ _ h.1]
          · rw [up2_c _ _ hc, up2_c _ _ hc]
      have a0 : ga 120 0 = g 120 0 + 1 := by rw [hga, up2_k _ _ (by decide), up2_eq]
      have a1 : ga 120 1 = (if (g 120 2).toInt = 1 then g 120 1 + 0 else g 120 1 + 1) := by rw [hga, up2_eq, if_neg c3]
      have hga2 := em2.trans hga.symm
      obtain ⟨K5, M5, q5, t5, g5, i5, e5⟩ := rcm_run hT tm2 hga2 (Z := Z) (by rw [ca 120 7 (Or.inr ⟨by decide, by decide⟩)]; exact hZ) hZ2 (fun i hi => by rw [ca 120 (920 + 3 * i) (Or.inr ⟨by omega, by omega⟩), ca 120 (921 + 3 * i) (Or.inr ⟨by omega, by omega⟩)]; exact hs i hi) (m := g 120 0 + 1) a0 (d := 29) (by decide)
      have hN5 : (up2 g5 120 7 (Int32.ofNat ((shL (rfP ga 920) (rfP ga 921) (rfP ga 922) Z).filter (shQ (g 120 0 + 1).toInt)).length)) 120 3 = Int32.ofNat N := by rw [up2_k _ _ (by decide), i5.2.1 3 (fun p hp => by omega) (by omega), ca 120 3 (Or.inr ⟨by decide, by decide⟩)]; exact hN
      have h50 : (up2 g5 120 7 (Int32.ofNat ((shL (rfP ga 920) (rfP ga 921) (rfP ga 922) Z).filter (shQ (g 120 0 + 1).toInt)).length)) 120 0 = g 120 0 + 1 := by rw [up2_k _ _ (by decide), i5.2.1 0 (fun p hp => by omega) (by omega)]; exact a0
      refine e_then (e_al1 hT (y := 267) (pc := 34) (q := (yX12_minute, cX12_minute, 3, none, 12)) rfl (show aTab 267 34 = some (.aload_n 0, 1, 0, 0, 0, 0, 0, 0) from rfl) rfl rfl) ?_
      refine e_then (e_call hT (y := 267) (pc := 35) (q := (yX12_minute, cX12_minute, 3, none, 12)) rfl (show aTab 267 35 = some (.invokevirtual 118, 3, 1, 266, 0, 0, 5, 12) from rfl) rfl ⟨by decide, Nat.le_of_ble_eq_true rfl⟩ (ob_at tm2 (rfl : tTy 119 = some (.inr (12, _)))).choose_spec (Nat.le_of_ble_eq_true rfl) (Nat.le_of_ble_eq_true rfl) ⟨by decide, by decide⟩ q5) ?_
      refine e_then (e_st hT (y := 267) (pc := 38) (q := (yX12_minute, cX12_minute, 3, none, 12)) rfl (show aTab 267 38 = some (.iconst 0, 1, 0, 0, 0, 0, 0, 0) from rfl) (fr' := (267, 39, (lv_args 0 [.ref 128]), [.int 0])) (M' := M5) rfl) ?_
      refine e_then (e_is1 hT (y := 267) (pc := 39) (q := (yX12_minute, cX12_minute, 3, none, 12)) rfl (show aTab 267 39 = some (.istore_n 1, 1, 0, 0, 0, 0, 0, 0) from rfl) ⟨rfl, by decide⟩) ?_
      obtain ⟨K6, r6, M6, q6, rfl, t6, e6⟩ := rml_loop hT hN5 hN2 h50 N 0 (mlp 1 (.int 0) (lv_args 0 [.ref 128])) M5 (by omega) t5 (by rw [rvG_0]; exact e5) (mlg_r rfl (by decide)) (mlg_eq 1 _ _)
      exact ⟨K6, none, M6, q6, rfl, t6, ga, g5, ca, a0, a1, i5, e6⟩
  obtain ⟨K, r, M', q, rfl, q2, q3⟩ := go
  exact ⟨K, M', mRun_dm q hd, q2, q3⟩
