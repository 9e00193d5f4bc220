/-! HAND: the parser, its functions -/
def pQ (M0 : mHe) (b : Nat) (p : Int) (q : Nat) (dd : Int) (dp tu : Nat) : Option Value → mHe → Prop := fun r M' => (r = some (.int 0) ∧ yTy M' ∧ yFr (pW b) M0 M') ∨ (r = some (.int 1) ∧ pS M0 M' b p q (dd + 1) dp tu)
def pC (y : Nat) (key : Int32) (dp tu D : Nat) : Prop := ∀ (M0 M : mHe) (b q : Nat) (p dd : Int) (d : Nat), D ≤ d → pB M0 b → 0 ≤ p → 0 ≤ dd → pS M0 M b p q dd dp tu → mEv none d (y, 0, lv_args 0 [.ref 128, .int key], []) M (pQ M0 b p q dd dp tu)
theorem pS_le {M0 M : mHe} {b q q' dp tu : Nat} {p p' dd : Int} (h : pS M0 M b p q dd dp tu) (hp : p' ≤ p) (hq : q' ≤ q) : pS M0 M b p' q' dd dp tu := by
  obtain ⟨l, lx, bg, bh, tp, tk, e1, e2, e3, e4, e5, e6, e7, e8, e9, e10⟩ := h.ex
  exact ⟨h.ty, h.fr, ⟨l, lx, bg, bh, tp, tk, e1, e2, e3, e4, e5, e6, e7, e8, by omega, e10⟩, h.bx, h.dx, h.tx⟩
theorem pS_q {M0 M : mHe} {b q dp tu : Nat} {p dd : Int} (h : pS M0 M b p q dd dp tu) : q ≤ 96 := by
  obtain ⟨l, lx, bg, bh, tp, tk, e1, e2, e3, e4, e5, e6, e7, e8, e9, e10⟩ := h.ex
  omega
theorem pS_tk {M0 M : mHe} {b q dp tu : Nat} {p dd : Int} (h : pS M0 M b p q dd dp tu) : ∃ tk lt, fld M 17 tk ∧ fld M 19 lt := by
  obtain ⟨l, lx, bg, bh, tp, tk, e1, e2, e3, e4, -⟩ := h.ex
  obtain ⟨lt, l1, -⟩ := fld_bd h.ty (k := 19) (z := 0) (lo := -2147483648) (hi := 2147483647) rfl
  exact ⟨tk, lt, e4, l1⟩
theorem isSign_run (hT : aTabOk) {d : Nat} {M : mHe} {c tk lt : Int32} (hM : yTy M) (h17 : fld M 17 tk) (h19 : fld M 19 lt) : ∃ N, mRun none N d (306, 0, lv_args 0 [.ref 128, .int c], []) M = some (some (.int (if tk.toInt = 3 ∧ lt.toInt = c.toInt then 1 else 0)), M) := by
  obtain ⟨fo, hmo, -⟩ := yTy_obj hM (rfl : tTy 119 = some (.inr (12, _)))
  have f17 := fld_fs hmo h17
  have f19 := fld_fs hmo h19
  have c3 : Int32.toInt 3 = 3 := rfl
  have main : mEv none d (306, 0, lv_args 0 [.ref 128, .int c], []) M (fun r M' => r = some (.int (if tk.toInt = 3 ∧ lt.toInt = c.toInt then 1 else 0)) ∧ M' = M) := by
    refine e_then (e_al1 hT (y := 306) (pc := 0) (q := (yX12_isSign, cX12_isSign, 2, (some .boolean), 12)) rfl (show aTab 306 0 = some (.aload_n 0, 1, 0, 0, 0, 0, 0, 0) from rfl) rfl rfl) ?_
    refine e_then (e_getf hT (y := 306) (pc := 1) (q := (yX12_isSign, cX12_isSign, 2, (some .boolean), 12)) rfl (show aTab 306 1 = some (.getfield 250, 3, 0, 12, 17, 0, 0, 0) from rfl) rfl (by decide) (by decide) hmo f17) ?_
    refine e_then (e_st hT (y := 306) (pc := 4) (q := (yX12_isSign, cX12_isSign, 2, (some .boolean), 12)) rfl (show aTab 306 4 = some (.iconst 3, 1, 0, 0, 0, 0, 0, 0) from rfl) (fr' := (306, 5, (lv_args 0 [.ref 128, .int c]), [.int 3, .int tk])) (M' := M) rfl) ?_
    by_cases h1 : tk.toInt = 3
    · refine e_then (e_icF hT (y := 306) (pc := 5) (q := (yX12_isSign, cX12_isSign, 2, (some .boolean), 12)) rfl (show aTab 306 5 = some (.if_icmp .ne 15, 3, 0, 0, 0, 0, 0, 0) from rfl) rfl (t := 20) rfl (cdF (by rw [c3]; show ¬ (tk.toInt ≠ 3); omega))) ?_
      refine e_then (e_al1 hT (y := 306) (pc := 8) (q := (yX12_isSign, cX12_isSign, 2, (some .boolean), 12)) rfl (show aTab 306 8 = some (.aload_n 0, 1, 0, 0, 0, 0, 0, 0) from rfl) rfl rfl) ?_
      refine e_then (e_getf hT (y := 306) (pc := 9) (q := (yX12_isSign, cX12_isSign, 2, (some .boolean), 12)) rfl (show aTab 306 9 = some (.getfield 259, 3, 0, 12, 19, 0, 0, 0) from rfl) rfl (by decide) (by decide) hmo f19) ?_
      refine e_then (e_il1 hT (y := 306) (pc := 12) (q := (yX12_isSign, cX12_isSign, 2, (some .boolean), 12)) rfl (show aTab 306 12 = some (.iload_n 1, 1, 0, 0, 0, 0, 0, 0) from rfl) rfl rfl) ?_
      by_cases h2 : lt.toInt = c.toInt
      · refine e_then (e_icF hT (y := 306) (pc := 13) (q := (yX12_isSign, cX12_isSign, 2, (some .boolean), 12)) rfl (show aTab 306 13 = some (.if_icmp .ne 7, 3, 0, 0, 0, 0, 0, 0) from rfl) rfl (t := 20) rfl (cdF (by show ¬ (lt.toInt ≠ c.toInt); omega))) ?_
        refine e_then (e_st hT (y := 306) (pc := 16) (q := (yX12_isSign, cX12_isSign, 2, (some .boolean), 12)) rfl (show aTab 306 16 = some (.iconst 1, 1, 0, 0, 0, 0, 0, 0) from rfl) (fr' := (306, 17, (lv_args 0 [.ref 128, .int c]), [.int 1])) (M' := M) rfl) ?_
        refine e_then (e_st hT (y := 306) (pc := 17) (q := (yX12_isSign, cX12_isSign, 2, (some .boolean), 12)) rfl (show aTab 306 17 = some (.goto 4, 3, 0, 0, 0, 0, 0, 0) from rfl) (fr' := (306, 21, (lv_args 0 [.ref 128, .int c]), [.int 1])) (M' := M) rfl) ?_
        exact e_fin (e_zret hT (y := 306) (pc := 21) (q := (yX12_isSign, cX12_isSign, 2, (some .boolean), 12)) rfl (show aTab 306 21 = some (.ireturn, 1, 0, 0, 0, 0, 0, 0) from rfl) ⟨rfl, rfl⟩ (Or.inr rfl)) ⟨by rw [if_pos ⟨h1, h2⟩], rfl⟩
      · refine e_then (e_icT hT (y := 306) (pc := 13) (q := (yX12_isSign, cX12_isSign, 2, (some .boolean), 12)) rfl (show aTab 306 13 = some (.if_icmp .ne 7, 3, 0, 0, 0, 0, 0, 0) from rfl) rfl (t := 20) rfl (cdT (by show (lt.toInt ≠ c.toInt); omega))) ?_
        refine e_then (e_st hT (y := 306) (pc := 20) (q := (yX12_isSign, cX12_isSign, 2, (some .boolean), 12)) rfl (show aTab 306 20 = some (.iconst 0, 1, 0, 0, 0, 0, 0, 0) from rfl) (fr' := (306, 21, (lv_args 0 [.ref 128, .int c]), [.int 0])) (M' := M) rfl) ?_
        exact e_fin (e_zret hT (y := 306) (pc := 21) (q := (yX12_isSign, cX12_isSign, 2, (some .boolean), 12)) rfl (show aTab 306 21 = some (.ireturn, 1, 0, 0, 0, 0, 0, 0) from rfl) ⟨rfl, rfl⟩ (Or.inl rfl)) ⟨by rw [if_neg (fun z => h2 z.2)], rfl⟩
    · refine e_then (e_icT hT (y := 306) (pc := 5) (q := (yX12_isSign, cX12_isSign, 2, (some .boolean), 12)) rfl (show aTab 306 5 = some (.if_icmp .ne 15, 3, 0, 0, 0, 0, 0, 0) from rfl) rfl (t := 20) rfl (cdT (by rw [c3]; show (tk.toInt ≠ 3); omega))) ?_
      refine e_then (e_st hT (y := 306) (pc := 20) (q := (yX12_isSign, cX12_isSign, 2, (some .boolean), 12)) rfl (show aTab 306 20 = some (.iconst 0, 1, 0, 0, 0, 0, 0, 0) from rfl) (fr' := (306, 21, (lv_args 0 [.ref 128, .int c]), [.int 0])) (M' := M) rfl) ?_
      exact e_fin (e_zret hT (y := 306) (pc := 21) (q := (yX12_isSign, cX12_isSign, 2, (some .boolean), 12)) rfl (show aTab 306 21 = some (.ireturn, 1, 0, 0, 0, 0, 0, 0) from rfl) ⟨rfl, rfl⟩ (Or.inl rfl)) ⟨by rw [if_neg (fun z => h1 z.1)], rfl⟩
  obtain ⟨N, r, M', h1, rfl, rfl⟩ := main
  exact ⟨N, h1⟩
theorem X12_term_loop (hT : aTabOk) {key : Int32} {dp tu D b : Nat} {M0 : mHe} {p dd : Int} (hC : pC 317 key dp tu D) (hD : 2 ≤ D) (hb : pB M0 b) (hp : 0 ≤ p) (hdd : 0 ≤ dd) {dc : Nat} (hd : D ≤ dc) {q0 : Nat} : ∀ (j q : Nat) (M : mHe) (lv : List (Nat × Value)), q + j = 97 → q0 ≤ q → pS M0 M b p q (dd + 1) dp tu → mlg 0 lv = some (.ref 128) → mlg 1 lv = some (.int key) → mEv none (dc + 1) (316, 10, lv, []) M (pQ M0 b p q0 dd dp tu) := by
  intro j
  induction j with
  | zero =>
    intro q M lv hj hq h l0 l1
    have := pS_q h
    omega
  | succ j ih =>
    intro q M lv hj hq h l0 l1
    obtain ⟨tk, lt, h17, h19⟩ := pS_tk h
    obtain ⟨fo, hmo, -⟩ := yTy_obj h.ty (rfl : tTy 119 = some (.inr (12, _)))
    have f19 := fld_fs hmo h19
    have e2 : Int32.toInt 2 = 2 := rfl
    have hit : tk.toInt = 3 ∧ (lt.toInt = 42 ∨ lt.toInt = 47) → ∀ lv : List (Nat × Value), mlg 0 lv = some (.ref 128) → mlg 1 lv = some (.int key) → mEv none (dc + 1) (316, 28, lv, []) M (pQ M0 b p q0 dd dp tu) := by
      intro ⟨hs, hv⟩ lv l0 l1
      obtain ⟨N1, M1, n1, n2⟩ := next_run hT h ⟨tk, h17, by omega⟩
      have n1 := mRun_dm n1 (show 2 ≤ dc by omega)
      obtain ⟨N2, r2, M2, c1, c2⟩ := hC M0 M1 b (q + 1) (p + 1) (dd + 1) dc hd hb (by omega) (by omega) n2
      obtain ⟨fo1, hmo1, -⟩ := yTy_obj n2.ty (rfl : tTy 119 = some (.inr (12, _)))
      refine e_then (e_al1 hT (y := 316) (pc := 28) (q := (yX12_term, cX12_term, 3, (some .boolean), 12)) rfl (show aTab 316 28 = some (.aload_n 0, 1, 0, 0, 0, 0, 0, 0) from rfl) rfl l0) ?_
      refine e_then (e_getf hT (y := 316) (pc := 29) (q := (yX12_term, cX12_term, 3, (some .boolean), 12)) rfl (show aTab 316 29 = some (.getfield 259, 3, 0, 12, 19, 0, 0, 0) from rfl) rfl (by decide) (by decide) hmo f19) ?_
      refine e_then (e_is1 hT (y := 316) (pc := 32) (q := (yX12_term, cX12_term, 3, (some .boolean), 12)) rfl (show aTab 316 32 = some (.istore_n 2, 1, 0, 0, 0, 0, 0, 0) from rfl) ⟨rfl, by decide⟩) ?_
      refine e_then (e_al1 hT (y := 316) (pc := 33) (q := (yX12_term, cX12_term, 3, (some .boolean), 12)) rfl (show aTab 316 33 = some (.aload_n 0, 1, 0, 0, 0, 0, 0, 0) from rfl) rfl (mlg_r l0 (by decide))) ?_
      refine e_then (e_call hT (y := 316) (pc := 34) (q := (yX12_term, cX12_term, 3, (some .boolean), 12)) rfl (show aTab 316 34 = some (.invokevirtual 288, 3, 1, 305, 0, 0, 3, 12) from rfl) rfl ⟨by decide, Nat.le_of_ble_eq_true rfl⟩ hmo (Nat.le_of_ble_eq_true rfl) (Nat.le_of_ble_eq_true rfl) ⟨by decide, by decide⟩ n1) ?_
      refine e_then (e_al1 hT (y := 316) (pc := 37) (q := (yX12_term, cX12_term, 3, (some .boolean), 12)) rfl (show aTab 316 37 = some (.aload_n 0, 1, 0, 0, 0, 0, 0, 0) from rfl) rfl (mlg_r l0 (by decide))) ?_
      refine e_then (e_il1 hT (y := 316) (pc := 38) (q := (yX12_term, cX12_term, 3, (some .boolean), 12)) rfl (show aTab 316 38 = some (.iload_n 1, 1, 0, 0, 0, 0, 0, 0) from rfl) rfl (mlg_i l1 (by decide))) ?_
      rcases c2 with ⟨rfl, c3, c4⟩ | ⟨rfl, c3⟩
      · refine e_then (e_call hT (y := 316) (pc := 39) (q := (yX12_term, cX12_term, 3, (some .boolean), 12)) rfl (show aTab 316 39 = some (.invokevirtual 304, 3, 1, 317, 0, 1, 2, 12) from rfl) rfl ⟨by decide, Nat.le_of_ble_eq_true rfl⟩ hmo1 (Nat.le_of_ble_eq_true rfl) (Nat.le_of_ble_eq_true rfl) ⟨by decide, by decide⟩ c1) ?_
        refine e_then (e_ifF hT (y := 316) (pc := 42) (q := (yX12_term, cX12_term, 3, (some .boolean), 12)) rfl (show aTab 316 42 = some (.ifCond .ne 5, 3, 0, 0, 0, 0, 0, 0) from rfl) rfl (t := 47) rfl (cdF (by show ¬ ((0 : Int) ≠ 0); decide))) ?_
        refine e_then (e_st hT (y := 316) (pc := 45) (q := (yX12_term, cX12_term, 3, (some .boolean), 12)) rfl (show aTab 316 45 = some (.iconst 0, 1, 0, 0, 0, 0, 0, 0) from rfl) (fr' := (316, 46, (mlp 2 (.int lt) lv), [.int 0])) (M' := M2) rfl) ?_
        exact e_fin (e_zret hT (y := 316) (pc := 46) (q := (yX12_term, cX12_term, 3, (some .boolean), 12)) rfl (show aTab 316 46 = some (.ireturn, 1, 0, 0, 0, 0, 0, 0) from rfl) ⟨rfl, rfl⟩ (Or.inl rfl)) (Or.inl ⟨rfl, c3, c4⟩)
      · refine e_then (e_call hT (y := 316) (pc := 39) (q := (yX12_term, cX12_term, 3, (some .boolean), 12)) rfl (show aTab 316 39 = some (.invokevirtual 304, 3, 1, 317, 0, 1, 2, 12) from rfl) rfl ⟨by decide, Nat.le_of_ble_eq_true rfl⟩ hmo1 (Nat.le_of_ble_eq_true rfl) (Nat.le_of_ble_eq_true rfl) ⟨by decide, by decide⟩ c1) ?_
        refine e_then (e_ifT hT (y := 316) (pc := 42) (q := (yX12_term, cX12_term, 3, (some .boolean), 12)) rfl (show aTab 316 42 = some (.ifCond .ne 5, 3, 0, 0, 0, 0, 0, 0) from rfl) rfl (t := 47) rfl (cdT (by show (1 : Int) ≠ 0; decide))) ?_
        refine e_then (e_al1 hT (y := 316) (pc := 47) (q := (yX12_term, cX12_term, 3, (some .boolean), 12)) rfl (show aTab 316 47 = some (.aload_n 0, 1, 0, 0, 0, 0, 0, 0) from rfl) rfl (mlg_r l0 (by decide))) ?_
        refine e_then (e_st hT (y := 316) (pc := 48) (q := (yX12_term, cX12_term, 3, (some .boolean), 12)) rfl (show aTab 316 48 = some (.iconst 2, 1, 0, 0, 0, 0, 0, 0) from rfl) (fr' := (316, 49, (mlp 2 (.int lt) lv), [.int 2, .ref 128])) (M' := M2) rfl) ?_
        refine e_then (e_il1 hT (y := 316) (pc := 49) (q := (yX12_term, cX12_term, 3, (some .boolean), 12)) rfl (show aTab 316 49 = some (.iload_n 2, 1, 0, 0, 0, 0, 0, 0) from rfl) rfl (mlg_eq 2 _ _)) ?_
        obtain ⟨N3, M3, s1, s2, -⟩ := step_run hT (w := 2) (v := lt) (dd' := dd + 1) c3 hb ⟨fun z => absurd rfl z, fun _ z => by omega, fun _ _ => by omega⟩ (Or.inl (by omega))
        have s1 := mRun_dm s1 (Nat.zero_le dc)
        rw [Int.add_sub_cancel] at s2
        obtain ⟨fo2, hmo2, -⟩ := yTy_obj c3.ty (rfl : tTy 119 = some (.inr (12, _)))
        refine e_then (e_call hT (y := 316) (pc := 50) (q := (yX12_term, cX12_term, 3, (some .boolean), 12)) rfl (show aTab 316 50 = some (.invokevirtual 291, 3, 1, 311, 0, 2, 3, 12) from rfl) rfl ⟨by decide, Nat.le_of_ble_eq_true rfl⟩ hmo2 (Nat.le_of_ble_eq_true rfl) (Nat.le_of_ble_eq_true rfl) ⟨by decide, by decide⟩ s1) ?_
        refine e_then (e_st hT (y := 316) (pc := 53) (q := (yX12_term, cX12_term, 3, (some .boolean), 12)) rfl (show aTab 316 53 = some (.goto (-43), 3, 0, 0, 0, 0, 0, 0) from rfl) (fr' := (316, 10, _, [])) (M' := _) rfl) ?_
        exact ih (q + 1) M3 _ (by omega) (by omega) s2 (mlg_r l0 (by decide)) (mlg_i l1 (by decide))
    obtain ⟨N0', r0⟩ := isSign_run hT (d := dc) (c := 42) h.ty h17 h19
    refine e_then (e_al1 hT (y := 316) (pc := 10) (q := (yX12_term, cX12_term, 3, (some .boolean), 12)) rfl (show aTab 316 10 = some (.aload_n 0, 1, 0, 0, 0, 0, 0, 0) from rfl) rfl l0) ?_
    refine e_then (e_st hT (y := 316) (pc := 11) (q := (yX12_term, cX12_term, 3, (some .boolean), 12)) rfl (show aTab 316 11 = some (.bipush 42, 2, 0, 0, 0, 0, 0, 0) from rfl) (fr' := (316, 13, lv, [.int 42, .ref 128])) (M' := M) rfl) ?_
    by_cases hs0 : tk.toInt = 3 ∧ lt.toInt = (42 : Int32).toInt
    · rw [if_pos hs0] at r0
      refine e_then (e_call hT (y := 316) (pc := 13) (q := (yX12_term, cX12_term, 3, (some .boolean), 12)) rfl (show aTab 316 13 = some (.invokevirtual 285, 3, 1, 306, 0, 1, 2, 12) from rfl) rfl ⟨by decide, Nat.le_of_ble_eq_true rfl⟩ hmo (Nat.le_of_ble_eq_true rfl) (Nat.le_of_ble_eq_true rfl) ⟨by decide, by decide⟩ r0) ?_
      refine e_then (e_ifT hT (y := 316) (pc := 16) (q := (yX12_term, cX12_term, 3, (some .boolean), 12)) rfl (show aTab 316 16 = some (.ifCond .ne 12, 3, 0, 0, 0, 0, 0, 0) from rfl) rfl (t := 28) rfl (cdT (by show (1 : Int) ≠ 0; decide))) ?_
      exact hit ⟨hs0.1, (Or.inl hs0.2)⟩ lv l0 l1
    · rw [if_neg hs0] at r0
      refine e_then (e_call hT (y := 316) (pc := 13) (q := (yX12_term, cX12_term, 3, (some .boolean), 12)) rfl (show aTab 316 13 = some (.invokevirtual 285, 3, 1, 306, 0, 1, 2, 12) from rfl) rfl ⟨by decide, Nat.le_of_ble_eq_true rfl⟩ hmo (Nat.le_of_ble_eq_true rfl) (Nat.le_of_ble_eq_true rfl) ⟨by decide, by decide⟩ r0) ?_
      refine e_then (e_ifF hT (y := 316) (pc := 16) (q := (yX12_term, cX12_term, 3, (some .boolean), 12)) rfl (show aTab 316 16 = some (.ifCond .ne 12, 3, 0, 0, 0, 0, 0, 0) from rfl) rfl (t := 28) rfl (cdF (by show ¬ ((0 : Int) ≠ 0); decide))) ?_
      obtain ⟨N1', r1⟩ := isSign_run hT (d := dc) (c := 47) h.ty h17 h19
      refine e_then (e_al1 hT (y := 316) (pc := 19) (q := (yX12_term, cX12_term, 3, (some .boolean), 12)) rfl (show aTab 316 19 = some (.aload_n 0, 1, 0, 0, 0, 0, 0, 0) from rfl) rfl l0) ?_
      refine e_then (e_st hT (y := 316) (pc := 20) (q := (yX12_term, cX12_term, 3, (some .boolean), 12)) rfl (show aTab 316 20 = some (.bipush 47, 2, 0, 0, 0, 0, 0, 0) from rfl) (fr' := (316, 22, lv, [.int 47, .ref 128])) (M' := M) rfl) ?_
      by_cases hs1 : tk.toInt = 3 ∧ lt.toInt = (47 : Int32).toInt
      · rw [if_pos hs1] at r1
        refine e_then (e_call hT (y := 316) (pc := 22) (q := (yX12_term, cX12_term, 3, (some .boolean), 12)) rfl (show aTab 316 22 = some (.invokevirtual 285, 3, 1, 306, 0, 1, 2, 12) from rfl) rfl ⟨by decide, Nat.le_of_ble_eq_true rfl⟩ hmo (Nat.le_of_ble_eq_true rfl) (Nat.le_of_ble_eq_true rfl) ⟨by decide, by decide⟩ r1) ?_
        refine e_then (e_ifF hT (y := 316) (pc := 25) (q := (yX12_term, cX12_term, 3, (some .boolean), 12)) rfl (show aTab 316 25 = some (.ifCond .eq 31, 3, 0, 0, 0, 0, 0, 0) from rfl) rfl (t := 56) rfl (cdF (by show ¬ ((1 : Int) = 0); decide))) ?_
        exact hit ⟨hs1.1, (Or.inr hs1.2)⟩ lv l0 l1
      · rw [if_neg hs1] at r1
        refine e_then (e_call hT (y := 316) (pc := 22) (q := (yX12_term, cX12_term, 3, (some .boolean), 12)) rfl (show aTab 316 22 = some (.invokevirtual 285, 3, 1, 306, 0, 1, 2, 12) from rfl) rfl ⟨by decide, Nat.le_of_ble_eq_true rfl⟩ hmo (Nat.le_of_ble_eq_true rfl) (Nat.le_of_ble_eq_true rfl) ⟨by decide, by decide⟩ r1) ?_
        refine e_then (e_ifT hT (y := 316) (pc := 25) (q := (yX12_term, cX12_term, 3, (some .boolean), 12)) rfl (show aTab 316 25 = some (.ifCond .eq 31, 3, 0, 0, 0, 0, 0, 0) from rfl) rfl (t := 56) rfl (cdT (by show (0 : Int) = 0; rfl))) ?_
        refine e_then (e_st hT (y := 316) (pc := 56) (q := (yX12_term, cX12_term, 3, (some .boolean), 12)) rfl (show aTab 316 56 = some (.iconst 1, 1, 0, 0, 0, 0, 0, 0) from rfl) (fr' := (316, 57, lv, [.int 1])) (M' := M) rfl) ?_
        exact e_fin (e_zret hT (y := 316) (pc := 57) (q := (yX12_term, cX12_term, 3, (some .boolean), 12)) rfl (show aTab 316 57 = some (.ireturn, 1, 0, 0, 0, 0, 0, 0) from rfl) ⟨rfl, rfl⟩ (Or.inr rfl)) (Or.inr ⟨rfl, pS_le h (Int.le_refl _) hq⟩)
theorem X12_term_of (hT : aTabOk) {key : Int32} {dp tu D : Nat} (hC : pC 317 key dp tu D) (hD : 2 ≤ D) : pC 316 key dp tu (D + 1) := by
  intro M0 M b q p dd d hd hb hp hdd h
  obtain ⟨dc, rfl⟩ : ∃ dc, d = dc + 1 := ⟨d - 1, by omega⟩
  obtain ⟨N2, r2, M2, c1, c2⟩ := hC M0 M b q p dd dc (by omega) hb hp hdd h
  obtain ⟨fo, hmo, -⟩ := yTy_obj h.ty (rfl : tTy 119 = some (.inr (12, _)))
  refine e_then (e_al1 hT (y := 316) (pc := 0) (q := (yX12_term, cX12_term, 3, (some .boolean), 12)) rfl (show aTab 316 0 = some (.aload_n 0, 1, 0, 0, 0, 0, 0, 0) from rfl) rfl rfl) ?_
  refine e_then (e_il1 hT (y := 316) (pc := 1) (q := (yX12_term, cX12_term, 3, (some .boolean), 12)) rfl (show aTab 316 1 = some (.iload_n 1, 1, 0, 0, 0, 0, 0, 0) from rfl) rfl rfl) ?_
  rcases c2 with ⟨rfl, c3, c4⟩ | ⟨rfl, c3⟩
  · refine e_then (e_call hT (y := 316) (pc := 2) (q := (yX12_term, cX12_term, 3, (some .boolean), 12)) rfl (show aTab 316 2 = some (.invokevirtual 304, 3, 1, 317, 0, 1, 2, 12) from rfl) rfl ⟨by decide, Nat.le_of_ble_eq_true rfl⟩ hmo (Nat.le_of_ble_eq_true rfl) (Nat.le_of_ble_eq_true rfl) ⟨by decide, by decide⟩ c1) ?_
    refine e_then (e_ifF hT (y := 316) (pc := 5) (q := (yX12_term, cX12_term, 3, (some .boolean), 12)) rfl (show aTab 316 5 = some (.ifCond .ne 5, 3, 0, 0, 0, 0, 0, 0) from rfl) rfl (t := 10) rfl (cdF (by show ¬ ((0 : Int) ≠ 0); decide))) ?_
    refine e_then (e_st hT (y := 316) (pc := 8) (q := (yX12_term, cX12_term, 3, (some .boolean), 12)) rfl (show aTab 316 8 = some (.iconst 0, 1, 0, 0, 0, 0, 0, 0) from rfl) (fr' := (316, 9, (lv_args 0 [.ref 128, .int key]), [.int 0])) (M' := M2) rfl) ?_
    exact e_fin (e_zret hT (y := 316) (pc := 9) (q := (yX12_term, cX12_term, 3, (some .boolean), 12)) rfl (show aTab 316 9 = some (.ireturn, 1, 0, 0, 0, 0, 0, 0) from rfl) ⟨rfl, rfl⟩ (Or.inl rfl)) (Or.inl ⟨rfl, c3, c4⟩)
  · refine e_then (e_call hT (y := 316) (pc := 2) (q := (yX12_term, cX12_term, 3, (some .boolean), 12)) rfl (show aTab 316 2 = some (.invokevirtual 304, 3, 1, 317, 0, 1, 2, 12) from rfl) rfl ⟨by decide, Nat.le_of_ble_eq_true rfl⟩ hmo (Nat.le_of_ble_eq_true rfl) (Nat.le_of_ble_eq_true rfl) ⟨by decide, by decide⟩ c1) ?_
    refine e_then (e_ifT hT (y := 316) (pc := 5) (q := (yX12_term, cX12_term, 3, (some .boolean), 12)) rfl (show aTab 316 5 = some (.ifCond .ne 5, 3, 0, 0, 0, 0, 0, 0) from rfl) rfl (t := 10) rfl (cdT (by show (1 : Int) ≠ 0; decide))) ?_
    exact X12_term_loop hT hC hD hb hp hdd (by omega) (97 - q) q M2 _ (by have := pS_q c3; omega) (Nat.le_refl q) c3 rfl rfl
theorem X12_sum_loop (hT : aTabOk) {key : Int32} {dp tu D b : Nat} {M0 : mHe} {p dd : Int} (hC : pC 316 key dp tu D) (hD : 2 ≤ D) (hb : pB M0 b) (hp : 0 ≤ p) (hdd : 0 ≤ dd) {dc : Nat} (hd : D ≤ dc) {q0 : Nat} : ∀ (j q : Nat) (M : mHe) (lv : List (Nat × Value)), q + j = 97 → q0 ≤ q → pS M0 M b p q (dd + 1) dp tu → mlg 0 lv = some (.ref 128) → mlg 1 lv = some (.int key) → mEv none (dc + 1) (315, 10, lv, []) M (pQ M0 b p q0 dd dp tu) := by
  intro j
  induction j with
  | zero =>
    intro q M lv hj hq h l0 l1
    have := pS_q h
    omega
  | succ j ih =>
    intro q M lv hj hq h l0 l1
    obtain ⟨tk, lt, h17, h19⟩ := pS_tk h
    obtain ⟨fo, hmo, -⟩ := yTy_obj h.ty (rfl : tTy 119 = some (.inr (12, _)))
    have f19 := fld_fs hmo h19
    have e2 : Int32.toInt 2 = 2 := rfl
    have hit : tk.toInt = 3 ∧ (lt.toInt = 43 ∨ lt.toInt = 45) → ∀ lv : List (Nat × Value), mlg 0 lv = some (.ref 128) → mlg 1 lv = some (.int key) → mEv none (dc + 1) (315, 28, lv, []) M (pQ M0 b p q0 dd dp tu) := by
      intro ⟨hs, hv⟩ lv l0 l1
      obtain ⟨N1, M1, n1, n2⟩ := next_run hT h ⟨tk, h17, by omega⟩
      have n1 := mRun_dm n1 (show 2 ≤ dc by omega)
      obtain ⟨N2, r2, M2, c1, c2⟩ := hC M0 M1 b (q + 1) (p + 1) (dd + 1) dc hd hb (by omega) (by omega) n2
      obtain ⟨fo1, hmo1, -⟩ := yTy_obj n2.ty (rfl : tTy 119 = some (.inr (12, _)))
      refine e_then (e_al1 hT (y := 315) (pc := 28) (q := (yX12_sum, cX12_sum, 3, (some .boolean), 12)) rfl (show aTab 315 28 = some (.aload_n 0, 1, 0, 0, 0, 0, 0, 0) from rfl) rfl l0) ?_
      refine e_then (e_getf hT (y := 315) (pc := 29) (q := (yX12_sum, cX12_sum, 3, (some .boolean), 12)) rfl (show aTab 315 29 = some (.getfield 259, 3, 0, 12, 19, 0, 0, 0) from rfl) rfl (by decide) (by decide) hmo f19) ?_
      refine e_then (e_is1 hT (y := 315) (pc := 32) (q := (yX12_sum, cX12_sum, 3, (some .boolean), 12)) rfl (show aTab 315 32 = some (.istore_n 2, 1, 0, 0, 0, 0, 0, 0) from rfl) ⟨rfl, by decide⟩) ?_
      refine e_then (e_al1 hT (y := 315) (pc := 33) (q := (yX12_sum, cX12_sum, 3, (some .boolean), 12)) rfl (show aTab 315 33 = some (.aload_n 0, 1, 0, 0, 0, 0, 0, 0) from rfl) rfl (mlg_r l0 (by decide))) ?_
      refine e_then (e_call hT (y := 315) (pc := 34) (q := (yX12_sum, cX12_sum, 3, (some .boolean), 12)) rfl (show aTab 315 34 = some (.invokevirtual 288, 3, 1, 305, 0, 0, 3, 12) from rfl) rfl ⟨by decide, Nat.le_of_ble_eq_true rfl⟩ hmo (Nat.le_of_ble_eq_true rfl) (Nat.le_of_ble_eq_true rfl) ⟨by decide, by decide⟩ n1) ?_
      refine e_then (e_al1 hT (y := 315) (pc := 37) (q := (yX12_sum, cX12_sum, 3, (some .boolean), 12)) rfl (show aTab 315 37 = some (.aload_n 0, 1, 0, 0, 0, 0, 0, 0) from rfl) rfl (mlg_r l0 (by decide))) ?_
      refine e_then (e_il1 hT (y := 315) (pc := 38) (q := (yX12_sum, cX12_sum, 3, (some .boolean), 12)) rfl (show aTab 315 38 = some (.iload_n 1, 1, 0, 0, 0, 0, 0, 0) from rfl) rfl (mlg_i l1 (by decide))) ?_
      rcases c2 with ⟨rfl, c3, c4⟩ | ⟨rfl, c3⟩
      · refine e_then (e_call hT (y := 315) (pc := 39) (q := (yX12_sum, cX12_sum, 3, (some .boolean), 12)) rfl (show aTab 315 39 = some (.invokevirtual 301, 3, 1, 316, 0, 1, 3, 12) from rfl) rfl ⟨by decide, Nat.le_of_ble_eq_true rfl⟩ hmo1 (Nat.le_of_ble_eq_true rfl) (Nat.le_of_ble_eq_true rfl) ⟨by decide, by decide⟩ c1) ?_
        refine e_then (e_ifF hT (y := 315) (pc := 42) (q := (yX12_sum, cX12_sum, 3, (some .boolean), 12)) rfl (show aTab 315 42 = some (.ifCond .ne 5, 3, 0, 0, 0, 0, 0, 0) from rfl) rfl (t := 47) rfl (cdF (by show ¬ ((0 : Int) ≠ 0); decide))) ?_
        refine e_then (e_st hT (y := 315) (pc := 45) (q := (yX12_sum, cX12_sum, 3, (some .boolean), 12)) rfl (show aTab 315 45 = some (.iconst 0, 1, 0, 0, 0, 0, 0, 0) from rfl) (fr' := (315, 46, (mlp 2 (.int lt) lv), [.int 0])) (M' := M2) rfl) ?_
        exact e_fin (e_zret hT (y := 315) (pc := 46) (q := (yX12_sum, cX12_sum, 3, (some .boolean), 12)) rfl (show aTab 315 46 = some (.ireturn, 1, 0, 0, 0, 0, 0, 0) from rfl) ⟨rfl, rfl⟩ (Or.inl rfl)) (Or.inl ⟨rfl, c3, c4⟩)
      · refine e_then (e_call hT (y := 315) (pc := 39) (q := (yX12_sum, cX12_sum, 3, (some .boolean), 12)) rfl (show aTab 315 39 = some (.invokevirtual 301, 3, 1, 316, 0, 1, 3, 12) from rfl) rfl ⟨by decide, Nat.le_of_ble_eq_true rfl⟩ hmo1 (Nat.le_of_ble_eq_true rfl) (Nat.le_of_ble_eq_true rfl) ⟨by decide, by decide⟩ c1) ?_
        refine e_then (e_ifT hT (y := 315) (pc := 42) (q := (yX12_sum, cX12_sum, 3, (some .boolean), 12)) rfl (show aTab 315 42 = some (.ifCond .ne 5, 3, 0, 0, 0, 0, 0, 0) from rfl) rfl (t := 47) rfl (cdT (by show (1 : Int) ≠ 0; decide))) ?_
        refine e_then (e_al1 hT (y := 315) (pc := 47) (q := (yX12_sum, cX12_sum, 3, (some .boolean), 12)) rfl (show aTab 315 47 = some (.aload_n 0, 1, 0, 0, 0, 0, 0, 0) from rfl) rfl (mlg_r l0 (by decide))) ?_
        refine e_then (e_st hT (y := 315) (pc := 48) (q := (yX12_sum, cX12_sum, 3, (some .boolean), 12)) rfl (show aTab 315 48 = some (.iconst 2, 1, 0, 0, 0, 0, 0, 0) from rfl) (fr' := (315, 49, (mlp 2 (.int lt) lv), [.int 2, .ref 128])) (M' := M2) rfl) ?_
        refine e_then (e_il1 hT (y := 315) (pc := 49) (q := (yX12_sum, cX12_sum, 3, (some .boolean), 12)) rfl (show aTab 315 49 = some (.iload_n 2, 1, 0, 0, 0, 0, 0, 0) from rfl) rfl (mlg_eq 2 _ _)) ?_
        obtain ⟨N3, M3, s1, s2, -⟩ := step_run hT (w := 2) (v := lt) (dd' := dd + 1) c3 hb ⟨fun z => absurd rfl z, fun _ z => by omega, fun _ _ => by omega⟩ (Or.inl (by omega))
        have s1 := mRun_dm s1 (Nat.zero_le dc)
        rw [Int.add_sub_cancel] at s2
        obtain ⟨fo2, hmo2, -⟩ := yTy_obj c3.ty (rfl : tTy 119 = some (.inr (12, _)))
        refine e_then (e_call hT (y := 315) (pc := 50) (q := (yX12_sum, cX12_sum, 3, (some .boolean), 12)) rfl (show aTab 315 50 = some (.invokevirtual 291, 3, 1, 311, 0, 2, 3, 12) from rfl) rfl ⟨by decide, Nat.le_of_ble_eq_true rfl⟩ hmo2 (Nat.le_of_ble_eq_true rfl) (Nat.le_of_ble_eq_true rfl) ⟨by decide, by decide⟩ s1) ?_
        refine e_then (e_st hT (y := 315) (pc := 53) (q := (yX12_sum, cX12_sum, 3, (some .boolean), 12)) rfl (show aTab 315 53 = some (.goto (-43), 3, 0, 0, 0, 0, 0, 0) from rfl) (fr' := (315, 10, _, [])) (M' := _) rfl) ?_
        exact ih (q + 1) M3 _ (by omega) (by omega) s2 (mlg_r l0 (by decide)) (mlg_i l1 (by decide))
    obtain ⟨N0', r0⟩ := isSign_run hT (d := dc) (c := 43) h.ty h17 h19
    refine e_then (e_al1 hT (y := 315) (pc := 10) (q := (yX12_sum, cX12_sum, 3, (some .boolean), 12)) rfl (show aTab 315 10 = some (.aload_n 0, 1, 0, 0, 0, 0, 0, 0) from rfl) rfl l0) ?_
    refine e_then (e_st hT (y := 315) (pc := 11) (q := (yX12_sum, cX12_sum, 3, (some .boolean), 12)) rfl (show aTab 315 11 = some (.bipush 43, 2, 0, 0, 0, 0, 0, 0) from rfl) (fr' := (315, 13, lv, [.int 43, .ref 128])) (M' := M) rfl) ?_
    by_cases hs0 : tk.toInt = 3 ∧ lt.toInt = (43 : Int32).toInt
    · rw [if_pos hs0] at r0
      refine e_then (e_call hT (y := 315) (pc := 13) (q := (yX12_sum, cX12_sum, 3, (some .boolean), 12)) rfl (show aTab 315 13 = some (.invokevirtual 285, 3, 1, 306, 0, 1, 2, 12) from rfl) rfl ⟨by decide, Nat.le_of_ble_eq_true rfl⟩ hmo (Nat.le_of_ble_eq_true rfl) (Nat.le_of_ble_eq_true rfl) ⟨by decide, by decide⟩ r0) ?_
      refine e_then (e_ifT hT (y := 315) (pc := 16) (q := (yX12_sum, cX12_sum, 3, (some .boolean), 12)) rfl (show aTab 315 16 = some (.ifCond .ne 12, 3, 0, 0, 0, 0, 0, 0) from rfl) rfl (t := 28) rfl (cdT (by show (1 : Int) ≠ 0; decide))) ?_
      exact hit ⟨hs0.1, (Or.inl hs0.2)⟩ lv l0 l1
    · rw [if_neg hs0] at r0
      refine e_then (e_call hT (y := 315) (pc := 13) (q := (yX12_sum, cX12_sum, 3, (some .boolean), 12)) rfl (show aTab 315 13 = some (.invokevirtual 285, 3, 1, 306, 0, 1, 2, 12) from rfl) rfl ⟨by decide, Nat.le_of_ble_eq_true rfl⟩ hmo (Nat.le_of_ble_eq_true rfl) (Nat.le_of_ble_eq_true rfl) ⟨by decide, by decide⟩ r0) ?_
      refine e_then (e_ifF hT (y := 315) (pc := 16) (q := (yX12_sum, cX12_sum, 3, (some .boolean), 12)) rfl (show aTab 315 16 = some (.ifCond .ne 12, 3, 0, 0, 0, 0, 0, 0) from rfl) rfl (t := 28) rfl (cdF (by show ¬ ((0 : Int) ≠ 0); decide))) ?_
      obtain ⟨N1', r1⟩ := isSign_run hT (d := dc) (c := 45) h.ty h17 h19
      refine e_then (e_al1 hT (y := 315) (pc := 19) (q := (yX12_sum, cX12_sum, 3, (some .boolean), 12)) rfl (show aTab 315 19 = some (.aload_n 0, 1, 0, 0, 0, 0, 0, 0) from rfl) rfl l0) ?_
      refine e_then (e_st hT (y := 315) (pc := 20) (q := (yX12_sum, cX12_sum, 3, (some .boolean), 12)) rfl (show aTab 315 20 = some (.bipush 45, 2, 0, 0, 0, 0, 0, 0) from rfl) (fr' := (315, 22, lv, [.int 45, .ref 128])) (M' := M) rfl) ?_
      by_cases hs1 : tk.toInt = 3 ∧ lt.toInt = (45 : Int32).toInt
      · rw [if_pos hs1] at r1
        refine e_then (e_call hT (y := 315) (pc := 22) (q := (yX12_sum, cX12_sum, 3, (some .boolean), 12)) rfl (show aTab 315 22 = some (.invokevirtual 285, 3, 1, 306, 0, 1, 2, 12) from rfl) rfl ⟨by decide, Nat.le_of_ble_eq_true rfl⟩ hmo (Nat.le_of_ble_eq_true rfl) (Nat.le_of_ble_eq_true rfl) ⟨by decide, by decide⟩ r1) ?_
        refine e_then (e_ifF hT (y := 315) (pc := 25) (q := (yX12_sum, cX12_sum, 3, (some .boolean), 12)) rfl (show aTab 315 25 = some (.ifCond .eq 31, 3, 0, 0, 0, 0, 0, 0) from rfl) rfl (t := 56) rfl (cdF (by show ¬ ((1 : Int) = 0); decide))) ?_
        exact hit ⟨hs1.1, (Or.inr hs1.2)⟩ lv l0 l1
      · rw [if_neg hs1] at r1
        refine e_then (e_call hT (y := 315) (pc := 22) (q := (yX12_sum, cX12_sum, 3, (some .boolean), 12)) rfl (show aTab 315 22 = some (.invokevirtual 285, 3, 1, 306, 0, 1, 2, 12) from rfl) rfl ⟨by decide, Nat.le_of_ble_eq_true rfl⟩ hmo (Nat.le_of_ble_eq_true rfl) (Nat.le_of_ble_eq_true rfl) ⟨by decide, by decide⟩ r1) ?_
        refine e_then (e_ifT hT (y := 315) (pc := 25) (q := (yX12_sum, cX12_sum, 3, (some .boolean), 12)) rfl (show aTab 315 25 = some (.ifCond .eq 31, 3, 0, 0, 0, 0, 0, 0) from rfl) rfl (t := 56) rfl (cdT (by show (0 : Int) = 0; rfl))) ?_
        refine e_then (e_st hT (y := 315) (pc := 56) (q := (yX12_sum, cX12_sum, 3, (some .boolean), 12)) rfl (show aTab 315 56 = some (.iconst 1, 1, 0, 0, 0, 0, 0, 0) from rfl) (fr' := (315, 57, lv, [.int 1])) (M' := M) rfl) ?_
        exact e_fin (e_zret hT (y := 315) (pc := 57) (q := (yX12_sum, cX12_sum, 3, (some .boolean), 12)) rfl (show aTab 315 57 = some (.ireturn, 1, 0, 0, 0, 0, 0, 0) from rfl) ⟨rfl, rfl⟩ (Or.inr rfl)) (Or.inr ⟨rfl, pS_le h (Int.le_refl _) hq⟩)
theorem X12_sum_of (hT : aTabOk) {key : Int32} {dp tu D : Nat} (hC : pC 316 key dp tu D) (hD : 2 ≤ D) : pC 315 key dp tu (D + 1) := by
  intro M0 M b q p dd d hd hb hp hdd h
  obtain ⟨dc, rfl⟩ : ∃ dc, d = dc + 1 := ⟨d - 1, by omega⟩
  obtain ⟨N2, r2, M2, c1, c2⟩ := hC M0 M b q p dd dc (by omega) hb hp hdd h
  obtain ⟨fo, hmo, -⟩ := yTy_obj h.ty (rfl : tTy 119 = some (.inr (12, _)))
  refine e_then (e_al1 hT (y := 315) (pc := 0) (q := (yX12_sum, cX12_sum, 3, (some .boolean), 12)) rfl (show aTab 315 0 = some (.aload_n 0, 1, 0, 0, 0, 0, 0, 0) from rfl) rfl rfl) ?_
  refine e_then (e_il1 hT (y := 315) (pc := 1) (q := (yX12_sum, cX12_sum, 3, (some .boolean), 12)) rfl (show aTab 315 1 = some (.iload_n 1, 1, 0, 0, 0, 0, 0, 0) from rfl) rfl rfl) ?_
  rcases c2 with ⟨rfl, c3, c4⟩ | ⟨rfl, c3⟩
  · refine e_then (e_call hT (y := 315) (pc := 2) (q := (yX12_sum, cX12_sum, 3, (some .boolean), 12)) rfl (show aTab 315 2 = some (.invokevirtual 301, 3, 1, 316, 0, 1, 3, 12) from rfl) rfl ⟨by decide, Nat.le_of_ble_eq_true rfl⟩ hmo (Nat.le_of_ble_eq_true rfl) (Nat.le_of_ble_eq_true rfl) ⟨by decide, by decide⟩ c1) ?_
    refine e_then (e_ifF hT (y := 315) (pc := 5) (q := (yX12_sum, cX12_sum, 3, (some .boolean), 12)) rfl (show aTab 315 5 = some (.ifCond .ne 5, 3, 0, 0, 0, 0, 0, 0) from rfl) rfl (t := 10) rfl (cdF (by show ¬ ((0 : Int) ≠ 0); decide))) ?_
    refine e_then (e_st hT (y := 315) (pc := 8) (q := (yX12_sum, cX12_sum, 3, (some .boolean), 12)) rfl (show aTab 315 8 = some (.iconst 0, 1, 0, 0, 0, 0, 0, 0) from rfl) (fr' := (315, 9, (lv_args 0 [.ref 128, .int key]), [.int 0])) (M' := M2) rfl) ?_
    exact e_fin (e_zret hT (y := 315) (pc := 9) (q := (yX12_sum, cX12_sum, 3, (some .boolean), 12)) rfl (show aTab 315 9 = some (.ireturn, 1, 0, 0, 0, 0, 0, 0) from rfl) ⟨rfl, rfl⟩ (Or.inl rfl)) (Or.inl ⟨rfl, c3, c4⟩)
  · refine e_then (e_call hT (y := 315) (pc := 2) (q := (yX12_sum, cX12_sum, 3, (some .boolean), 12)) rfl (show aTab 315 2 = some (.invokevirtual 301, 3, 1, 316, 0, 1, 3, 12) from rfl) rfl ⟨by decide, Nat.le_of_ble_eq_true rfl⟩ hmo (Nat.le_of_ble_eq_true rfl) (Nat.le_of_ble_eq_true rfl) ⟨by decide, by decide⟩ c1) ?_
    refine e_then (e_ifT hT (y := 315) (pc := 5) (q := (yX12_sum, cX12_sum, 3, (some .boolean), 12)) rfl (show aTab 315 5 = some (.ifCond .ne 5, 3, 0, 0, 0, 0, 0, 0) from rfl) rfl (t := 10) rfl (cdT (by show (1 : Int) ≠ 0; decide))) ?_
    exact X12_sum_loop hT hC hD hb hp hdd (by omega) (97 - q) q M2 _ (by have := pS_q c3; omega) (Nat.le_refl q) c3 rfl rfl
theorem X12_test_loop (hT : aTabOk) {key : Int32} {dp tu D b : Nat} {M0 : mHe} {p dd : Int} (hC : pC 315 key dp tu D) (hD : 2 ≤ D) (hb : pB M0 b) (hp : 0 ≤ p) (hdd : 0 ≤ dd) {dc : Nat} (hd : D ≤ dc) {q0 : Nat} : ∀ (j q : Nat) (M : mHe) (lv : List (Nat × Value)), q + j = 97 → q0 ≤ q → pS M0 M b p q (dd + 1) dp tu → mlg 0 lv = some (.ref 128) → mlg 1 lv = some (.int key) → mEv none (dc + 1) (314, 10, lv, []) M (pQ M0 b p q0 dd dp tu) := by
  intro j
  induction j with
  | zero =>
    intro q M lv hj hq h l0 l1
    have := pS_q h
    omega
  | succ j ih =>
    intro q M lv hj hq h l0 l1
    obtain ⟨tk, lt, h17, h19⟩ := pS_tk h
    obtain ⟨fo, hmo, -⟩ := yTy_obj h.ty (rfl : tTy 119 = some (.inr (12, _)))
    have f19 := fld_fs hmo h19
    have e2 : Int32.toInt 2 = 2 := rfl
    have hit : tk.toInt = 3 ∧ (lt.toInt = 60 ∨ lt.toInt = 61 ∨ lt.toInt = 62) → ∀ lv : List (Nat × Value), mlg 0 lv = some (.ref 128) → mlg 1 lv = some (.int key) → mEv none (dc + 1) (314, 37, lv, []) M (pQ M0 b p q0 dd dp tu) := by
      intro ⟨hs, hv⟩ lv l0 l1
      obtain ⟨N1, M1, n1, n2⟩ := next_run hT h ⟨tk, h17, by omega⟩
      have n1 := mRun_dm n1 (show 2 ≤ dc by omega)
      obtain ⟨N2, r2, M2, c1, c2⟩ := hC M0 M1 b (q + 1) (p + 1) (dd + 1) dc hd hb (by omega) (by omega) n2
      obtain ⟨fo1, hmo1, -⟩ := yTy_obj n2.ty (rfl : tTy 119 = some (.inr (12, _)))
      refine e_then (e_al1 hT (y := 314) (pc := 37) (q := (yX12_test, cX12_test, 3, (some .boolean), 12)) rfl (show aTab 314 37 = some (.aload_n 0, 1, 0, 0, 0, 0, 0, 0) from rfl) rfl l0) ?_
      refine e_then (e_getf hT (y := 314) (pc := 38) (q := (yX12_test, cX12_test, 3, (some .boolean), 12)) rfl (show aTab 314 38 = some (.getfield 259, 3, 0, 12, 19, 0, 0, 0) from rfl) rfl (by decide) (by decide) hmo f19) ?_
      refine e_then (e_is1 hT (y := 314) (pc := 41) (q := (yX12_test, cX12_test, 3, (some .boolean), 12)) rfl (show aTab 314 41 = some (.istore_n 2, 1, 0, 0, 0, 0, 0, 0) from rfl) ⟨rfl, by decide⟩) ?_
      refine e_then (e_al1 hT (y := 314) (pc := 42) (q := (yX12_test, cX12_test, 3, (some .boolean), 12)) rfl (show aTab 314 42 = some (.aload_n 0, 1, 0, 0, 0, 0, 0, 0) from rfl) rfl (mlg_r l0 (by decide))) ?_
      refine e_then (e_call hT (y := 314) (pc := 43) (q := (yX12_test, cX12_test, 3, (some .boolean), 12)) rfl (show aTab 314 43 = some (.invokevirtual 288, 3, 1, 305, 0, 0, 3, 12) from rfl) rfl ⟨by decide, Nat.le_of_ble_eq_true rfl⟩ hmo (Nat.le_of_ble_eq_true rfl) (Nat.le_of_ble_eq_true rfl) ⟨by decide, by decide⟩ n1) ?_
      refine e_then (e_al1 hT (y := 314) (pc := 46) (q := (yX12_test, cX12_test, 3, (some .boolean), 12)) rfl (show aTab 314 46 = some (.aload_n 0, 1, 0, 0, 0, 0, 0, 0) from rfl) rfl (mlg_r l0 (by decide))) ?_
      refine e_then (e_il1 hT (y := 314) (pc := 47) (q := (yX12_test, cX12_test, 3, (some .boolean), 12)) rfl (show aTab 314 47 = some (.iload_n 1, 1, 0, 0, 0, 0, 0, 0) from rfl) rfl (mlg_i l1 (by decide))) ?_
      rcases c2 with ⟨rfl, c3, c4⟩ | ⟨rfl, c3⟩
      · refine e_then (e_call hT (y := 314) (pc := 48) (q := (yX12_test, cX12_test, 3, (some .boolean), 12)) rfl (show aTab 314 48 = some (.invokevirtual 298, 3, 1, 315, 0, 1, 3, 12) from rfl) rfl ⟨by decide, Nat.le_of_ble_eq_true rfl⟩ hmo1 (Nat.le_of_ble_eq_true rfl) (Nat.le_of_ble_eq_true rfl) ⟨by decide, by decide⟩ c1) ?_
        refine e_then (e_ifF hT (y := 314) (pc := 51) (q := (yX12_test, cX12_test, 3, (some .boolean), 12)) rfl (show aTab 314 51 = some (.ifCond .ne 5, 3, 0, 0, 0, 0, 0, 0) from rfl) rfl (t := 56) rfl (cdF (by show ¬ ((0 : Int) ≠ 0); decide))) ?_
        refine e_then (e_st hT (y := 314) (pc := 54) (q := (yX12_test, cX12_test, 3, (some .boolean), 12)) rfl (show aTab 314 54 = some (.iconst 0, 1, 0, 0, 0, 0, 0, 0) from rfl) (fr' := (314, 55, (mlp 2 (.int lt) lv), [.int 0])) (M' := M2) rfl) ?_
        exact e_fin (e_zret hT (y := 314) (pc := 55) (q := (yX12_test, cX12_test, 3, (some .boolean), 12)) rfl (show aTab 314 55 = some (.ireturn, 1, 0, 0, 0, 0, 0, 0) from rfl) ⟨rfl, rfl⟩ (Or.inl rfl)) (Or.inl ⟨rfl, c3, c4⟩)
      · refine e_then (e_call hT (y := 314) (pc := 48) (q := (yX12_test, cX12_test, 3, (some .boolean), 12)) rfl (show aTab 314 48 = some (.invokevirtual 298, 3, 1, 315, 0, 1, 3, 12) from rfl) rfl ⟨by decide, Nat.le_of_ble_eq_true rfl⟩ hmo1 (Nat.le_of_ble_eq_true rfl) (Nat.le_of_ble_eq_true rfl) ⟨by decide, by decide⟩ c1) ?_
        refine e_then (e_ifT hT (y := 314) (pc := 51) (q := (yX12_test, cX12_test, 3, (some .boolean), 12)) rfl (show aTab 314 51 = some (.ifCond .ne 5, 3, 0, 0, 0, 0, 0, 0) from rfl) rfl (t := 56) rfl (cdT (by show (1 : Int) ≠ 0; decide))) ?_
        refine e_then (e_al1 hT (y := 314) (pc := 56) (q := (yX12_test, cX12_test, 3, (some .boolean), 12)) rfl (show aTab 314 56 = some (.aload_n 0, 1, 0, 0, 0, 0, 0, 0) from rfl) rfl (mlg_r l0 (by decide))) ?_
        refine e_then (e_st hT (y := 314) (pc := 57) (q := (yX12_test, cX12_test, 3, (some .boolean), 12)) rfl (show aTab 314 57 = some (.iconst 2, 1, 0, 0, 0, 0, 0, 0) from rfl) (fr' := (314, 58, (mlp 2 (.int lt) lv), [.int 2, .ref 128])) (M' := M2) rfl) ?_
        refine e_then (e_il1 hT (y := 314) (pc := 58) (q := (yX12_test, cX12_test, 3, (some .boolean), 12)) rfl (show aTab 314 58 = some (.iload_n 2, 1, 0, 0, 0, 0, 0, 0) from rfl) rfl (mlg_eq 2 _ _)) ?_
        obtain ⟨N3, M3, s1, s2, -⟩ := step_run hT (w := 2) (v := lt) (dd' := dd + 1) c3 hb ⟨fun z => absurd rfl z, fun _ z => by omega, fun _ _ => by omega⟩ (Or.inl (by omega))
        have s1 := mRun_dm s1 (Nat.zero_le dc)
        rw [Int.add_sub_cancel] at s2
        obtain ⟨fo2, hmo2, -⟩ := yTy_obj c3.ty (rfl : tTy 119 = some (.inr (12, _)))
        refine e_then (e_call hT (y := 314) (pc := 59) (q := (yX12_test, cX12_test, 3, (some .boolean), 12)) rfl (show aTab 314 59 = some (.invokevirtual 291, 3, 1, 311, 0, 2, 3, 12) from rfl) rfl ⟨by decide, Nat.le_of_ble_eq_true rfl⟩ hmo2 (Nat.le_of_ble_eq_true rfl) (Nat.le_of_ble_eq_true rfl) ⟨by decide, by decide⟩ s1) ?_
        refine e_then (e_st hT (y := 314) (pc := 62) (q := (yX12_test, cX12_test, 3, (some .boolean), 12)) rfl (show aTab 314 62 = some (.iconst 1, 1, 0, 0, 0, 0, 0, 0) from rfl) (fr' := (314, 63, (mlp 2 (.int lt) lv), [.int 1])) (M' := M3) rfl) ?_
        exact e_fin (e_zret hT (y := 314) (pc := 63) (q := (yX12_test, cX12_test, 3, (some .boolean), 12)) rfl (show aTab 314 63 = some (.ireturn, 1, 0, 0, 0, 0, 0, 0) from rfl) ⟨rfl, rfl⟩ (Or.inr rfl)) (Or.inr ⟨rfl, pS_le s2 (Int.le_refl _) (by omega)⟩)
    obtain ⟨N0', r0⟩ := isSign_run hT (d := dc) (c := 60) h.ty h17 h19
    refine e_then (e_al1 hT (y := 314) (pc := 10) (q := (yX12_test, cX12_test, 3, (some .boolean), 12)) rfl (show aTab 314 10 = some (.aload_n 0, 1, 0, 0, 0, 0, 0, 0) from rfl) rfl l0) ?_
    refine e_then (e_st hT (y := 314) (pc := 11) (q := (yX12_test, cX12_test, 3, (some .boolean), 12)) rfl (show aTab 314 11 = some (.bipush 60, 2, 0, 0, 0, 0, 0, 0) from rfl) (fr' := (314, 13, lv, [.int 60, .ref 128])) (M' := M) rfl) ?_
    by_cases hs0 : tk.toInt = 3 ∧ lt.toInt = (60 : Int32).toInt
    · rw [if_pos hs0] at r0
      refine e_then (e_call hT (y := 314) (pc := 13) (q := (yX12_test, cX12_test, 3, (some .boolean), 12)) rfl (show aTab 314 13 = some (.invokevirtual 285, 3, 1, 306, 0, 1, 2, 12) from rfl) rfl ⟨by decide, Nat.le_of_ble_eq_true rfl⟩ hmo (Nat.le_of_ble_eq_true rfl) (Nat.le_of_ble_eq_true rfl) ⟨by decide, by decide⟩ r0) ?_
      refine e_then (e_ifT hT (y := 314) (pc := 16) (q := (yX12_test, cX12_test, 3, (some .boolean), 12)) rfl (show aTab 314 16 = some (.ifCond .ne 21, 3, 0, 0, 0, 0, 0, 0) from rfl) rfl (t := 37) rfl (cdT (by show (1 : Int) ≠ 0; decide))) ?_
      exact hit ⟨hs0.1, (Or.inl hs0.2)⟩ lv l0 l1
    · rw [if_neg hs0] at r0
      refine e_then (e_call hT (y := 314) (pc := 13) (q := (yX12_test, cX12_test, 3, (some .boolean), 12)) rfl (show aTab 314 13 = some (.invokevirtual 285, 3, 1, 306, 0, 1, 2, 12) from rfl) rfl ⟨by decide, Nat.le_of_ble_eq_true rfl⟩ hmo (Nat.le_of_ble_eq_true rfl) (Nat.le_of_ble_eq_true rfl) ⟨by decide, by decide⟩ r0) ?_
      refine e_then (e_ifF hT (y := 314) (pc := 16) (q := (yX12_test, cX12_test, 3, (some .boolean), 12)) rfl (show aTab 314 16 = some (.ifCond .ne 21, 3, 0, 0, 0, 0, 0, 0) from rfl) rfl (t := 37) rfl (cdF (by show ¬ ((0 : Int) ≠ 0); decide))) ?_
      obtain ⟨N1', r1⟩ := isSign_run hT (d := dc) (c := 61) h.ty h17 h19
      refine e_then (e_al1 hT (y := 314) (pc := 19) (q := (yX12_test, cX12_test, 3, (some .boolean), 12)) rfl (show aTab 314 19 = some (.aload_n 0, 1, 0, 0, 0, 0, 0, 0) from rfl) rfl l0) ?_
      refine e_then (e_st hT (y := 314) (pc := 20) (q := (yX12_test, cX12_test, 3, (some .boolean), 12)) rfl (show aTab 314 20 = some (.bipush 61, 2, 0, 0, 0, 0, 0, 0) from rfl) (fr' := (314, 22, lv, [.int 61, .ref 128])) (M' := M) rfl) ?_
      by_cases hs1 : tk.toInt = 3 ∧ lt.toInt = (61 : Int32).toInt
      · rw [if_pos hs1] at r1
        refine e_then (e_call hT (y := 314) (pc := 22) (q := (yX12_test, cX12_test, 3, (some .boolean), 12)) rfl (show aTab 314 22 = some (.invokevirtual 285, 3, 1, 306, 0, 1, 2, 12) from rfl) rfl ⟨by decide, Nat.le_of_ble_eq_true rfl⟩ hmo (Nat.le_of_ble_eq_true rfl) (Nat.le_of_ble_eq_true rfl) ⟨by decide, by decide⟩ r1) ?_
        refine e_then (e_ifT hT (y := 314) (pc := 25) (q := (yX12_test, cX12_test, 3, (some .boolean), 12)) rfl (show aTab 314 25 = some (.ifCond .ne 12, 3, 0, 0, 0, 0, 0, 0) from rfl) rfl (t := 37) rfl (cdT (by show (1 : Int) ≠ 0; decide))) ?_
        exact hit ⟨hs1.1, (Or.inr (Or.inl hs1.2))⟩ lv l0 l1
      · rw [if_neg hs1] at r1
        refine e_then (e_call hT (y := 314) (pc := 22) (q := (yX12_test, cX12_test, 3, (some .boolean), 12)) rfl (show aTab 314 22 = some (.invokevirtual 285, 3, 1, 306, 0, 1, 2, 12) from rfl) rfl ⟨by decide, Nat.le_of_ble_eq_true rfl⟩ hmo (Nat.le_of_ble_eq_true rfl) (Nat.le_of_ble_eq_true rfl) ⟨by decide, by decide⟩ r1) ?_
        refine e_then (e_ifF hT (y := 314) (pc := 25) (q := (yX12_test, cX12_test, 3, (some .boolean), 12)) rfl (show aTab 314 25 = some (.ifCond .ne 12, 3, 0, 0, 0, 0, 0, 0) from rfl) rfl (t := 37) rfl (cdF (by show ¬ ((0 : Int) ≠ 0); decide))) ?_
        obtain ⟨N2', r2⟩ := isSign_run hT (d := dc) (c := 62) h.ty h17 h19
        refine e_then (e_al1 hT (y := 314) (pc := 28) (q := (yX12_test, cX12_test, 3, (some .boolean), 12)) rfl (show aTab 314 28 = some (.aload_n 0, 1, 0, 0, 0, 0, 0, 0) from rfl) rfl l0) ?_
        refine e_then (e_st hT (y := 314) (pc := 29) (q := (yX12_test, cX12_test, 3, (some .boolean), 12)) rfl (show aTab 314 29 = some (.bipush 62, 2, 0, 0, 0, 0, 0, 0) from rfl) (fr' := (314, 31, lv, [.int 62, .ref 128])) (M' := M) rfl) ?_
        by_cases hs2 : tk.toInt = 3 ∧ lt.toInt = (62 : Int32).toInt
        · rw [if_pos hs2] at r2
          refine e_then (e_call hT (y := 314) (pc := 31) (q := (yX12_test, cX12_test, 3, (some .boolean), 12)) rfl (show aTab 314 31 = some (.invokevirtual 285, 3, 1, 306, 0, 1, 2, 12) from rfl) rfl ⟨by decide, Nat.le_of_ble_eq_true rfl⟩ hmo (Nat.le_of_ble_eq_true rfl) (Nat.le_of_ble_eq_true rfl) ⟨by decide, by decide⟩ r2) ?_
          refine e_then (e_ifF hT (y := 314) (pc := 34) (q := (yX12_test, cX12_test, 3, (some .boolean), 12)) rfl (show aTab 314 34 = some (.ifCond .eq 28, 3, 0, 0, 0, 0, 0, 0) from rfl) rfl (t := 62) rfl (cdF (by show ¬ ((1 : Int) = 0); decide))) ?_
          exact hit ⟨hs2.1, (Or.inr (Or.inr hs2.2))⟩ lv l0 l1
        · rw [if_neg hs2] at r2
          refine e_then (e_call hT (y := 314) (pc := 31) (q := (yX12_test, cX12_test, 3, (some .boolean), 12)) rfl (show aTab 314 31 = some (.invokevirtual 285, 3, 1, 306, 0, 1, 2, 12) from rfl) rfl ⟨by decide, Nat.le_of_ble_eq_true rfl⟩ hmo (Nat.le_of_ble_eq_true rfl) (Nat.le_of_ble_eq_true rfl) ⟨by decide, by decide⟩ r2) ?_
          refine e_then (e_ifT hT (y := 314) (pc := 34) (q := (yX12_test, cX12_test, 3, (some .boolean), 12)) rfl (show aTab 314 34 = some (.ifCond .eq 28, 3, 0, 0, 0, 0, 0, 0) from rfl) rfl (t := 62) rfl (cdT (by show (0 : Int) = 0; rfl))) ?_
          refine e_then (e_st hT (y := 314) (pc := 62) (q := (yX12_test, cX12_test, 3, (some .boolean), 12)) rfl (show aTab 314 62 = some (.iconst 1, 1, 0, 0, 0, 0, 0, 0) from rfl) (fr' := (314, 63, lv, [.int 1])) (M' := M) rfl) ?_
          exact e_fin (e_zret hT (y := 314) (pc := 63) (q := (yX12_test, cX12_test, 3, (some .boolean), 12)) rfl (show aTab 314 63 = some (.ireturn, 1, 0, 0, 0, 0, 0, 0) from rfl) ⟨rfl, rfl⟩ (Or.inr rfl)) (Or.inr ⟨rfl, pS_le h (Int.le_refl _) hq⟩)
theorem X12_test_of (hT : aTabOk) {key : Int32} {dp tu D : Nat} (hC : pC 315 key dp tu D) (hD : 2 ≤ D) : pC 314 key dp tu (D + 1) := by
  intro M0 M b q p dd d hd hb hp hdd h
  obtain ⟨dc, rfl⟩ : ∃ dc, d = dc + 1 := ⟨d - 1, by omega⟩
  obtain ⟨N2, r2, M2, c1, c2⟩ := hC M0 M b q p dd dc (by omega) hb hp hdd h
  obtain ⟨fo, hmo, -⟩ := yTy_obj h.ty (rfl : tTy 119 = some (.inr (12, _)))
  refine e_then (e_al1 hT (y := 314) (pc := 0) (q := (yX12_test, cX12_test, 3, (some .boolean), 12)) rfl (show aTab 314 0 = some (.aload_n 0, 1, 0, 0, 0, 0, 0, 0) from rfl) rfl rfl) ?_
  refine e_then (e_il1 hT (y := 314) (pc := 1) (q := (yX12_test, cX12_test, 3, (some .boolean), 12)) rfl (show aTab 314 1 = some (.iload_n 1, 1, 0, 0, 0, 0, 0, 0) from rfl) rfl rfl) ?_
  rcases c2 with ⟨rfl, c3, c4⟩ | ⟨rfl, c3⟩
  · refine e_then (e_call hT (y := 314) (pc := 2) (q := (yX12_test, cX12_test, 3, (some .boolean), 12)) rfl (show aTab 314 2 = some (.invokevirtual 298, 3, 1, 315, 0, 1, 3, 12) from rfl) rfl ⟨by decide, Nat.le_of_ble_eq_true rfl⟩ hmo (Nat.le_of_ble_eq_true rfl) (Nat.le_of_ble_eq_true rfl) ⟨by decide, by decide⟩ c1) ?_
    refine e_then (e_ifF hT (y := 314) (pc := 5) (q := (yX12_test, cX12_test, 3, (some .boolean), 12)) rfl (show aTab 314 5 = some (.ifCond .ne 5, 3, 0, 0, 0, 0, 0, 0) from rfl) rfl (t := 10) rfl (cdF (by show ¬ ((0 : Int) ≠ 0); decide))) ?_
    refine e_then (e_st hT (y := 314) (pc := 8) (q := (yX12_test, cX12_test, 3, (some .boolean), 12)) rfl (show aTab 314 8 = some (.iconst 0, 1, 0, 0, 0, 0, 0, 0) from rfl) (fr' := (314, 9, (lv_args 0 [.ref 128, .int key]), [.int 0])) (M' := M2) rfl) ?_
    exact e_fin (e_zret hT (y := 314) (pc := 9) (q := (yX12_test, cX12_test, 3, (some .boolean), 12)) rfl (show aTab 314 9 = some (.ireturn, 1, 0, 0, 0, 0, 0, 0) from rfl) ⟨rfl, rfl⟩ (Or.inl rfl)) (Or.inl ⟨rfl, c3, c4⟩)
  · refine e_then (e_call hT (y := 314) (pc := 2) (q := (yX12_test, cX12_test, 3, (some .boolean), 12)) rfl (show aTab 314 2 = some (.invokevirtual 298, 3, 1, 315, 0, 1, 3, 12) from rfl) rfl ⟨by decide, Nat.le_of_ble_eq_true rfl⟩ hmo (Nat.le_of_ble_eq_true rfl) (Nat.le_of_ble_eq_true rfl) ⟨by decide, by decide⟩ c1) ?_
    refine e_then (e_ifT hT (y := 314) (pc := 5) (q := (yX12_test, cX12_test, 3, (some .boolean), 12)) rfl (show aTab 314 5 = some (.ifCond .ne 5, 3, 0, 0, 0, 0, 0, 0) from rfl) rfl (t := 10) rfl (cdT (by show (1 : Int) ≠ 0; decide))) ?_
    exact X12_test_loop hT hC hD hb hp hdd (by omega) (97 - q) q M2 _ (by have := pS_q c3; omega) (Nat.le_refl q) c3 rfl rfl
theorem X12_both_loop (hT : aTabOk) {key : Int32} {dp tu D b : Nat} {M0 : mHe} {p dd : Int} (hC : pC 314 key dp tu D) (hD : 2 ≤ D) (hb : pB M0 b) (hp : 0 ≤ p) (hdd : 0 ≤ dd) {dc : Nat} (hd : D ≤ dc) {q0 : Nat} : ∀ (j q : Nat) (M : mHe) (lv : List (Nat × Value)), q + j = 97 → q0 ≤ q → pS M0 M b p q (dd + 1) dp tu → mlg 0 lv = some (.ref 128) → mlg 1 lv = some (.int key) → mEv none (dc + 1) (313, 10, lv, []) M (pQ M0 b p q0 dd dp tu) := by
  intro j
  induction j with
  | zero =>
    intro q M lv hj hq h l0 l1
    have := pS_q h
    omega
  | succ j ih =>
    intro q M lv hj hq h l0 l1
    obtain ⟨tk, lt, h17, h19⟩ := pS_tk h
    obtain ⟨fo, hmo, -⟩ := yTy_obj h.ty (rfl : tTy 119 = some (.inr (12, _)))
    have f19 := fld_fs hmo h19
    have e2 : Int32.toInt 2 = 2 := rfl
    have hit : tk.toInt = 3 ∧ (lt.toInt = 38) → ∀ lv : List (Nat × Value), mlg 0 lv = some (.ref 128) → mlg 1 lv = some (.int key) → mEv none (dc + 1) (313, 19, lv, []) M (pQ M0 b p q0 dd dp tu) := by
      intro ⟨hs, hv⟩ lv l0 l1
      obtain ⟨N1, M1, n1, n2⟩ := next_run hT h ⟨tk, h17, by omega⟩
      have n1 := mRun_dm n1 (show 2 ≤ dc by omega)
      obtain ⟨N2, r2, M2, c1, c2⟩ := hC M0 M1 b (q + 1) (p + 1) (dd + 1) dc hd hb (by omega) (by omega) n2
      obtain ⟨fo1, hmo1, -⟩ := yTy_obj n2.ty (rfl : tTy 119 = some (.inr (12, _)))
      refine e_then (e_al1 hT (y := 313) (pc := 19) (q := (yX12_both, cX12_both, 2, (some .boolean), 12)) rfl (show aTab 313 19 = some (.aload_n 0, 1, 0, 0, 0, 0, 0, 0) from rfl) rfl l0) ?_
      refine e_then (e_call hT (y := 313) (pc := 20) (q := (yX12_both, cX12_both, 2, (some .boolean), 12)) rfl (show aTab 313 20 = some (.invokevirtual 288, 3, 1, 305, 0, 0, 3, 12) from rfl) rfl ⟨by decide, Nat.le_of_ble_eq_true rfl⟩ hmo (Nat.le_of_ble_eq_true rfl) (Nat.le_of_ble_eq_true rfl) ⟨by decide, by decide⟩ n1) ?_
      refine e_then (e_al1 hT (y := 313) (pc := 23) (q := (yX12_both, cX12_both, 2, (some .boolean), 12)) rfl (show aTab 313 23 = some (.aload_n 0, 1, 0, 0, 0, 0, 0, 0) from rfl) rfl l0) ?_
      refine e_then (e_il1 hT (y := 313) (pc := 24) (q := (yX12_both, cX12_both, 2, (some .boolean), 12)) rfl (show aTab 313 24 = some (.iload_n 1, 1, 0, 0, 0, 0, 0, 0) from rfl) rfl l1) ?_
      rcases c2 with ⟨rfl, c3, c4⟩ | ⟨rfl, c3⟩
      · refine e_then (e_call hT (y := 313) (pc := 25) (q := (yX12_both, cX12_both, 2, (some .boolean), 12)) rfl (show aTab 313 25 = some (.invokevirtual 295, 3, 1, 314, 0, 1, 3, 12) from rfl) rfl ⟨by decide, Nat.le_of_ble_eq_true rfl⟩ hmo1 (Nat.le_of_ble_eq_true rfl) (Nat.le_of_ble_eq_true rfl) ⟨by decide, by decide⟩ c1) ?_
        refine e_then (e_ifF hT (y := 313) (pc := 28) (q := (yX12_both, cX12_both, 2, (some .boolean), 12)) rfl (show aTab 313 28 = some (.ifCond .ne 5, 3, 0, 0, 0, 0, 0, 0) from rfl) rfl (t := 33) rfl (cdF (by show ¬ ((0 : Int) ≠ 0); decide))) ?_
        refine e_then (e_st hT (y := 313) (pc := 31) (q := (yX12_both, cX12_both, 2, (some .boolean), 12)) rfl (show aTab 313 31 = some (.iconst 0, 1, 0, 0, 0, 0, 0, 0) from rfl) (fr' := (313, 32, lv, [.int 0])) (M' := M2) rfl) ?_
        exact e_fin (e_zret hT (y := 313) (pc := 32) (q := (yX12_both, cX12_both, 2, (some .boolean), 12)) rfl (show aTab 313 32 = some (.ireturn, 1, 0, 0, 0, 0, 0, 0) from rfl) ⟨rfl, rfl⟩ (Or.inl rfl)) (Or.inl ⟨rfl, c3, c4⟩)
      · refine e_then (e_call hT (y := 313) (pc := 25) (q := (yX12_both, cX12_both, 2, (some .boolean), 12)) rfl (show aTab 313 25 = some (.invokevirtual 295, 3, 1, 314, 0, 1, 3, 12) from rfl) rfl ⟨by decide, Nat.le_of_ble_eq_true rfl⟩ hmo1 (Nat.le_of_ble_eq_true rfl) (Nat.le_of_ble_eq_true rfl) ⟨by decide, by decide⟩ c1) ?_
        refine e_then (e_ifT hT (y := 313) (pc := 28) (q := (yX12_both, cX12_both, 2, (some .boolean), 12)) rfl (show aTab 313 28 = some (.ifCond .ne 5, 3, 0, 0, 0, 0, 0, 0) from rfl) rfl (t := 33) rfl (cdT (by show (1 : Int) ≠ 0; decide))) ?_
        refine e_then (e_al1 hT (y := 313) (pc := 33) (q := (yX12_both, cX12_both, 2, (some .boolean), 12)) rfl (show aTab 313 33 = some (.aload_n 0, 1, 0, 0, 0, 0, 0, 0) from rfl) rfl l0) ?_
        refine e_then (e_st hT (y := 313) (pc := 34) (q := (yX12_both, cX12_both, 2, (some .boolean), 12)) rfl (show aTab 313 34 = some (.iconst 2, 1, 0, 0, 0, 0, 0, 0) from rfl) (fr' := (313, 35, lv, [.int 2, .ref 128])) (M' := M2) rfl) ?_
        refine e_then (e_st hT (y := 313) (pc := 35) (q := (yX12_both, cX12_both, 2, (some .boolean), 12)) rfl (show aTab 313 35 = some (.bipush 38, 2, 0, 0, 0, 0, 0, 0) from rfl) (fr' := (313, 37, lv, [.int 38, .int 2, .ref 128])) (M' := M2) rfl) ?_
        obtain ⟨N3, M3, s1, s2, -⟩ := step_run hT (w := 2) (v := 38) (dd' := dd + 1) c3 hb ⟨fun z => absurd rfl z, fun _ z => absurd z (by decide), fun _ _ => by omega⟩ (Or.inl (by omega))
        have s1 := mRun_dm s1 (Nat.zero_le dc)
        rw [Int.add_sub_cancel] at s2
        obtain ⟨fo2, hmo2, -⟩ := yTy_obj c3.ty (rfl : tTy 119 = some (.inr (12, _)))
        refine e_then (e_call hT (y := 313) (pc := 37) (q := (yX12_both, cX12_both, 2, (some .boolean), 12)) rfl (show aTab 313 37 = some (.invokevirtual 291, 3, 1, 311, 0, 2, 3, 12) from rfl) rfl ⟨by decide, Nat.le_of_ble_eq_true rfl⟩ hmo2 (Nat.le_of_ble_eq_true rfl) (Nat.le_of_ble_eq_true rfl) ⟨by decide, by decide⟩ s1) ?_
        refine e_then (e_st hT (y := 313) (pc := 40) (q := (yX12_both, cX12_both, 2, (some .boolean), 12)) rfl (show aTab 313 40 = some (.goto (-30), 3, 0, 0, 0, 0, 0, 0) from rfl) (fr' := (313, 10, _, [])) (M' := _) rfl) ?_
        exact ih (q + 1) M3 _ (by omega) (by omega) s2 l0 l1
    obtain ⟨N0', r0⟩ := isSign_run hT (d := dc) (c := 38) h.ty h17 h19
    refine e_then (e_al1 hT (y := 313) (pc := 10) (q := (yX12_both, cX12_both, 2, (some .boolean), 12)) rfl (show aTab 313 10 = some (.aload_n 0, 1, 0, 0, 0, 0, 0, 0) from rfl) rfl l0) ?_
    refine e_then (e_st hT (y := 313) (pc := 11) (q := (yX12_both, cX12_both, 2, (some .boolean), 12)) rfl (show aTab 313 11 = some (.bipush 38, 2, 0, 0, 0, 0, 0, 0) from rfl) (fr' := (313, 13, lv, [.int 38, .ref 128])) (M' := M) rfl) ?_
    by_cases hs0 : tk.toInt = 3 ∧ lt.toInt = (38 : Int32).toInt
    · rw [if_pos hs0] at r0
      refine e_then (e_call hT (y := 313) (pc := 13) (q := (yX12_both, cX12_both, 2, (some .boolean), 12)) rfl (show aTab 313 13 = some (.invokevirtual 285, 3, 1, 306, 0, 1, 2, 12) from rfl) rfl ⟨by decide, Nat.le_of_ble_eq_true rfl⟩ hmo (Nat.le_of_ble_eq_true rfl) (Nat.le_of_ble_eq_true rfl) ⟨by decide, by decide⟩ r0) ?_
      refine e_then (e_ifF hT (y := 313) (pc := 16) (q := (yX12_both, cX12_both, 2, (some .boolean), 12)) rfl (show aTab 313 16 = some (.ifCond .eq 27, 3, 0, 0, 0, 0, 0, 0) from rfl) rfl (t := 43) rfl (cdF (by show ¬ ((1 : Int) = 0); decide))) ?_
      exact hit ⟨hs0.1, hs0.2⟩ lv l0 l1
    · rw [if_neg hs0] at r0
      refine e_then (e_call hT (y := 313) (pc := 13) (q := (yX12_both, cX12_both, 2, (some .boolean), 12)) rfl (show aTab 313 13 = some (.invokevirtual 285, 3, 1, 306, 0, 1, 2, 12) from rfl) rfl ⟨by decide, Nat.le_of_ble_eq_true rfl⟩ hmo (Nat.le_of_ble_eq_true rfl) (Nat.le_of_ble_eq_true rfl) ⟨by decide, by decide⟩ r0) ?_
      refine e_then (e_ifT hT (y := 313) (pc := 16) (q := (yX12_both, cX12_both, 2, (some .boolean), 12)) rfl (show aTab 313 16 = some (.ifCond .eq 27, 3, 0, 0, 0, 0, 0, 0) from rfl) rfl (t := 43) rfl (cdT (by show (0 : Int) = 0; rfl))) ?_
      refine e_then (e_st hT (y := 313) (pc := 43) (q := (yX12_both, cX12_both, 2, (some .boolean), 12)) rfl (show aTab 313 43 = some (.iconst 1, 1, 0, 0, 0, 0, 0, 0) from rfl) (fr' := (313, 44, lv, [.int 1])) (M' := M) rfl) ?_
      exact e_fin (e_zret hT (y := 313) (pc := 44) (q := (yX12_both, cX12_both, 2, (some .boolean), 12)) rfl (show aTab 313 44 = some (.ireturn, 1, 0, 0, 0, 0, 0, 0) from rfl) ⟨rfl, rfl⟩ (Or.inr rfl)) (Or.inr ⟨rfl, pS_le h (Int.le_refl _) hq⟩)
theorem X12_both_of (hT : aTabOk) {key : Int32} {dp tu D : Nat} (hC : pC 314 key dp tu D) (hD : 2 ≤ D) : pC 313 key dp tu (D + 1) := by
  intro M0 M b q p dd d hd hb hp hdd h
  obtain ⟨dc, rfl⟩ : ∃ dc, d = dc + 1 := ⟨d - 1, by omega⟩
  obtain ⟨N2, r2, M2, c1, c2⟩ := hC M0 M b q p dd dc (by omega) hb hp hdd h
  obtain ⟨fo, hmo, -⟩ := yTy_obj h.ty (rfl : tTy 119 = some (.inr (12, _)))
  refine e_then (e_al1 hT (y := 313) (pc := 0) (q := (yX12_both, cX12_both, 2, (some .boolean), 12)) rfl (show aTab 313 0 = some (.aload_n 0, 1, 0, 0, 0, 0, 0, 0) from rfl) rfl rfl) ?_
  refine e_then (e_il1 hT (y := 313) (pc := 1) (q := (yX12_both, cX12_both, 2, (some .boolean), 12)) rfl (show aTab 313 1 = some (.iload_n 1, 1, 0, 0, 0, 0, 0, 0) from rfl) rfl rfl) ?_
  rcases c2 with ⟨rfl, c3, c4⟩ | ⟨rfl, c3⟩
  · refine e_then (e_call hT (y := 313) (pc := 2) (q := (yX12_both, cX12_both, 2, (some .boolean), 12)) rfl (show aTab 313 2 = some (.invokevirtual 295, 3, 1, 314, 0, 1, 3, 12) from rfl) rfl ⟨by decide, Nat.le_of_ble_eq_true rfl⟩ hmo (Nat.le_of_ble_eq_true rfl) (Nat.le_of_ble_eq_true rfl) ⟨by decide, by decide⟩ c1) ?_
    refine e_then (e_ifF hT (y := 313) (pc := 5) (q := (yX12_both, cX12_both, 2, (some .boolean), 12)) rfl (show aTab 313 5 = some (.ifCond .ne 5, 3, 0, 0, 0, 0, 0, 0) from rfl) rfl (t := 10) rfl (cdF (by show ¬ ((0 : Int) ≠ 0); decide))) ?_
    refine e_then (e_st hT (y := 313) (pc := 8) (q := (yX12_both, cX12_both, 2, (some .boolean), 12)) rfl (show aTab 313 8 = some (.iconst 0, 1, 0, 0, 0, 0, 0, 0) from rfl) (fr' := (313, 9, (lv_args 0 [.ref 128, .int key]), [.int 0])) (M' := M2) rfl) ?_
    exact e_fin (e_zret hT (y := 313) (pc := 9) (q := (yX12_both, cX12_both, 2, (some .boolean), 12)) rfl (show aTab 313 9 = some (.ireturn, 1, 0, 0, 0, 0, 0, 0) from rfl) ⟨rfl, rfl⟩ (Or.inl rfl)) (Or.inl ⟨rfl, c3, c4⟩)
  · refine e_then (e_call hT (y := 313) (pc := 2) (q := (yX12_both, cX12_both, 2, (some .boolean), 12)) rfl (show aTab 313 2 = some (.invokevirtual 295, 3, 1, 314, 0, 1, 3, 12) from rfl) rfl ⟨by decide, Nat.le_of_ble_eq_true rfl⟩ hmo (Nat.le_of_ble_eq_true rfl) (Nat.le_of_ble_eq_true rfl) ⟨by decide, by decide⟩ c1) ?_
    refine e_then (e_ifT hT (y := 313) (pc := 5) (q := (yX12_both, cX12_both, 2, (some .boolean), 12)) rfl (show aTab 313 5 = some (.ifCond .ne 5, 3, 0, 0, 0, 0, 0, 0) from rfl) rfl (t := 10) rfl (cdT (by show (1 : Int) ≠ 0; decide))) ?_
    exact X12_both_loop hT hC hD hb hp hdd (by omega) (97 - q) q M2 _ (by have := pS_q c3; omega) (Nat.le_refl q) c3 rfl rfl
theorem X12_either_loop (hT : aTabOk) {key : Int32} {dp tu D b : Nat} {M0 : mHe} {p dd : Int} (hC : pC 313 key dp tu D) (hD : 2 ≤ D) (hb : pB M0 b) (hp : 0 ≤ p) (hdd : 0 ≤ dd) {dc : Nat} (hd : D ≤ dc) {q0 : Nat} : ∀ (j q : Nat) (M : mHe) (lv : List (Nat × Value)), q + j = 97 → q0 ≤ q → pS M0 M b p q (dd + 1) dp tu → mlg 0 lv = some (.ref 128) → mlg 1 lv = some (.int key) → mEv none (dc + 1) (312, 10, lv, []) M (pQ M0 b p q0 dd dp tu) := by
  intro j
  induction j with
  | zero =>
    intro q M lv hj hq h l0 l1
    have := pS_q h
    omega
  | succ j ih =>
    intro q M lv hj hq h l0 l1
    obtain ⟨tk, lt, h17, h19⟩ := pS_tk h
    obtain ⟨fo, hmo, -⟩ := yTy_obj h.ty (rfl : tTy 119 = some (.inr (12, _)))
    have f19 := fld_fs hmo h19
    have e2 : Int32.toInt 2 = 2 := rfl
    have hit : tk.toInt = 3 ∧ (lt.toInt = 124) → ∀ lv : List (Nat × Value), mlg 0 lv = some (.ref 128) → mlg 1 lv = some (.int key) → mEv none (dc + 1) (312, 19, lv, []) M (pQ M0 b p q0 dd dp tu) := by
      intro ⟨hs, hv⟩ lv l0 l1
      obtain ⟨N1, M1, n1, n2⟩ := next_run hT h ⟨tk, h17, by omega⟩
      have n1 := mRun_dm n1 (show 2 ≤ dc by omega)
      obtain ⟨N2, r2, M2, c1, c2⟩ := hC M0 M1 b (q + 1) (p + 1) (dd + 1) dc hd hb (by omega) (by omega) n2
      obtain ⟨fo1, hmo1, -⟩ := yTy_obj n2.ty (rfl : tTy 119 = some (.inr (12, _)))
      refine e_then (e_al1 hT (y := 312) (pc := 19) (q := (yX12_either, cX12_either, 2, (some .boolean), 12)) rfl (show aTab 312 19 = some (.aload_n 0, 1, 0, 0, 0, 0, 0, 0) from rfl) rfl l0) ?_
      refine e_then (e_call hT (y := 312) (pc := 20) (q := (yX12_either, cX12_either, 2, (some .boolean), 12)) rfl (show aTab 312 20 = some (.invokevirtual 288, 3, 1, 305, 0, 0, 3, 12) from rfl) rfl ⟨by decide, Nat.le_of_ble_eq_true rfl⟩ hmo (Nat.le_of_ble_eq_true rfl) (Nat.le_of_ble_eq_true rfl) ⟨by decide, by decide⟩ n1) ?_
      refine e_then (e_al1 hT (y := 312) (pc := 23) (q := (yX12_either, cX12_either, 2, (some .boolean), 12)) rfl (show aTab 312 23 = some (.aload_n 0, 1, 0, 0, 0, 0, 0, 0) from rfl) rfl l0) ?_
      refine e_then (e_il1 hT (y := 312) (pc := 24) (q := (yX12_either, cX12_either, 2, (some .boolean), 12)) rfl (show aTab 312 24 = some (.iload_n 1, 1, 0, 0, 0, 0, 0, 0) from rfl) rfl l1) ?_
      rcases c2 with ⟨rfl, c3, c4⟩ | ⟨rfl, c3⟩
      · refine e_then (e_call hT (y := 312) (pc := 25) (q := (yX12_either, cX12_either, 2, (some .boolean), 12)) rfl (show aTab 312 25 = some (.invokevirtual 282, 3, 1, 313, 0, 1, 2, 12) from rfl) rfl ⟨by decide, Nat.le_of_ble_eq_true rfl⟩ hmo1 (Nat.le_of_ble_eq_true rfl) (Nat.le_of_ble_eq_true rfl) ⟨by decide, by decide⟩ c1) ?_
        refine e_then (e_ifF hT (y := 312) (pc := 28) (q := (yX12_either, cX12_either, 2, (some .boolean), 12)) rfl (show aTab 312 28 = some (.ifCond .ne 5, 3, 0, 0, 0, 0, 0, 0) from rfl) rfl (t := 33) rfl (cdF (by show ¬ ((0 : Int) ≠ 0); decide))) ?_
        refine e_then (e_st hT (y := 312) (pc := 31) (q := (yX12_either, cX12_either, 2, (some .boolean), 12)) rfl (show aTab 312 31 = some (.iconst 0, 1, 0, 0, 0, 0, 0, 0) from rfl) (fr' := (312, 32, lv, [.int 0])) (M' := M2) rfl) ?_
        exact e_fin (e_zret hT (y := 312) (pc := 32) (q := (yX12_either, cX12_either, 2, (some .boolean), 12)) rfl (show aTab 312 32 = some (.ireturn, 1, 0, 0, 0, 0, 0, 0) from rfl) ⟨rfl, rfl⟩ (Or.inl rfl)) (Or.inl ⟨rfl, c3, c4⟩)
      · refine e_then (e_call hT (y := 312) (pc := 25) (q := (yX12_either, cX12_either, 2, (some .boolean), 12)) rfl (show aTab 312 25 = some (.invokevirtual 282, 3, 1, 313, 0, 1, 2, 12) from rfl) rfl ⟨by decide, Nat.le_of_ble_eq_true rfl⟩ hmo1 (Nat.le_of_ble_eq_true rfl) (Nat.le_of_ble_eq_true rfl) ⟨by decide, by decide⟩ c1) ?_
        refine e_then (e_ifT hT (y := 312) (pc := 28) (q := (yX12_either, cX12_either, 2, (some .boolean), 12)) rfl (show aTab 312 28 = some (.ifCond .ne 5, 3, 0, 0, 0, 0, 0, 0) from rfl) rfl (t := 33) rfl (cdT (by show (1 : Int) ≠ 0; decide))) ?_
        refine e_then (e_al1 hT (y := 312) (pc := 33) (q := (yX12_either, cX12_either, 2, (some .boolean), 12)) rfl (show aTab 312 33 = some (.aload_n 0, 1, 0, 0, 0, 0, 0, 0) from rfl) rfl l0) ?_
        refine e_then (e_st hT (y := 312) (pc := 34) (q := (yX12_either, cX12_either, 2, (some .boolean), 12)) rfl (show aTab 312 34 = some (.iconst 2, 1, 0, 0, 0, 0, 0, 0) from rfl) (fr' := (312, 35, lv, [.int 2, .ref 128])) (M' := M2) rfl) ?_
        refine e_then (e_st hT (y := 312) (pc := 35) (q := (yX12_either, cX12_either, 2, (some .boolean), 12)) rfl (show aTab 312 35 = some (.bipush 124, 2, 0, 0, 0, 0, 0, 0) from rfl) (fr' := (312, 37, lv, [.int 124, .int 2, .ref 128])) (M' := M2) rfl) ?_
        obtain ⟨N3, M3, s1, s2, -⟩ := step_run hT (w := 2) (v := 124) (dd' := dd + 1) c3 hb ⟨fun z => absurd rfl z, fun _ z => absurd z (by decide), fun _ _ => by omega⟩ (Or.inl (by omega))
        have s1 := mRun_dm s1 (Nat.zero_le dc)
        rw [Int.add_sub_cancel] at s2
        obtain ⟨fo2, hmo2, -⟩ := yTy_obj c3.ty (rfl : tTy 119 = some (.inr (12, _)))
        refine e_then (e_call hT (y := 312) (pc := 37) (q := (yX12_either, cX12_either, 2, (some .boolean), 12)) rfl (show aTab 312 37 = some (.invokevirtual 291, 3, 1, 311, 0, 2, 3, 12) from rfl) rfl ⟨by decide, Nat.le_of_ble_eq_true rfl⟩ hmo2 (Nat.le_of_ble_eq_true rfl) (Nat.le_of_ble_eq_true rfl) ⟨by decide, by decide⟩ s1) ?_
        refine e_then (e_st hT (y := 312) (pc := 40) (q := (yX12_either, cX12_either, 2, (some .boolean), 12)) rfl (show aTab 312 40 = some (.goto (-30), 3, 0, 0, 0, 0, 0, 0) from rfl) (fr' := (312, 10, _, [])) (M' := _) rfl) ?_
        exact ih (q + 1) M3 _ (by omega) (by omega) s2 l0 l1
    obtain ⟨N0', r0⟩ := isSign_run hT (d := dc) (c := 124) h.ty h17 h19
    refine e_then (e_al1 hT (y := 312) (pc := 10) (q := (yX12_either, cX12_either, 2, (some .boolean), 12)) rfl (show aTab 312 10 = some (.aload_n 0, 1, 0, 0, 0, 0, 0, 0) from rfl) rfl l0) ?_
    refine e_then (e_st hT (y := 312) (pc := 11) (q := (yX12_either, cX12_either, 2, (some .boolean), 12)) rfl (show aTab 312 11 = some (.bipush 124, 2, 0, 0, 0, 0, 0, 0) from rfl) (fr' := (312, 13, lv, [.int 124, .ref 128])) (M' := M) rfl) ?_
    by_cases hs0 : tk.toInt = 3 ∧ lt.toInt = (124 : Int32).toInt
    · rw [if_pos hs0] at r0
      refine e_then (e_call hT (y := 312) (pc := 13) (q := (yX12_either, cX12_either, 2, (some .boolean), 12)) rfl (show aTab 312 13 = some (.invokevirtual 285, 3, 1, 306, 0, 1, 2, 12) from rfl) rfl ⟨by decide, Nat.le_of_ble_eq_true rfl⟩ hmo (Nat.le_of_ble_eq_true rfl) (Nat.le_of_ble_eq_true rfl) ⟨by decide, by decide⟩ r0) ?_
      refine e_then (e_ifF hT (y := 312) (pc := 16) (q := (yX12_either, cX12_either, 2, (some .boolean), 12)) rfl (show aTab 312 16 = some (.ifCond .eq 27, 3, 0, 0, 0, 0, 0, 0) from rfl) rfl (t := 43) rfl (cdF (by show ¬ ((1 : Int) = 0); decide))) ?_
      exact hit ⟨hs0.1, hs0.2⟩ lv l0 l1
    · rw [if_neg hs0] at r0
      refine e_then (e_call hT (y := 312) (pc := 13) (q := (yX12_either, cX12_either, 2, (some .boolean), 12)) rfl (show aTab 312 13 = some (.invokevirtual 285, 3, 1, 306, 0, 1, 2, 12) from rfl) rfl ⟨by decide, Nat.le_of_ble_eq_true rfl⟩ hmo (Nat.le_of_ble_eq_true rfl) (Nat.le_of_ble_eq_true rfl) ⟨by decide, by decide⟩ r0) ?_
      refine e_then (e_ifT hT (y := 312) (pc := 16) (q := (yX12_either, cX12_either, 2, (some .boolean), 12)) rfl (show aTab 312 16 = some (.ifCond .eq 27, 3, 0, 0, 0, 0, 0, 0) from rfl) rfl (t := 43) rfl (cdT (by show (0 : Int) = 0; rfl))) ?_
      refine e_then (e_st hT (y := 312) (pc := 43) (q := (yX12_either, cX12_either, 2, (some .boolean), 12)) rfl (show aTab 312 43 = some (.iconst 1, 1, 0, 0, 0, 0, 0, 0) from rfl) (fr' := (312, 44, lv, [.int 1])) (M' := M) rfl) ?_
      exact e_fin (e_zret hT (y := 312) (pc := 44) (q := (yX12_either, cX12_either, 2, (some .boolean), 12)) rfl (show aTab 312 44 = some (.ireturn, 1, 0, 0, 0, 0, 0, 0) from rfl) ⟨rfl, rfl⟩ (Or.inr rfl)) (Or.inr ⟨rfl, pS_le h (Int.le_refl _) hq⟩)
theorem X12_either_of (hT : aTabOk) {key : Int32} {dp tu D : Nat} (hC : pC 313 key dp tu D) (hD : 2 ≤ D) : pC 312 key dp tu (D + 1) := by
  intro M0 M b q p dd d hd hb hp hdd h
  obtain ⟨dc, rfl⟩ : ∃ dc, d = dc + 1 := ⟨d - 1, by omega⟩
  obtain ⟨N2, r2, M2, c1, c2⟩ := hC M0 M b q p dd dc (by omega) hb hp hdd h
  obtain ⟨fo, hmo, -⟩ := yTy_obj h.ty (rfl : tTy 119 = some (.inr (12, _)))
  refine e_then (e_al1 hT (y := 312) (pc := 0) (q := (yX12_either, cX12_either, 2, (some .boolean), 12)) rfl (show aTab 312 0 = some (.aload_n 0, 1, 0, 0, 0, 0, 0, 0) from rfl) rfl rfl) ?_
  refine e_then (e_il1 hT (y := 312) (pc := 1) (q := (yX12_either, cX12_either, 2, (some .boolean), 12)) rfl (show aTab 312 1 = some (.iload_n 1, 1, 0, 0, 0, 0, 0, 0) from rfl) rfl rfl) ?_
  rcases c2 with ⟨rfl, c3, c4⟩ | ⟨rfl, c3⟩
  · refine e_then (e_call hT (y := 312) (pc := 2) (q := (yX12_either, cX12_either, 2, (some .boolean), 12)) rfl (show aTab 312 2 = some (.invokevirtual 282, 3, 1, 313, 0, 1, 2, 12) from rfl) rfl ⟨by decide, Nat.le_of_ble_eq_true rfl⟩ hmo (Nat.le_of_ble_eq_true rfl) (Nat.le_of_ble_eq_true rfl) ⟨by decide, by decide⟩ c1) ?_
    refine e_then (e_ifF hT (y := 312) (pc := 5) (q := (yX12_either, cX12_either, 2, (some .boolean), 12)) rfl (show aTab 312 5 = some (.ifCond .ne 5, 3, 0, 0, 0, 0, 0, 0) from rfl) rfl (t := 10) rfl (cdF (by show ¬ ((0 : Int) ≠ 0); decide))) ?_
    refine e_then (e_st hT (y := 312) (pc := 8) (q := (yX12_either, cX12_either, 2, (some .boolean), 12)) rfl (show aTab 312 8 = some (.iconst 0, 1, 0, 0, 0, 0, 0, 0) from rfl) (fr' := (312, 9, (lv_args 0 [.ref 128, .int key]), [.int 0])) (M' := M2) rfl) ?_
    exact e_fin (e_zret hT (y := 312) (pc := 9) (q := (yX12_either, cX12_either, 2, (some .boolean), 12)) rfl (show aTab 312 9 = some (.ireturn, 1, 0, 0, 0, 0, 0, 0) from rfl) ⟨rfl, rfl⟩ (Or.inl rfl)) (Or.inl ⟨rfl, c3, c4⟩)
  · refine e_then (e_call hT (y := 312) (pc := 2) (q := (yX12_either, cX12_either, 2, (some .boolean), 12)) rfl (show aTab 312 2 = some (.invokevirtual 282, 3, 1, 313, 0, 1, 2, 12) from rfl) rfl ⟨by decide, Nat.le_of_ble_eq_true rfl⟩ hmo (Nat.le_of_ble_eq_true rfl) (Nat.le_of_ble_eq_true rfl) ⟨by decide, by decide⟩ c1) ?_
    refine e_then (e_ifT hT (y := 312) (pc := 5) (q := (yX12_either, cX12_either, 2, (some .boolean), 12)) rfl (show aTab 312 5 = some (.ifCond .ne 5, 3, 0, 0, 0, 0, 0, 0) from rfl) rfl (t := 10) rfl (cdT (by show (1 : Int) ≠ 0; decide))) ?_
    exact X12_either_loop hT hC hD hb hp hdd (by omega) (97 - q) q M2 _ (by have := pS_q c3; omega) (Nat.le_refl q) c3 rfl rfl
/-! HAND: the parser's last function -/
def inP : Nat → Nat → Option (tAn ⊕ Option Nat) := fun _ _ => none
def inA : Bool := tCk (inP, []) 200 0 [[]] (310, 0, [(0, (4, 0, 0, 0)), (1, (4, 1, 0, 0))], []) [] ([(0, 3), (-2147483648, 2147483647)], []) (fun lf => lRes 0 0 lf || (lRes 1 1 lf && ile 0 (aBs lf.2.2 1).1 && ile (aBs lf.2.2 1).2 127))
theorem inA_ok : inA = true := by decide +kernel
theorem isName_run (hT : aTabOk) {d : Nat} {M : mHe} {key c : Int32} (hM : yTy M) (hk : 0 ≤ key.toInt ∧ key.toInt ≤ 3) : ∃ N r M', mRun none N d (310, 0, lv_args 0 [.int key, .int c], []) M = some (some (.int r), M') ∧ yTy M' ∧ (∀ c k, yRd x00 M' c k = yRd x00 M c k) ∧ yFr [] M M' ∧ (r = 0 ∨ (r = 1 ∧ 0 ≤ c.toInt ∧ c.toInt < 128)) := by
  have hA := inA_ok
  unfold inA at hA
  have hE : xE [key.toInt, c.toInt] ([(0, 3), (-2147483648, 2147483647)], []) := by
    refine xE_of_list rfl (fun i l u e hb he => ?_)
    match i with
    | 0 => cases hb; cases he; exact ⟨hk, i32_lo _, i32_hi _⟩
    | 1 => cases hb; cases he; exact ⟨⟨i32_lo _, i32_hi _⟩, i32_lo _, i32_hi _⟩
    | i + 2 => simp at hb
  obtain ⟨lf, f1, f2⟩ := tSegC (xs := x00) hT (fun ct hct => by cases hct) hA hE (clv := lv_args 0 [.int key, .int c]) (yLv_cons rfl (yV_atom rfl) (yLv_cons rfl (yV_atom rfl) (yLv_nil _ _))) (cst := []) (show yS _ [] [] from trivial) ⟨hM, fun q hq => by cases hq⟩
  simp only [Bool.or_eq_true, Bool.and_eq_true, ile_iff] at f1
  rcases f1 with f1 | ⟨⟨f1, f3⟩, f4⟩
  · obtain ⟨X, N, x, M', m1, m2, m3, m4, m5⟩ := lRes_ok f1 f2
    have h5 := m5 _ (List.mem_singleton_self _)
    exact ⟨N, x, M', mRun_dm m2 (Nat.zero_le d), m4.1, fun c k => yFr_nil h5 c k, h5, Or.inl (i32_0 (by omega))⟩
  · obtain ⟨X, N, x, M', m1, m2, m3, m4, m5⟩ := lRes_ok f1 f2
    have h5 := m5 _ (List.mem_singleton_self _)
    have hb := aBs_ok m1 (get_app (rfl : [key.toInt, c.toInt][1]? = some c.toInt))
    exact ⟨N, x, M', mRun_dm m2 (Nat.zero_le d), m4.1, fun c k => yFr_nil h5 c k, h5, Or.inr ⟨i32eq (by show x.toInt = 1; omega), by omega, by omega⟩⟩
/-- a field written, the rest kept -/
theorem pS_fset {M0 M : mHe} {b q dp tu a z : Nat} {p dd lo hi : Int} {x : Int32} {fs : List Value} (h : pS M0 M b p q dd dp tu) (hs : M[119]? = some (.inr (12, fs))) (ha : a = 20 ∨ a = 21 ∨ a = 24) (hk : tF119 a = some (1, z, lo, hi)) (hx : lo ≤ x.toInt ∧ x.toInt ≤ hi) {dp' tu' : Nat} (h20 : a = 20 → x.toInt = (dp' : Int)) (h20' : a ≠ 20 → dp' = dp) (h21 : a = 21 → x.toInt = (tu' : Int)) (h21' : a ≠ 21 → tu' = tu) : a < fs.length ∧ pS M0 (M.set 119 (.inr (12, fs.set a (.int x)))) b p q dd dp' tu' ∧ ∀ k y, k ≠ a → fld M k y → fld (M.set 119 (.inr (12, fs.set a (.int x)))) k y := by
  obtain ⟨k1, k2, k3, k4⟩ := fset_ok h.ty hs hk hx
  have hf : ∀ k y, k ≠ a → fld M k y → fld (M.set 119 (.inr (12, fs.set a (.int x)))) k y := fun k y hka hy => by
    unfold fld
    rw [k4 119 k (fun z => hka z.2)]
    exact hy
  have hlt := (List.getElem?_eq_some_iff.mp hs).1
  refine ⟨k1, pS_upd (a := a) h k2 (fun xs c i hn => ?_) ha ?_ ?_, hf⟩
  · by_cases hc : c = 119
    · subst hc
      have hia : i ≠ a := fun z => hn _ (List.mem_singleton_self _) ⟨rfl, by rw [z]; exact Int.le_refl _, by rw [z]; exact Int.le_refl _, by show (i : Int) % 1 = 0; omega⟩
      rw [yRd_obj _ (by decide) (List.getElem?_set_self hlt), yRd_obj _ (by decide) hs, List.getElem?_set_ne (fun z => hia z.symm)]
    · exact yRd_ne hc
  · by_cases e : a = 20
    · subst e
      exact ⟨x, k3, h20 rfl⟩
    · obtain ⟨y, y1, y2⟩ := h.dx
      exact ⟨y, hf 20 y (fun z => e z.symm) y1, by rw [y2, h20' e]⟩
  · by_cases e : a = 21
    · subst e
      exact ⟨x, k3, h21 rfl⟩
    · obtain ⟨y, y1, y2⟩ := h.tx
      exact ⟨y, hf 21 y (fun z => e z.symm) y1, by rw [y2, h21' e]⟩
theorem pS_same {M0 M M' : mHe} {b q dp tu : Nat} {p dd : Int} (h : pS M0 M b p q dd dp tu) (hT : yTy M') (hf : yFr [] M M') : pS M0 M' b p q dd dp tu := by
  obtain ⟨y, y1, y2⟩ := h.dx
  obtain ⟨z, z1, z2⟩ := h.tx
  refine pS_upd (a := 24) h hT (fun xs c k _ => yFr_nil hf c k) (Or.inr (Or.inr rfl)) ⟨y, ?_, y2⟩ ⟨z, ?_, z2⟩
  · unfold fld; rw [yFr_nil hf]; exact y1
  · unfold fld; rw [yFr_nil hf]; exact z1
theorem part_145 (hT : aTabOk) {key : Int32} {dp tu n b q : Nat} {M0 M : mHe} {p dd : Int} {lv : List (Nat × Value)} (hk : 0 ≤ key.toInt ∧ key.toInt ≤ 3) (hb : pB M0 b) (hp : 0 ≤ p) (hdd : 0 ≤ dd) (h : pS M0 M b p q dd dp tu) {dc : Nat} (hd : n + 2 ≤ dc) (l0 : mlg 0 lv = some (.ref 128)) (l1 : mlg 1 lv = some (.int key)) (hE : dp + 1 ≤ 8 → pC 312 key (dp + 1) tu (n + 2)) (hdp : dp ≤ 8) : mEv none (dc + 1) (317, 145, lv, []) M (pQ M0 b p q dd dp tu) := by
  obtain ⟨tk, lt, h17, h19⟩ := pS_tk h
  obtain ⟨dx, d1, d2⟩ := h.dx
  obtain ⟨fo, hmo, -⟩ := yTy_obj h.ty (rfl : tTy 119 = some (.inr (12, _)))
  have f20 := fld_fs hmo d1
  have c8 : Int32.toInt 8 = 8 := rfl
  have c1 : Int32.toInt 1 = 1 := rfl
  obtain ⟨N0, r0⟩ := isSign_run hT (d := dc) (c := 40) h.ty h17 h19
  refine e_then (e_al1 hT (y := 317) (pc := 145) (q := (yX12_part0, cX12_part0, 2, (some .boolean), 12)) rfl (show aTab 317 145 = some (.aload_n 0, 1, 0, 0, 0, 0, 0, 0) from rfl) rfl l0) ?_
  refine e_then (e_st hT (y := 317) (pc := 146) (q := (yX12_part0, cX12_part0, 2, (some .boolean), 12)) rfl (show aTab 317 146 = some (.bipush 40, 2, 0, 0, 0, 0, 0, 0) from rfl) (fr' := (317, 148, lv, [.int 40, .ref 128])) (M' := M) rfl) ?_
  by_cases hs : tk.toInt = 3 ∧ lt.toInt = (40 : Int32).toInt
  · rw [if_pos hs] at r0
    refine e_then (e_call hT (y := 317) (pc := 148) (q := (yX12_part0, cX12_part0, 2, (some .boolean), 12)) rfl (show aTab 317 148 = some (.invokevirtual 285, 3, 1, 306, 0, 1, 2, 12) from rfl) rfl ⟨by decide, Nat.le_of_ble_eq_true rfl⟩ hmo (Nat.le_of_ble_eq_true rfl) (Nat.le_of_ble_eq_true rfl) ⟨by decide, by decide⟩ r0) ?_
    refine e_then (e_ifF hT (y := 317) (pc := 151) (q := (yX12_part0, cX12_part0, 2, (some .boolean), 12)) rfl (show aTab 317 151 = some (.ifCond .eq 12, 3, 0, 0, 0, 0, 0, 0) from rfl) rfl (t := 163) rfl (cdF (by show ¬ ((1 : Int) = 0); decide))) ?_
    refine e_then (e_al1 hT (y := 317) (pc := 154) (q := (yX12_part0, cX12_part0, 2, (some .boolean), 12)) rfl (show aTab 317 154 = some (.aload_n 0, 1, 0, 0, 0, 0, 0, 0) from rfl) rfl l0) ?_
    refine e_then (e_getf hT (y := 317) (pc := 155) (q := (yX12_part0, cX12_part0, 2, (some .boolean), 12)) rfl (show aTab 317 155 = some (.getfield 316, 3, 0, 12, 20, 0, 0, 0) from rfl) rfl (by decide) (by decide) hmo f20) ?_
    refine e_then (e_st hT (y := 317) (pc := 158) (q := (yX12_part0, cX12_part0, 2, (some .boolean), 12)) rfl (show aTab 317 158 = some (.bipush 8, 2, 0, 0, 0, 0, 0, 0) from rfl) (fr' := (317, 160, lv, [.int 8, .int dx])) (M' := M) rfl) ?_
    by_cases h8 : dp = 8
    · refine e_then (e_icF hT (y := 317) (pc := 160) (q := (yX12_part0, cX12_part0, 2, (some .boolean), 12)) rfl (show aTab 317 160 = some (.if_icmp .ne 5, 3, 0, 0, 0, 0, 0, 0) from rfl) rfl (t := 165) rfl (cdF (by rw [d2, c8]; show ¬ ((dp : Int) ≠ 8); omega))) ?_
      refine e_then (e_st hT (y := 317) (pc := 163) (q := (yX12_part0, cX12_part0, 2, (some .boolean), 12)) rfl (show aTab 317 163 = some (.iconst 0, 1, 0, 0, 0, 0, 0, 0) from rfl) (fr' := (317, 164, lv, [.int 0])) (M' := M) rfl) ?_
      exact e_fin (e_zret hT (y := 317) (pc := 164) (q := (yX12_part0, cX12_part0, 2, (some .boolean), 12)) rfl (show aTab 317 164 = some (.ireturn, 1, 0, 0, 0, 0, 0, 0) from rfl) ⟨rfl, rfl⟩ (Or.inl rfl)) (Or.inl ⟨rfl, h.ty, h.fr⟩)
    · have hx : (dx + 1).toInt = ((dp + 1 : Nat) : Int) := i32_p d2 c1 (by omega) (by omega)
      obtain ⟨k1, k2, k3⟩ := pS_fset (x := dx + 1) h hmo (Or.inl rfl) (z := 0) (lo := 0) (hi := 8) rfl (by omega) (dp' := dp + 1) (tu' := tu) (fun _ => hx) (fun z => absurd rfl z) (fun z => absurd z (by decide)) (fun _ => rfl)
      refine e_then (e_icT hT (y := 317) (pc := 160) (q := (yX12_part0, cX12_part0, 2, (some .boolean), 12)) rfl (show aTab 317 160 = some (.if_icmp .ne 5, 3, 0, 0, 0, 0, 0, 0) from rfl) rfl (t := 165) rfl (cdT (by rw [d2, c8]; show ((dp : Int) ≠ 8); omega))) ?_
      refine e_then (e_al1 hT (y := 317) (pc := 165) (q := (yX12_part0, cX12_part0, 2, (some .boolean), 12)) rfl (show aTab 317 165 = some (.aload_n 0, 1, 0, 0, 0, 0, 0, 0) from rfl) rfl l0) ?_
      refine e_then (e_st hT (y := 317) (pc := 166) (q := (yX12_part0, cX12_part0, 2, (some .boolean), 12)) rfl (show aTab 317 166 = some (.dup, 1, 0, 0, 0, 0, 0, 0) from rfl) (fr' := (317, 167, lv, [.ref 128, .ref 128])) (M' := M) rfl) ?_
      refine e_then (e_getf hT (y := 317) (pc := 167) (q := (yX12_part0, cX12_part0, 2, (some .boolean), 12)) rfl (show aTab 317 167 = some (.getfield 316, 3, 0, 12, 20, 0, 0, 0) from rfl) rfl (by decide) (by decide) hmo f20) ?_
      refine e_then (e_st hT (y := 317) (pc := 170) (q := (yX12_part0, cX12_part0, 2, (some .boolean), 12)) rfl (show aTab 317 170 = some (.iconst 1, 1, 0, 0, 0, 0, 0, 0) from rfl) (fr' := (317, 171, lv, [.int 1, .int dx, .ref 128])) (M' := M) rfl) ?_
      refine e_then (e_st hT (y := 317) (pc := 171) (q := (yX12_part0, cX12_part0, 2, (some .boolean), 12)) rfl (show aTab 317 171 = some (.iadd, 1, 0, 0, 0, 0, 0, 0) from rfl) (fr' := (317, 172, lv, [.int (dx + 1), .ref 128])) (M' := M) rfl) ?_
      refine e_then (e_putf hT (y := 317) (pc := 172) (q := (yX12_part0, cX12_part0, 2, (some .boolean), 12)) rfl (show aTab 317 172 = some (.putfield 316, 3, 0, 12, 20, 0, 0, 0) from rfl) rfl rfl ⟨by decide, rfl, rfl⟩ (by decide) hmo k1) ?_
      refine e_then (e_al1 hT (y := 317) (pc := 175) (q := (yX12_part0, cX12_part0, 2, (some .boolean), 12)) rfl (show aTab 317 175 = some (.aload_n 0, 1, 0, 0, 0, 0, 0, 0) from rfl) rfl l0) ?_
      obtain ⟨N1, M2, n1, n2⟩ := next_run hT k2 ⟨tk, k3 17 tk (by decide) h17, by omega⟩
      have n1 := mRun_dm n1 (show 2 ≤ dc by omega)
      obtain ⟨fo1, hmo1, -⟩ := yTy_obj k2.ty (rfl : tTy 119 = some (.inr (12, _)))
      obtain ⟨fo2, hmo2, -⟩ := yTy_obj n2.ty (rfl : tTy 119 = some (.inr (12, _)))
      obtain ⟨N2, r2, M3, c2, c3⟩ := hE (by omega) M0 M2 b (q + 1) (p + 1) dd dc (by omega) hb (by omega) hdd n2
      refine e_then (e_call hT (y := 317) (pc := 176) (q := (yX12_part0, cX12_part0, 2, (some .boolean), 12)) rfl (show aTab 317 176 = some (.invokevirtual 288, 3, 1, 305, 0, 0, 3, 12) from rfl) rfl ⟨by decide, Nat.le_of_ble_eq_true rfl⟩ hmo1 (Nat.le_of_ble_eq_true rfl) (Nat.le_of_ble_eq_true rfl) ⟨by decide, by decide⟩ n1) ?_
      refine e_then (e_al1 hT (y := 317) (pc := 179) (q := (yX12_part0, cX12_part0, 2, (some .boolean), 12)) rfl (show aTab 317 179 = some (.aload_n 0, 1, 0, 0, 0, 0, 0, 0) from rfl) rfl l0) ?_
      refine e_then (e_il1 hT (y := 317) (pc := 180) (q := (yX12_part0, cX12_part0, 2, (some .boolean), 12)) rfl (show aTab 317 180 = some (.iload_n 1, 1, 0, 0, 0, 0, 0, 0) from rfl) rfl l1) ?_
      rcases c3 with ⟨rfl, c3, c4⟩ | ⟨rfl, c3⟩
      · refine e_then (e_call hT (y := 317) (pc := 181) (q := (yX12_part0, cX12_part0, 2, (some .boolean), 12)) rfl (show aTab 317 181 = some (.invokevirtual 319, 3, 1, 312, 0, 1, 2, 12) from rfl) rfl ⟨by decide, Nat.le_of_ble_eq_true rfl⟩ hmo2 (Nat.le_of_ble_eq_true rfl) (Nat.le_of_ble_eq_true rfl) ⟨by decide, by decide⟩ c2) ?_
        refine e_then (e_ifT hT (y := 317) (pc := 184) (q := (yX12_part0, cX12_part0, 2, (some .boolean), 12)) rfl (show aTab 317 184 = some (.ifCond .eq 12, 3, 0, 0, 0, 0, 0, 0) from rfl) rfl (t := 196) rfl (cdT (by show (0 : Int) = 0; rfl))) ?_
        refine e_then (e_st hT (y := 317) (pc := 196) (q := (yX12_part0, cX12_part0, 2, (some .boolean), 12)) rfl (show aTab 317 196 = some (.iconst 0, 1, 0, 0, 0, 0, 0, 0) from rfl) (fr' := (317, 197, lv, [.int 0])) (M' := M3) rfl) ?_
        exact e_fin (e_zret hT (y := 317) (pc := 197) (q := (yX12_part0, cX12_part0, 2, (some .boolean), 12)) rfl (show aTab 317 197 = some (.ireturn, 1, 0, 0, 0, 0, 0, 0) from rfl) ⟨rfl, rfl⟩ (Or.inl rfl)) (Or.inl ⟨rfl, c3, c4⟩)
      · obtain ⟨tk3, lt3, h173, h193⟩ := pS_tk c3
        obtain ⟨fo3, hmo3, -⟩ := yTy_obj c3.ty (rfl : tTy 119 = some (.inr (12, _)))
        obtain ⟨N4, r4⟩ := isSign_run hT (d := dc) (c := 41) c3.ty h173 h193
        refine e_then (e_call hT (y := 317) (pc := 181) (q := (yX12_part0, cX12_part0, 2, (some .boolean), 12)) rfl (show aTab 317 181 = some (.invokevirtual 319, 3, 1, 312, 0, 1, 2, 12) from rfl) rfl ⟨by decide, Nat.le_of_ble_eq_true rfl⟩ hmo2 (Nat.le_of_ble_eq_true rfl) (Nat.le_of_ble_eq_true rfl) ⟨by decide, by decide⟩ c2) ?_
        refine e_then (e_ifF hT (y := 317) (pc := 184) (q := (yX12_part0, cX12_part0, 2, (some .boolean), 12)) rfl (show aTab 317 184 = some (.ifCond .eq 12, 3, 0, 0, 0, 0, 0, 0) from rfl) rfl (t := 196) rfl (cdF (by show ¬ ((1 : Int) = 0); decide))) ?_
        refine e_then (e_al1 hT (y := 317) (pc := 187) (q := (yX12_part0, cX12_part0, 2, (some .boolean), 12)) rfl (show aTab 317 187 = some (.aload_n 0, 1, 0, 0, 0, 0, 0, 0) from rfl) rfl l0) ?_
        refine e_then (e_st hT (y := 317) (pc := 188) (q := (yX12_part0, cX12_part0, 2, (some .boolean), 12)) rfl (show aTab 317 188 = some (.bipush 41, 2, 0, 0, 0, 0, 0, 0) from rfl) (fr' := (317, 190, lv, [.int 41, .ref 128])) (M' := M3) rfl) ?_
        by_cases hs4 : tk3.toInt = 3 ∧ lt3.toInt = (41 : Int32).toInt
        · rw [if_pos hs4] at r4
          obtain ⟨dy, e1, e2⟩ := c3.dx
          have f203 := fld_fs hmo3 e1
          have hy : (dy - 1).toInt = (dp : Int) := by rw [i32_sub (by rw [e2, c1]; omega) (by rw [e2, c1]; omega), e2, c1]; omega
          obtain ⟨j1, j2, j3⟩ := pS_fset (x := dy - 1) c3 hmo3 (Or.inl rfl) (z := 0) (lo := 0) (hi := 8) rfl (by omega) (dp' := dp) (tu' := tu) (fun _ => hy) (fun z => absurd rfl z) (fun z => absurd z (by decide)) (fun _ => rfl)
          obtain ⟨N5, M5, n3, n4⟩ := next_run hT j2 ⟨tk3, j3 17 tk3 (by decide) h173, by omega⟩
          have n3 := mRun_dm n3 (show 2 ≤ dc by omega)
          obtain ⟨fo4, hmo4, -⟩ := yTy_obj j2.ty (rfl : tTy 119 = some (.inr (12, _)))
          refine e_then (e_call hT (y := 317) (pc := 190) (q := (yX12_part0, cX12_part0, 2, (some .boolean), 12)) rfl (show aTab 317 190 = some (.invokevirtual 285, 3, 1, 306, 0, 1, 2, 12) from rfl) rfl ⟨by decide, Nat.le_of_ble_eq_true rfl⟩ hmo3 (Nat.le_of_ble_eq_true rfl) (Nat.le_of_ble_eq_true rfl) ⟨by decide, by decide⟩ r4) ?_
          refine e_then (e_ifT hT (y := 317) (pc := 193) (q := (yX12_part0, cX12_part0, 2, (some .boolean), 12)) rfl (show aTab 317 193 = some (.ifCond .ne 5, 3, 0, 0, 0, 0, 0, 0) from rfl) rfl (t := 198) rfl (cdT (by show (1 : Int) ≠ 0; decide))) ?_
          refine e_then (e_al1 hT (y := 317) (pc := 198) (q := (yX12_part0, cX12_part0, 2, (some .boolean), 12)) rfl (show aTab 317 198 = some (.aload_n 0, 1, 0, 0, 0, 0, 0, 0) from rfl) rfl l0) ?_
          refine e_then (e_st hT (y := 317) (pc := 199) (q := (yX12_part0, cX12_part0, 2, (some .boolean), 12)) rfl (show aTab 317 199 = some (.dup, 1, 0, 0, 0, 0, 0, 0) from rfl) (fr' := (317, 200, lv, [.ref 128, .ref 128])) (M' := M3) rfl) ?_
          refine e_then (e_getf hT (y := 317) (pc := 200) (q := (yX12_part0, cX12_part0, 2, (some .boolean), 12)) rfl (show aTab 317 200 = some (.getfield 316, 3, 0, 12, 20, 0, 0, 0) from rfl) rfl (by decide) (by decide) hmo3 f203) ?_
          refine e_then (e_st hT (y := 317) (pc := 203) (q := (yX12_part0, cX12_part0, 2, (some .boolean), 12)) rfl (show aTab 317 203 = some (.iconst 1, 1, 0, 0, 0, 0, 0, 0) from rfl) (fr' := (317, 204, lv, [.int 1, .int dy, .ref 128])) (M' := M3) rfl) ?_
          refine e_then (e_st hT (y := 317) (pc := 204) (q := (yX12_part0, cX12_part0, 2, (some .boolean), 12)) rfl (show aTab 317 204 = some (.isub, 1, 0, 0, 0, 0, 0, 0) from rfl) (fr' := (317, 205, lv, [.int (dy - 1), .ref 128])) (M' := M3) rfl) ?_
          refine e_then (e_putf hT (y := 317) (pc := 205) (q := (yX12_part0, cX12_part0, 2, (some .boolean), 12)) rfl (show aTab 317 205 = some (.putfield 316, 3, 0, 12, 20, 0, 0, 0) from rfl) rfl rfl ⟨by decide, rfl, rfl⟩ (by decide) hmo3 j1) ?_
          refine e_then (e_al1 hT (y := 317) (pc := 208) (q := (yX12_part0, cX12_part0, 2, (some .boolean), 12)) rfl (show aTab 317 208 = some (.aload_n 0, 1, 0, 0, 0, 0, 0, 0) from rfl) rfl l0) ?_
          refine e_then (e_call hT (y := 317) (pc := 209) (q := (yX12_part0, cX12_part0, 2, (some .boolean), 12)) rfl (show aTab 317 209 = some (.invokevirtual 288, 3, 1, 305, 0, 0, 3, 12) from rfl) rfl ⟨by decide, Nat.le_of_ble_eq_true rfl⟩ hmo4 (Nat.le_of_ble_eq_true rfl) (Nat.le_of_ble_eq_true rfl) ⟨by decide, by decide⟩ n3) ?_
          refine e_then (e_st hT (y := 317) (pc := 212) (q := (yX12_part0, cX12_part0, 2, (some .boolean), 12)) rfl (show aTab 317 212 = some (.iconst 1, 1, 0, 0, 0, 0, 0, 0) from rfl) (fr' := (317, 213, lv, [.int 1])) (M' := M5) rfl) ?_
          exact e_fin (e_zret hT (y := 317) (pc := 213) (q := (yX12_part0, cX12_part0, 2, (some .boolean), 12)) rfl (show aTab 317 213 = some (.ireturn, 1, 0, 0, 0, 0, 0, 0) from rfl) ⟨rfl, rfl⟩ (Or.inr rfl)) (Or.inr ⟨rfl, pS_le n4 (by omega) (by omega)⟩)
        · rw [if_neg hs4] at r4
          refine e_then (e_call hT (y := 317) (pc := 190) (q := (yX12_part0, cX12_part0, 2, (some .boolean), 12)) rfl (show aTab 317 190 = some (.invokevirtual 285, 3, 1, 306, 0, 1, 2, 12) from rfl) rfl ⟨by decide, Nat.le_of_ble_eq_true rfl⟩ hmo3 (Nat.le_of_ble_eq_true rfl) (Nat.le_of_ble_eq_true rfl) ⟨by decide, by decide⟩ r4) ?_
          refine e_then (e_ifF hT (y := 317) (pc := 193) (q := (yX12_part0, cX12_part0, 2, (some .boolean), 12)) rfl (show aTab 317 193 = some (.ifCond .ne 5, 3, 0, 0, 0, 0, 0, 0) from rfl) rfl (t := 198) rfl (cdF (by show ¬ ((0 : Int) ≠ 0); decide))) ?_
          refine e_then (e_st hT (y := 317) (pc := 196) (q := (yX12_part0, cX12_part0, 2, (some .boolean), 12)) rfl (show aTab 317 196 = some (.iconst 0, 1, 0, 0, 0, 0, 0, 0) from rfl) (fr' := (317, 197, lv, [.int 0])) (M' := M3) rfl) ?_
          exact e_fin (e_zret hT (y := 317) (pc := 197) (q := (yX12_part0, cX12_part0, 2, (some .boolean), 12)) rfl (show aTab 317 197 = some (.ireturn, 1, 0, 0, 0, 0, 0, 0) from rfl) ⟨rfl, rfl⟩ (Or.inl rfl)) (Or.inl ⟨rfl, c3.ty, c3.fr⟩)
  · rw [if_neg hs] at r0
    refine e_then (e_call hT (y := 317) (pc := 148) (q := (yX12_part0, cX12_part0, 2, (some .boolean), 12)) rfl (show aTab 317 148 = some (.invokevirtual 285, 3, 1, 306, 0, 1, 2, 12) from rfl) rfl ⟨by decide, Nat.le_of_ble_eq_true rfl⟩ hmo (Nat.le_of_ble_eq_true rfl) (Nat.le_of_ble_eq_true rfl) ⟨by decide, by decide⟩ r0) ?_
    refine e_then (e_ifT hT (y := 317) (pc := 151) (q := (yX12_part0, cX12_part0, 2, (some .boolean), 12)) rfl (show aTab 317 151 = some (.ifCond .eq 12, 3, 0, 0, 0, 0, 0, 0) from rfl) rfl (t := 163) rfl (cdT (by show (0 : Int) = 0; rfl))) ?_
    refine e_then (e_st hT (y := 317) (pc := 163) (q := (yX12_part0, cX12_part0, 2, (some .boolean), 12)) rfl (show aTab 317 163 = some (.iconst 0, 1, 0, 0, 0, 0, 0, 0) from rfl) (fr' := (317, 164, lv, [.int 0])) (M' := M) rfl) ?_
    exact e_fin (e_zret hT (y := 317) (pc := 164) (q := (yX12_part0, cX12_part0, 2, (some .boolean), 12)) rfl (show aTab 317 164 = some (.ireturn, 1, 0, 0, 0, 0, 0, 0) from rfl) ⟨rfl, rfl⟩ (Or.inl rfl)) (Or.inl ⟨rfl, h.ty, h.fr⟩)
theorem part_84 (hT : aTabOk) {key : Int32} {dp tu n b q : Nat} {M0 M : mHe} {p dd : Int} {lv : List (Nat × Value)} (hk : 0 ≤ key.toInt ∧ key.toInt ≤ 3) (hb : pB M0 b) (hp : 0 ≤ p) (hdd : 0 ≤ dd) (h : pS M0 M b p q dd dp tu) {dc : Nat} (hd : n + 2 ≤ dc) (l0 : mlg 0 lv = some (.ref 128)) (l1 : mlg 1 lv = some (.int key)) (hE : dp + 1 ≤ 8 → pC 312 key (dp + 1) tu (n + 2)) (hN : tu + 1 ≤ 8 → pC 317 key dp (tu + 1) (n + 2)) (hdp : dp ≤ 8) (htu : tu ≤ 8) : mEv none (dc + 1) (317, 84, lv, []) M (pQ M0 b p q dd dp tu) := by
  obtain ⟨tk, lt, h17, h19⟩ := pS_tk h
  obtain ⟨tx, d1, d2⟩ := h.tx
  obtain ⟨fo, hmo, -⟩ := yTy_obj h.ty (rfl : tTy 119 = some (.inr (12, _)))
  have f21 := fld_fs hmo d1
  have c8 : Int32.toInt 8 = 8 := rfl
  have c1 : Int32.toInt 1 = 1 := rfl
  obtain ⟨N0, r0⟩ := isSign_run hT (d := dc) (c := 33) h.ty h17 h19
  refine e_then (e_al1 hT (y := 317) (pc := 84) (q := (yX12_part0, cX12_part0, 2, (some .boolean), 12)) rfl (show aTab 317 84 = some (.aload_n 0, 1, 0, 0, 0, 0, 0, 0) from rfl) rfl l0) ?_
  refine e_then (e_st hT (y := 317) (pc := 85) (q := (yX12_part0, cX12_part0, 2, (some .boolean), 12)) rfl (show aTab 317 85 = some (.bipush 33, 2, 0, 0, 0, 0, 0, 0) from rfl) (fr' := (317, 87, lv, [.int 33, .ref 128])) (M' := M) rfl) ?_
  by_cases hs : tk.toInt = 3 ∧ lt.toInt = (33 : Int32).toInt
  · rw [if_pos hs] at r0
    refine e_then (e_call hT (y := 317) (pc := 87) (q := (yX12_part0, cX12_part0, 2, (some .boolean), 12)) rfl (show aTab 317 87 = some (.invokevirtual 285, 3, 1, 306, 0, 1, 2, 12) from rfl) rfl ⟨by decide, Nat.le_of_ble_eq_true rfl⟩ hmo (Nat.le_of_ble_eq_true rfl) (Nat.le_of_ble_eq_true rfl) ⟨by decide, by decide⟩ r0) ?_
    refine e_then (e_ifF hT (y := 317) (pc := 90) (q := (yX12_part0, cX12_part0, 2, (some .boolean), 12)) rfl (show aTab 317 90 = some (.ifCond .eq 55, 3, 0, 0, 0, 0, 0, 0) from rfl) rfl (t := 145) rfl (cdF (by show ¬ ((1 : Int) = 0); decide))) ?_
    refine e_then (e_al1 hT (y := 317) (pc := 93) (q := (yX12_part0, cX12_part0, 2, (some .boolean), 12)) rfl (show aTab 317 93 = some (.aload_n 0, 1, 0, 0, 0, 0, 0, 0) from rfl) rfl l0) ?_
    refine e_then (e_getf hT (y := 317) (pc := 94) (q := (yX12_part0, cX12_part0, 2, (some .boolean), 12)) rfl (show aTab 317 94 = some (.getfield 313, 3, 0, 12, 21, 0, 0, 0) from rfl) rfl (by decide) (by decide) hmo f21) ?_
    refine e_then (e_st hT (y := 317) (pc := 97) (q := (yX12_part0, cX12_part0, 2, (some .boolean), 12)) rfl (show aTab 317 97 = some (.bipush 8, 2, 0, 0, 0, 0, 0, 0) from rfl) (fr' := (317, 99, lv, [.int 8, .int tx])) (M' := M) rfl) ?_
    by_cases h8 : 8 ≤ tu
    · refine e_then (e_icT hT (y := 317) (pc := 99) (q := (yX12_part0, cX12_part0, 2, (some .boolean), 12)) rfl (show aTab 317 99 = some (.if_icmp .ge 46, 3, 0, 0, 0, 0, 0, 0) from rfl) rfl (t := 145) rfl (cdT (by rw [d2, c8]; show (8 : Int) ≤ (tu : Int); omega))) ?_
      exact part_145 hT hk hb hp hdd h hd l0 l1 hE hdp
    · have hx : (tx + 1).toInt = ((tu + 1 : Nat) : Int) := i32_p d2 c1 (by omega) (by omega)
      obtain ⟨k1, k2, k3⟩ := pS_fset (x := tx + 1) h hmo (Or.inr (Or.inl rfl)) (z := 0) (lo := 0) (hi := 8) rfl (by omega) (dp' := dp) (tu' := tu + 1) (fun z => absurd z (by decide)) (fun _ => rfl) (fun _ => hx) (fun z => absurd rfl z)
      refine e_then (e_icF hT (y := 317) (pc := 99) (q := (yX12_part0, cX12_part0, 2, (some .boolean), 12)) rfl (show aTab 317 99 = some (.if_icmp .ge 46, 3, 0, 0, 0, 0, 0, 0) from rfl) rfl (t := 145) rfl (cdF (by rw [d2, c8]; show ¬ (8 : Int) ≤ (tu : Int); omega))) ?_
      refine e_then (e_al1 hT (y := 317) (pc := 102) (q := (yX12_part0, cX12_part0, 2, (some .boolean), 12)) rfl (show aTab 317 102 = some (.aload_n 0, 1, 0, 0, 0, 0, 0, 0) from rfl) rfl l0) ?_
      refine e_then (e_st hT (y := 317) (pc := 103) (q := (yX12_part0, cX12_part0, 2, (some .boolean), 12)) rfl (show aTab 317 103 = some (.dup, 1, 0, 0, 0, 0, 0, 0) from rfl) (fr' := (317, 104, lv, [.ref 128, .ref 128])) (M' := M) rfl) ?_
      refine e_then (e_getf hT (y := 317) (pc := 104) (q := (yX12_part0, cX12_part0, 2, (some .boolean), 12)) rfl (show aTab 317 104 = some (.getfield 313, 3, 0, 12, 21, 0, 0, 0) from rfl) rfl (by decide) (by decide) hmo f21) ?_
      refine e_then (e_st hT (y := 317) (pc := 107) (q := (yX12_part0, cX12_part0, 2, (some .boolean), 12)) rfl (show aTab 317 107 = some (.iconst 1, 1, 0, 0, 0, 0, 0, 0) from rfl) (fr' := (317, 108, lv, [.int 1, .int tx, .ref 128])) (M' := M) rfl) ?_
      refine e_then (e_st hT (y := 317) (pc := 108) (q := (yX12_part0, cX12_part0, 2, (some .boolean), 12)) rfl (show aTab 317 108 = some (.iadd, 1, 0, 0, 0, 0, 0, 0) from rfl) (fr' := (317, 109, lv, [.int (tx + 1), .ref 128])) (M' := M) rfl) ?_
      refine e_then (e_putf hT (y := 317) (pc := 109) (q := (yX12_part0, cX12_part0, 2, (some .boolean), 12)) rfl (show aTab 317 109 = some (.putfield 313, 3, 0, 12, 21, 0, 0, 0) from rfl) rfl rfl ⟨by decide, rfl, rfl⟩ (by decide) hmo k1) ?_
      refine e_then (e_al1 hT (y := 317) (pc := 112) (q := (yX12_part0, cX12_part0, 2, (some .boolean), 12)) rfl (show aTab 317 112 = some (.aload_n 0, 1, 0, 0, 0, 0, 0, 0) from rfl) rfl l0) ?_
      obtain ⟨N1, M2, n1, n2⟩ := next_run hT k2 ⟨tk, k3 17 tk (by decide) h17, by omega⟩
      have n1 := mRun_dm n1 (show 2 ≤ dc by omega)
      obtain ⟨fo1, hmo1, -⟩ := yTy_obj k2.ty (rfl : tTy 119 = some (.inr (12, _)))
      obtain ⟨fo2, hmo2, -⟩ := yTy_obj n2.ty (rfl : tTy 119 = some (.inr (12, _)))
      obtain ⟨N2, r2, M3, c2, c3⟩ := hN (by omega) M0 M2 b (q + 1) (p + 1) dd dc (by omega) hb (by omega) hdd n2
      refine e_then (e_call hT (y := 317) (pc := 113) (q := (yX12_part0, cX12_part0, 2, (some .boolean), 12)) rfl (show aTab 317 113 = some (.invokevirtual 288, 3, 1, 305, 0, 0, 3, 12) from rfl) rfl ⟨by decide, Nat.le_of_ble_eq_true rfl⟩ hmo1 (Nat.le_of_ble_eq_true rfl) (Nat.le_of_ble_eq_true rfl) ⟨by decide, by decide⟩ n1) ?_
      refine e_then (e_al1 hT (y := 317) (pc := 116) (q := (yX12_part0, cX12_part0, 2, (some .boolean), 12)) rfl (show aTab 317 116 = some (.aload_n 0, 1, 0, 0, 0, 0, 0, 0) from rfl) rfl l0) ?_
      refine e_then (e_il1 hT (y := 317) (pc := 117) (q := (yX12_part0, cX12_part0, 2, (some .boolean), 12)) rfl (show aTab 317 117 = some (.iload_n 1, 1, 0, 0, 0, 0, 0, 0) from rfl) rfl l1) ?_
      rcases c3 with ⟨rfl, c3, c4⟩ | ⟨rfl, c3⟩
      · refine e_then (e_call hT (y := 317) (pc := 118) (q := (yX12_part0, cX12_part0, 2, (some .boolean), 12)) rfl (show aTab 317 118 = some (.invokevirtual 304, 3, 1, 317, 0, 1, 2, 12) from rfl) rfl ⟨by decide, Nat.le_of_ble_eq_true rfl⟩ hmo2 (Nat.le_of_ble_eq_true rfl) (Nat.le_of_ble_eq_true rfl) ⟨by decide, by decide⟩ c2) ?_
        refine e_then (e_ifF hT (y := 317) (pc := 121) (q := (yX12_part0, cX12_part0, 2, (some .boolean), 12)) rfl (show aTab 317 121 = some (.ifCond .ne 5, 3, 0, 0, 0, 0, 0, 0) from rfl) rfl (t := 126) rfl (cdF (by show ¬ ((0 : Int) ≠ 0); decide))) ?_
        refine e_then (e_st hT (y := 317) (pc := 124) (q := (yX12_part0, cX12_part0, 2, (some .boolean), 12)) rfl (show aTab 317 124 = some (.iconst 0, 1, 0, 0, 0, 0, 0, 0) from rfl) (fr' := (317, 125, lv, [.int 0])) (M' := M3) rfl) ?_
        exact e_fin (e_zret hT (y := 317) (pc := 125) (q := (yX12_part0, cX12_part0, 2, (some .boolean), 12)) rfl (show aTab 317 125 = some (.ireturn, 1, 0, 0, 0, 0, 0, 0) from rfl) ⟨rfl, rfl⟩ (Or.inl rfl)) (Or.inl ⟨rfl, c3, c4⟩)
      · obtain ⟨fo3, hmo3, -⟩ := yTy_obj c3.ty (rfl : tTy 119 = some (.inr (12, _)))
        obtain ⟨ty, e1, e2⟩ := c3.tx
        have f213 := fld_fs hmo3 e1
        have hy : (ty - 1).toInt = (tu : Int) := by rw [i32_sub (by rw [e2, c1]; omega) (by rw [e2, c1]; omega), e2, c1]; omega
        obtain ⟨j1, j2, j3⟩ := pS_fset (x := ty - 1) c3 hmo3 (Or.inr (Or.inl rfl)) (z := 0) (lo := 0) (hi := 8) rfl (by omega) (dp' := dp) (tu' := tu) (fun z => absurd z (by decide)) (fun _ => rfl) (fun _ => hy) (fun z => absurd rfl z)
        obtain ⟨N5, M5, s1, s2, -⟩ := step_run hT (w := 2) (v := 33) (dd' := dd + 1) j2 hb ⟨fun z => absurd rfl z, fun _ _ => ⟨by omega, rfl⟩, fun _ z => absurd rfl z⟩ (Or.inl (by omega))
        have s1 := mRun_dm s1 (Nat.zero_le dc)
        obtain ⟨fo4, hmo4, -⟩ := yTy_obj j2.ty (rfl : tTy 119 = some (.inr (12, _)))
        refine e_then (e_call hT (y := 317) (pc := 118) (q := (yX12_part0, cX12_part0, 2, (some .boolean), 12)) rfl (show aTab 317 118 = some (.invokevirtual 304, 3, 1, 317, 0, 1, 2, 12) from rfl) rfl ⟨by decide, Nat.le_of_ble_eq_true rfl⟩ hmo2 (Nat.le_of_ble_eq_true rfl) (Nat.le_of_ble_eq_true rfl) ⟨by decide, by decide⟩ c2) ?_
        refine e_then (e_ifT hT (y := 317) (pc := 121) (q := (yX12_part0, cX12_part0, 2, (some .boolean), 12)) rfl (show aTab 317 121 = some (.ifCond .ne 5, 3, 0, 0, 0, 0, 0, 0) from rfl) rfl (t := 126) rfl (cdT (by show (1 : Int) ≠ 0; decide))) ?_
        refine e_then (e_al1 hT (y := 317) (pc := 126) (q := (yX12_part0, cX12_part0, 2, (some .boolean), 12)) rfl (show aTab 317 126 = some (.aload_n 0, 1, 0, 0, 0, 0, 0, 0) from rfl) rfl l0) ?_
        refine e_then (e_st hT (y := 317) (pc := 127) (q := (yX12_part0, cX12_part0, 2, (some .boolean), 12)) rfl (show aTab 317 127 = some (.dup, 1, 0, 0, 0, 0, 0, 0) from rfl) (fr' := (317, 128, lv, [.ref 128, .ref 128])) (M' := M3) rfl) ?_
        refine e_then (e_getf hT (y := 317) (pc := 128) (q := (yX12_part0, cX12_part0, 2, (some .boolean), 12)) rfl (show aTab 317 128 = some (.getfield 313, 3, 0, 12, 21, 0, 0, 0) from rfl) rfl (by decide) (by decide) hmo3 f213) ?_
        refine e_then (e_st hT (y := 317) (pc := 131) (q := (yX12_part0, cX12_part0, 2, (some .boolean), 12)) rfl (show aTab 317 131 = some (.iconst 1, 1, 0, 0, 0, 0, 0, 0) from rfl) (fr' := (317, 132, lv, [.int 1, .int ty, .ref 128])) (M' := M3) rfl) ?_
        refine e_then (e_st hT (y := 317) (pc := 132) (q := (yX12_part0, cX12_part0, 2, (some .boolean), 12)) rfl (show aTab 317 132 = some (.isub, 1, 0, 0, 0, 0, 0, 0) from rfl) (fr' := (317, 133, lv, [.int (ty - 1), .ref 128])) (M' := M3) rfl) ?_
        refine e_then (e_putf hT (y := 317) (pc := 133) (q := (yX12_part0, cX12_part0, 2, (some .boolean), 12)) rfl (show aTab 317 133 = some (.putfield 313, 3, 0, 12, 21, 0, 0, 0) from rfl) rfl rfl ⟨by decide, rfl, rfl⟩ (by decide) hmo3 j1) ?_
        refine e_then (e_al1 hT (y := 317) (pc := 136) (q := (yX12_part0, cX12_part0, 2, (some .boolean), 12)) rfl (show aTab 317 136 = some (.aload_n 0, 1, 0, 0, 0, 0, 0, 0) from rfl) rfl l0) ?_
        refine e_then (e_st hT (y := 317) (pc := 137) (q := (yX12_part0, cX12_part0, 2, (some .boolean), 12)) rfl (show aTab 317 137 = some (.iconst 2, 1, 0, 0, 0, 0, 0, 0) from rfl) (fr' := (317, 138, lv, [.int 2, .ref 128])) (M' := (M3.set 119 (.inr (12, fo3.set 21 (.int (ty - 1)))))) rfl) ?_
        refine e_then (e_st hT (y := 317) (pc := 138) (q := (yX12_part0, cX12_part0, 2, (some .boolean), 12)) rfl (show aTab 317 138 = some (.bipush 33, 2, 0, 0, 0, 0, 0, 0) from rfl) (fr' := (317, 140, lv, [.int 33, .int 2, .ref 128])) (M' := (M3.set 119 (.inr (12, fo3.set 21 (.int (ty - 1)))))) rfl) ?_
        refine e_then (e_call hT (y := 317) (pc := 140) (q := (yX12_part0, cX12_part0, 2, (some .boolean), 12)) rfl (show aTab 317 140 = some (.invokevirtual 291, 3, 1, 311, 0, 2, 3, 12) from rfl) rfl ⟨by decide, Nat.le_of_ble_eq_true rfl⟩ hmo4 (Nat.le_of_ble_eq_true rfl) (Nat.le_of_ble_eq_true rfl) ⟨by decide, by decide⟩ s1) ?_
        refine e_then (e_st hT (y := 317) (pc := 143) (q := (yX12_part0, cX12_part0, 2, (some .boolean), 12)) rfl (show aTab 317 143 = some (.iconst 1, 1, 0, 0, 0, 0, 0, 0) from rfl) (fr' := (317, 144, lv, [.int 1])) (M' := M5) rfl) ?_
        exact e_fin (e_zret hT (y := 317) (pc := 144) (q := (yX12_part0, cX12_part0, 2, (some .boolean), 12)) rfl (show aTab 317 144 = some (.ireturn, 1, 0, 0, 0, 0, 0, 0) from rfl) ⟨rfl, rfl⟩ (Or.inr rfl)) (Or.inr ⟨rfl, pS_le s2 (by omega) (by omega)⟩)
  · rw [if_neg hs] at r0
    refine e_then (e_call hT (y := 317) (pc := 87) (q := (yX12_part0, cX12_part0, 2, (some .boolean), 12)) rfl (show aTab 317 87 = some (.invokevirtual 285, 3, 1, 306, 0, 1, 2, 12) from rfl) rfl ⟨by decide, Nat.le_of_ble_eq_true rfl⟩ hmo (Nat.le_of_ble_eq_true rfl) (Nat.le_of_ble_eq_true rfl) ⟨by decide, by decide⟩ r0) ?_
    refine e_then (e_ifT hT (y := 317) (pc := 90) (q := (yX12_part0, cX12_part0, 2, (some .boolean), 12)) rfl (show aTab 317 90 = some (.ifCond .eq 55, 3, 0, 0, 0, 0, 0, 0) from rfl) rfl (t := 145) rfl (cdT (by show (0 : Int) = 0; rfl))) ?_
    exact part_145 hT hk hb hp hdd h hd l0 l1 hE hdp
theorem part_0 (hT : aTabOk) {key : Int32} {dp tu n b q : Nat} {M0 M : mHe} {p dd : Int} {lv : List (Nat × Value)} (hk : 0 ≤ key.toInt ∧ key.toInt ≤ 3) (hb : pB M0 b) (hp : 0 ≤ p) (hdd : 0 ≤ dd) (h : pS M0 M b p q dd dp tu) {dc : Nat} (hd : n + 2 ≤ dc) (l0 : mlg 0 lv = some (.ref 128)) (l1 : mlg 1 lv = some (.int key)) (hE : dp + 1 ≤ 8 → pC 312 key (dp + 1) tu (n + 2)) (hN : tu + 1 ≤ 8 → pC 317 key dp (tu + 1) (n + 2)) (hdp : dp ≤ 8) (htu : tu ≤ 8) : mEv none (dc + 1) (317, 0, lv, []) M (pQ M0 b p q dd dp tu) := by
  obtain ⟨tk, lt, h17, h19⟩ := pS_tk h
  obtain ⟨nu, g1, g2⟩ := fld_bd h.ty (k := 18) (z := 0) (lo := -2147483648) (hi := 2147483647) rfl
  obtain ⟨fo, hmo, -⟩ := yTy_obj h.ty (rfl : tTy 119 = some (.inr (12, _)))
  have f17 := fld_fs hmo h17
  have f18 := fld_fs hmo g1
  have f19 := fld_fs hmo h19
  have c1 : Int32.toInt 1 = 1 := rfl
  have c2 : Int32.toInt 2 = 2 := rfl
  refine e_then (e_al1 hT (y := 317) (pc := 0) (q := (yX12_part0, cX12_part0, 2, (some .boolean), 12)) rfl (show aTab 317 0 = some (.aload_n 0, 1, 0, 0, 0, 0, 0, 0) from rfl) rfl l0) ?_
  refine e_then (e_getf hT (y := 317) (pc := 1) (q := (yX12_part0, cX12_part0, 2, (some .boolean), 12)) rfl (show aTab 317 1 = some (.getfield 250, 3, 0, 12, 17, 0, 0, 0) from rfl) rfl (by decide) (by decide) hmo f17) ?_
  refine e_then (e_st hT (y := 317) (pc := 4) (q := (yX12_part0, cX12_part0, 2, (some .boolean), 12)) rfl (show aTab 317 4 = some (.iconst 2, 1, 0, 0, 0, 0, 0, 0) from rfl) (fr' := (317, 5, lv, [.int 2, .int tk])) (M' := M) rfl) ?_
  by_cases ha : tk.toInt = 2
  · refine e_then (e_icF hT (y := 317) (pc := 5) (q := (yX12_part0, cX12_part0, 2, (some .boolean), 12)) rfl (show aTab 317 5 = some (.if_icmp .ne 28, 3, 0, 0, 0, 0, 0, 0) from rfl) rfl (t := 33) rfl (cdF (by rw [c2]; show ¬ (tk.toInt ≠ 2); omega))) ?_
    refine e_then (e_al1 hT (y := 317) (pc := 8) (q := (yX12_part0, cX12_part0, 2, (some .boolean), 12)) rfl (show aTab 317 8 = some (.aload_n 0, 1, 0, 0, 0, 0, 0, 0) from rfl) rfl l0) ?_
    refine e_then (e_st hT (y := 317) (pc := 9) (q := (yX12_part0, cX12_part0, 2, (some .boolean), 12)) rfl (show aTab 317 9 = some (.iconst 0, 1, 0, 0, 0, 0, 0, 0) from rfl) (fr' := (317, 10, lv, [.int 0, .ref 128])) (M' := M) rfl) ?_
    refine e_then (e_al1 hT (y := 317) (pc := 10) (q := (yX12_part0, cX12_part0, 2, (some .boolean), 12)) rfl (show aTab 317 10 = some (.aload_n 0, 1, 0, 0, 0, 0, 0, 0) from rfl) rfl l0) ?_
    refine e_then (e_getf hT (y := 317) (pc := 11) (q := (yX12_part0, cX12_part0, 2, (some .boolean), 12)) rfl (show aTab 317 11 = some (.getfield 265, 3, 0, 12, 18, 0, 0, 0) from rfl) rfl (by decide) (by decide) hmo f18) ?_
    obtain ⟨N1, M1, s1, s2, s3⟩ := step_run hT (w := 0) (v := nu) (dd' := dd + 1) h hb ⟨fun _ => ⟨rfl, Or.inl rfl⟩, fun z => absurd z (by decide), fun z => absurd z (by decide)⟩ (Or.inr ⟨hp, tk, h17, by omega⟩)
    have s1 := mRun_dm s1 (Nat.zero_le dc)
    obtain ⟨fo1, hmo1, -⟩ := yTy_obj s2.ty (rfl : tTy 119 = some (.inr (12, _)))
    obtain ⟨sd, sd1, sd2⟩ := fld_bd s2.ty (k := 24) (z := 0) (lo := -2147483648) (hi := 2147483647) rfl
    have f24 := fld_fs hmo1 sd1
    obtain ⟨k1, k2, k3⟩ := pS_fset (x := sd + 1) s2 hmo1 (Or.inr (Or.inr rfl)) (z := 0) (lo := -2147483648) (hi := 2147483647) rfl ⟨i32_lo _, i32_hi _⟩ (dp' := dp) (tu' := tu) (fun z => absurd z (by decide)) (fun _ => rfl) (fun z => absurd z (by decide)) (fun _ => rfl)
    obtain ⟨fo2, hmo2, -⟩ := yTy_obj k2.ty (rfl : tTy 119 = some (.inr (12, _)))
    obtain ⟨N2, M3, n1, n2⟩ := next_run hT k2 ⟨tk, k3 17 tk (by decide) (s3 tk h17), by omega⟩
    have n1 := mRun_dm n1 (show 2 ≤ dc by omega)
    refine e_then (e_call hT (y := 317) (pc := 14) (q := (yX12_part0, cX12_part0, 2, (some .boolean), 12)) rfl (show aTab 317 14 = some (.invokevirtual 291, 3, 1, 311, 0, 2, 3, 12) from rfl) rfl ⟨by decide, Nat.le_of_ble_eq_true rfl⟩ hmo (Nat.le_of_ble_eq_true rfl) (Nat.le_of_ble_eq_true rfl) ⟨by decide, by decide⟩ s1) ?_
    refine e_then (e_al1 hT (y := 317) (pc := 17) (q := (yX12_part0, cX12_part0, 2, (some .boolean), 12)) rfl (show aTab 317 17 = some (.aload_n 0, 1, 0, 0, 0, 0, 0, 0) from rfl) rfl l0) ?_
    refine e_then (e_st hT (y := 317) (pc := 18) (q := (yX12_part0, cX12_part0, 2, (some .boolean), 12)) rfl (show aTab 317 18 = some (.dup, 1, 0, 0, 0, 0, 0, 0) from rfl) (fr' := (317, 19, lv, [.ref 128, .ref 128])) (M' := M1) rfl) ?_
    refine e_then (e_getf hT (y := 317) (pc := 19) (q := (yX12_part0, cX12_part0, 2, (some .boolean), 12)) rfl (show aTab 317 19 = some (.getfield 307, 3, 0, 12, 24, 0, 0, 0) from rfl) rfl (by decide) (by decide) hmo1 f24) ?_
    refine e_then (e_st hT (y := 317) (pc := 22) (q := (yX12_part0, cX12_part0, 2, (some .boolean), 12)) rfl (show aTab 317 22 = some (.iconst 1, 1, 0, 0, 0, 0, 0, 0) from rfl) (fr' := (317, 23, lv, [.int 1, .int sd, .ref 128])) (M' := M1) rfl) ?_
    refine e_then (e_st hT (y := 317) (pc := 23) (q := (yX12_part0, cX12_part0, 2, (some .boolean), 12)) rfl (show aTab 317 23 = some (.iadd, 1, 0, 0, 0, 0, 0, 0) from rfl) (fr' := (317, 24, lv, [.int (sd + 1), .ref 128])) (M' := M1) rfl) ?_
    refine e_then (e_putf hT (y := 317) (pc := 24) (q := (yX12_part0, cX12_part0, 2, (some .boolean), 12)) rfl (show aTab 317 24 = some (.putfield 307, 3, 0, 12, 24, 0, 0, 0) from rfl) rfl rfl ⟨by decide, rfl, rfl⟩ (by decide) hmo1 k1) ?_
    refine e_then (e_al1 hT (y := 317) (pc := 27) (q := (yX12_part0, cX12_part0, 2, (some .boolean), 12)) rfl (show aTab 317 27 = some (.aload_n 0, 1, 0, 0, 0, 0, 0, 0) from rfl) rfl l0) ?_
    refine e_then (e_call hT (y := 317) (pc := 28) (q := (yX12_part0, cX12_part0, 2, (some .boolean), 12)) rfl (show aTab 317 28 = some (.invokevirtual 288, 3, 1, 305, 0, 0, 3, 12) from rfl) rfl ⟨by decide, Nat.le_of_ble_eq_true rfl⟩ hmo2 (Nat.le_of_ble_eq_true rfl) (Nat.le_of_ble_eq_true rfl) ⟨by decide, by decide⟩ n1) ?_
    refine e_then (e_st hT (y := 317) (pc := 31) (q := (yX12_part0, cX12_part0, 2, (some .boolean), 12)) rfl (show aTab 317 31 = some (.iconst 1, 1, 0, 0, 0, 0, 0, 0) from rfl) (fr' := (317, 32, lv, [.int 1])) (M' := M3) rfl) ?_
    exact e_fin (e_zret hT (y := 317) (pc := 32) (q := (yX12_part0, cX12_part0, 2, (some .boolean), 12)) rfl (show aTab 317 32 = some (.ireturn, 1, 0, 0, 0, 0, 0, 0) from rfl) ⟨rfl, rfl⟩ (Or.inr rfl)) (Or.inr ⟨rfl, pS_le n2 (by omega) (by omega)⟩)
  · refine e_then (e_icT hT (y := 317) (pc := 5) (q := (yX12_part0, cX12_part0, 2, (some .boolean), 12)) rfl (show aTab 317 5 = some (.if_icmp .ne 28, 3, 0, 0, 0, 0, 0, 0) from rfl) rfl (t := 33) rfl (cdT (by rw [c2]; show (tk.toInt ≠ 2); omega))) ?_
    refine e_then (e_al1 hT (y := 317) (pc := 33) (q := (yX12_part0, cX12_part0, 2, (some .boolean), 12)) rfl (show aTab 317 33 = some (.aload_n 0, 1, 0, 0, 0, 0, 0, 0) from rfl) rfl l0) ?_
    refine e_then (e_getf hT (y := 317) (pc := 34) (q := (yX12_part0, cX12_part0, 2, (some .boolean), 12)) rfl (show aTab 317 34 = some (.getfield 250, 3, 0, 12, 17, 0, 0, 0) from rfl) rfl (by decide) (by decide) hmo f17) ?_
    refine e_then (e_st hT (y := 317) (pc := 37) (q := (yX12_part0, cX12_part0, 2, (some .boolean), 12)) rfl (show aTab 317 37 = some (.iconst 1, 1, 0, 0, 0, 0, 0, 0) from rfl) (fr' := (317, 38, lv, [.int 1, .int tk])) (M' := M) rfl) ?_
    by_cases hb1 : tk.toInt = 1
    · refine e_then (e_icF hT (y := 317) (pc := 38) (q := (yX12_part0, cX12_part0, 2, (some .boolean), 12)) rfl (show aTab 317 38 = some (.if_icmp .ne 46, 3, 0, 0, 0, 0, 0, 0) from rfl) rfl (t := 84) rfl (cdF (by rw [c1]; show ¬ (tk.toInt ≠ 1); omega))) ?_
      refine e_then (e_al1 hT (y := 317) (pc := 41) (q := (yX12_part0, cX12_part0, 2, (some .boolean), 12)) rfl (show aTab 317 41 = some (.aload_n 0, 1, 0, 0, 0, 0, 0, 0) from rfl) rfl l0) ?_
      refine e_then (e_getf hT (y := 317) (pc := 42) (q := (yX12_part0, cX12_part0, 2, (some .boolean), 12)) rfl (show aTab 317 42 = some (.getfield 259, 3, 0, 12, 19, 0, 0, 0) from rfl) rfl (by decide) (by decide) hmo f19) ?_
      by_cases hl : lt.toInt = 0
      · refine e_then (e_ifT hT (y := 317) (pc := 45) (q := (yX12_part0, cX12_part0, 2, (some .boolean), 12)) rfl (show aTab 317 45 = some (.ifCond .eq 39, 3, 0, 0, 0, 0, 0, 0) from rfl) rfl (t := 84) rfl (cdT (by show lt.toInt = 0; exact hl))) ?_
        exact part_84 hT hk hb hp hdd h hd l0 l1 hE hN hdp htu
      · obtain ⟨N9, r9, M9, v1, v2, v3, v4, v5⟩ := isName_run hT (d := dc) (c := lt) h.ty hk
        have h9 := pS_same h v2 v4
        refine e_then (e_ifF hT (y := 317) (pc := 45) (q := (yX12_part0, cX12_part0, 2, (some .boolean), 12)) rfl (show aTab 317 45 = some (.ifCond .eq 39, 3, 0, 0, 0, 0, 0, 0) from rfl) rfl (t := 84) rfl (cdF (by show ¬ lt.toInt = 0; exact hl))) ?_
        refine e_then (e_il1 hT (y := 317) (pc := 48) (q := (yX12_part0, cX12_part0, 2, (some .boolean), 12)) rfl (show aTab 317 48 = some (.iload_n 1, 1, 0, 0, 0, 0, 0, 0) from rfl) rfl l1) ?_
        refine e_then (e_al1 hT (y := 317) (pc := 49) (q := (yX12_part0, cX12_part0, 2, (some .boolean), 12)) rfl (show aTab 317 49 = some (.aload_n 0, 1, 0, 0, 0, 0, 0, 0) from rfl) rfl l0) ?_
        refine e_then (e_getf hT (y := 317) (pc := 50) (q := (yX12_part0, cX12_part0, 2, (some .boolean), 12)) rfl (show aTab 317 50 = some (.getfield 259, 3, 0, 12, 19, 0, 0, 0) from rfl) rfl (by decide) (by decide) hmo f19) ?_
        refine e_then (e_calls hT (y := 317) (pc := 53) (q := (yX12_part0, cX12_part0, 2, (some .boolean), 12)) rfl (show aTab 317 53 = some (.invokestatic 310, 3, 2, 310, 0, 2, 2, 12) from rfl) (Nat.le_of_ble_eq_true rfl) (Nat.le_of_ble_eq_true rfl) (Nat.le_of_ble_eq_true rfl) ⟨by decide, by decide⟩ v1) ?_
        rcases v5 with rfl | ⟨rfl, v5, v6⟩
        · refine e_then (e_ifT hT (y := 317) (pc := 56) (q := (yX12_part0, cX12_part0, 2, (some .boolean), 12)) rfl (show aTab 317 56 = some (.ifCond .eq 28, 3, 0, 0, 0, 0, 0, 0) from rfl) rfl (t := 84) rfl (cdT (by show (0 : Int) = 0; rfl))) ?_
          exact part_84 hT hk hb hp hdd h9 hd l0 l1 hE hN hdp htu
        · have h179 : fld M9 17 tk := by unfold fld; rw [v3]; exact h17
          have h199 : fld M9 19 lt := by unfold fld; rw [v3]; exact h19
          obtain ⟨fo9, hmo9, -⟩ := yTy_obj h9.ty (rfl : tTy 119 = some (.inr (12, _)))
          have f199 := fld_fs hmo9 h199
          refine e_then (e_ifF hT (y := 317) (pc := 56) (q := (yX12_part0, cX12_part0, 2, (some .boolean), 12)) rfl (show aTab 317 56 = some (.ifCond .eq 28, 3, 0, 0, 0, 0, 0, 0) from rfl) rfl (t := 84) rfl (cdF (by show ¬ ((1 : Int) = 0); decide))) ?_
          refine e_then (e_al1 hT (y := 317) (pc := 59) (q := (yX12_part0, cX12_part0, 2, (some .boolean), 12)) rfl (show aTab 317 59 = some (.aload_n 0, 1, 0, 0, 0, 0, 0, 0) from rfl) rfl l0) ?_
          refine e_then (e_st hT (y := 317) (pc := 60) (q := (yX12_part0, cX12_part0, 2, (some .boolean), 12)) rfl (show aTab 317 60 = some (.iconst 1, 1, 0, 0, 0, 0, 0, 0) from rfl) (fr' := (317, 61, lv, [.int 1, .ref 128])) (M' := M9) rfl) ?_
          refine e_then (e_al1 hT (y := 317) (pc := 61) (q := (yX12_part0, cX12_part0, 2, (some .boolean), 12)) rfl (show aTab 317 61 = some (.aload_n 0, 1, 0, 0, 0, 0, 0, 0) from rfl) rfl l0) ?_
          refine e_then (e_getf hT (y := 317) (pc := 62) (q := (yX12_part0, cX12_part0, 2, (some .boolean), 12)) rfl (show aTab 317 62 = some (.getfield 259, 3, 0, 12, 19, 0, 0, 0) from rfl) rfl (by decide) (by decide) hmo9 f199) ?_
          obtain ⟨N1, M1, s1, s2, s3⟩ := step_run hT (w := 1) (v := lt) (dd' := dd + 1) h9 hb ⟨fun _ => ⟨rfl, Or.inr ⟨v5, v6⟩⟩, fun z => absurd z (by decide), fun z => absurd z (by decide)⟩ (Or.inr ⟨hp, tk, h179, by omega⟩)
          have s1 := mRun_dm s1 (Nat.zero_le dc)
          obtain ⟨fo1, hmo1, -⟩ := yTy_obj s2.ty (rfl : tTy 119 = some (.inr (12, _)))
          obtain ⟨sd, sd1, sd2⟩ := fld_bd s2.ty (k := 24) (z := 0) (lo := -2147483648) (hi := 2147483647) rfl
          have f24 := fld_fs hmo1 sd1
          obtain ⟨k1, k2, k3⟩ := pS_fset (x := sd + 1) s2 hmo1 (Or.inr (Or.inr rfl)) (z := 0) (lo := -2147483648) (hi := 2147483647) rfl ⟨i32_lo _, i32_hi _⟩ (dp' := dp) (tu' := tu) (fun z => absurd z (by decide)) (fun _ => rfl) (fun z => absurd z (by decide)) (fun _ => rfl)
          obtain ⟨fo2, hmo2, -⟩ := yTy_obj k2.ty (rfl : tTy 119 = some (.inr (12, _)))
          obtain ⟨N2, M3, n1, n2⟩ := next_run hT k2 ⟨tk, k3 17 tk (by decide) (s3 tk h179), by omega⟩
          have n1 := mRun_dm n1 (show 2 ≤ dc by omega)
          refine e_then (e_call hT (y := 317) (pc := 65) (q := (yX12_part0, cX12_part0, 2, (some .boolean), 12)) rfl (show aTab 317 65 = some (.invokevirtual 291, 3, 1, 311, 0, 2, 3, 12) from rfl) rfl ⟨by decide, Nat.le_of_ble_eq_true rfl⟩ hmo9 (Nat.le_of_ble_eq_true rfl) (Nat.le_of_ble_eq_true rfl) ⟨by decide, by decide⟩ s1) ?_
          refine e_then (e_al1 hT (y := 317) (pc := 68) (q := (yX12_part0, cX12_part0, 2, (some .boolean), 12)) rfl (show aTab 317 68 = some (.aload_n 0, 1, 0, 0, 0, 0, 0, 0) from rfl) rfl l0) ?_
          refine e_then (e_st hT (y := 317) (pc := 69) (q := (yX12_part0, cX12_part0, 2, (some .boolean), 12)) rfl (show aTab 317 69 = some (.dup, 1, 0, 0, 0, 0, 0, 0) from rfl) (fr' := (317, 70, lv, [.ref 128, .ref 128])) (M' := M1) rfl) ?_
          refine e_then (e_getf hT (y := 317) (pc := 70) (q := (yX12_part0, cX12_part0, 2, (some .boolean), 12)) rfl (show aTab 317 70 = some (.getfield 307, 3, 0, 12, 24, 0, 0, 0) from rfl) rfl (by decide) (by decide) hmo1 f24) ?_
          refine e_then (e_st hT (y := 317) (pc := 73) (q := (yX12_part0, cX12_part0, 2, (some .boolean), 12)) rfl (show aTab 317 73 = some (.iconst 1, 1, 0, 0, 0, 0, 0, 0) from rfl) (fr' := (317, 74, lv, [.int 1, .int sd, .ref 128])) (M' := M1) rfl) ?_
          refine e_then (e_st hT (y := 317) (pc := 74) (q := (yX12_part0, cX12_part0, 2, (some .boolean), 12)) rfl (show aTab 317 74 = some (.iadd, 1, 0, 0, 0, 0, 0, 0) from rfl) (fr' := (317, 75, lv, [.int (sd + 1), .ref 128])) (M' := M1) rfl) ?_
          refine e_then (e_putf hT (y := 317) (pc := 75) (q := (yX12_part0, cX12_part0, 2, (some .boolean), 12)) rfl (show aTab 317 75 = some (.putfield 307, 3, 0, 12, 24, 0, 0, 0) from rfl) rfl rfl ⟨by decide, rfl, rfl⟩ (by decide) hmo1 k1) ?_
          refine e_then (e_al1 hT (y := 317) (pc := 78) (q := (yX12_part0, cX12_part0, 2, (some .boolean), 12)) rfl (show aTab 317 78 = some (.aload_n 0, 1, 0, 0, 0, 0, 0, 0) from rfl) rfl l0) ?_
          refine e_then (e_call hT (y := 317) (pc := 79) (q := (yX12_part0, cX12_part0, 2, (some .boolean), 12)) rfl (show aTab 317 79 = some (.invokevirtual 288, 3, 1, 305, 0, 0, 3, 12) from rfl) rfl ⟨by decide, Nat.le_of_ble_eq_true rfl⟩ hmo2 (Nat.le_of_ble_eq_true rfl) (Nat.le_of_ble_eq_true rfl) ⟨by decide, by decide⟩ n1) ?_
          refine e_then (e_st hT (y := 317) (pc := 82) (q := (yX12_part0, cX12_part0, 2, (some .boolean), 12)) rfl (show aTab 317 82 = some (.iconst 1, 1, 0, 0, 0, 0, 0, 0) from rfl) (fr' := (317, 83, lv, [.int 1])) (M' := M3) rfl) ?_
          exact e_fin (e_zret hT (y := 317) (pc := 83) (q := (yX12_part0, cX12_part0, 2, (some .boolean), 12)) rfl (show aTab 317 83 = some (.ireturn, 1, 0, 0, 0, 0, 0, 0) from rfl) ⟨rfl, rfl⟩ (Or.inr rfl)) (Or.inr ⟨rfl, pS_le n2 (by omega) (by omega)⟩)
    · refine e_then (e_icT hT (y := 317) (pc := 38) (q := (yX12_part0, cX12_part0, 2, (some .boolean), 12)) rfl (show aTab 317 38 = some (.if_icmp .ne 46, 3, 0, 0, 0, 0, 0, 0) from rfl) rfl (t := 84) rfl (cdT (by rw [c1]; show (tk.toInt ≠ 1); omega))) ?_
      exact part_84 hT hk hb hp hdd h hd l0 l1 hE hN hdp htu
theorem part_ok (hT : aTabOk) {key : Int32} (hk : 0 ≤ key.toInt ∧ key.toInt ≤ 3) : ∀ (n dp tu : Nat), dp ≤ 8 → tu ≤ 8 → 6 * (8 - dp) + (8 - tu) = n → pC 317 key dp tu (n + 3) := by
  intro n
  induction n using Nat.strongRecOn with
  | _ n ih =>
    intro dp tu hdp htu hn M0 M b q p dd d hd hb hp hdd h
    obtain ⟨dc, rfl⟩ : ∃ dc, d = dc + 1 := ⟨d - 1, by omega⟩
    refine part_0 hT hk hb hp hdd h (n := n) (by omega) rfl rfl (fun h1 => ?_) (fun h1 => ?_) hdp htu
    · have h0 := ih (n - 6) (by omega) (dp + 1) tu h1 htu (by omega)
      have h5 := X12_either_of hT (X12_both_of hT (X12_test_of hT (X12_sum_of hT (X12_term_of hT h0 (by omega)) (by omega)) (by omega)) (by omega)) (by omega)
      exact fun M0 M b q p dd d hd => h5 M0 M b q p dd d (by omega)
    · have h0 := ih (n - 1) (by omega) dp (tu + 1) hdp h1 (by omega)
      exact fun M0 M b q p dd d hd => h0 M0 M b q p dd d (by omega)
theorem either_ok (hT : aTabOk) {key : Int32} (hk : 0 ≤ key.toInt ∧ key.toInt ≤ 3) : pC 312 key 0 0 64 :=
  X12_either_of hT (X12_both_of hT (X12_test_of hT (X12_sum_of hT (X12_term_of hT (part_ok hT hk 56 0 0 (by omega) (by omega) rfl) (by omega)) (by omega)) (by omega)) (by omega)) (by omega)
