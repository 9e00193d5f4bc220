/-! HAND: parse -/
def paP (y pc : Nat) : Option (tAn ⊕ Option Nat) := bif Nat.beq y 318 && Nat.beq pc 66 then some (.inr none) else none
def paW : List tG := [(119, 16, 16, 1, 0), (119, 17, 17, 1, 0), (119, 20, 24, 1, 0)]
def paA : Bool := tCk (paP, []) 400 130 [paW] (318, 0, [(0, kR 128)], []) [] ([], []) (fun lf => lAt 318 66 [kR 128] [(0, kR 128)] lf && lFB 119 16 0 0 lf && lFB 119 20 0 0 lf && lFB 119 21 0 0 lf && lFB 119 22 0 0 lf && ((lFB 119 23 3800 3800 lf && lFB 120 6 12 12 lf) || (lF 119 23 (8, 0, 1014, 200) lf && lF 120 6 (4, 0, 0, 0) lf && lFB 120 6 0 11 lf)))
theorem paA_ok : paA = true := by decide +kernel
def kyA : Bool := tCk ((fun _ _ => none), []) 4000 2 [[]] (309, 0, [(0, kR 128)], []) [] ([], []) (fun lf => lRes (-1) 3 lf)
theorem kyA_ok : kyA = true := by decide +kernel
theorem key_run (hT : aTabOk) {M : mHe} (hM : yTy M) : ∃ N k M', mRun none N 2 (309, 0, lv_args 0 [.ref 128], []) M = some (some (.int k), M') ∧ (-1 ≤ k.toInt ∧ k.toInt ≤ 3) ∧ yTy M' ∧ yFr [] M M' := by
  have hA := kyA_ok
  unfold kyA at hA
  obtain ⟨lf, f1, f2⟩ := tSegC (xs := x00) hT (fun ct hct => by cases hct) hA xE_nil (clv := lv_args 0 [.ref 128]) (yLv_cons rfl (yV_kR _ _) (yLv_nil _ _)) (cst := []) (show yS _ [] [] from trivial) ⟨hM, fun q hq => by cases hq⟩
  obtain ⟨X, N, x, M', m1, m2, m3, m4, m5⟩ := lRes_ok f1 f2
  exact ⟨N, x, M', m2, m3, m4.1, m5 _ (List.mem_singleton_self _)⟩
theorem yFr_mono {W W' : List tG} {M M' : mHe} (h : ∀ g ∈ W, ∀ c k, yG g c k → ∃ g' ∈ W', yG g' c k) (hf : yFr W M M') : yFr W' M M' := fun xs c k hn => hf xs c k (fun g hg hy => by
  obtain ⟨g', h1, h2⟩ := h g hg c k hy
  exact hn g' h1 h2)
abbrev pZ : List tG := [(120, 1010, 3409, 1, 0), (120, 3800, 3999, 1, 0), (119, 14, 24, 1, 0)]
theorem yG_f {c k : Nat} {lo hi : Int} (h : yG (119, lo, hi, 1, 0) c k) (h1 : 14 ≤ lo) (h2 : hi ≤ 24) : ∃ g' ∈ pZ, yG g' c k := by
  obtain ⟨z1, z2, z3, z4⟩ := h
  simp only at z1 z2 z3
  exact ⟨(119, 14, 24, 1, 0), by simp, z1, by show (14 : Int) ≤ _; omega, by show _ ≤ (24 : Int); omega, by show (k : Int) % 1 = 0; omega⟩
/-- where the steps lie, by how many texts there are -/
def pB2 (M : mHe) (b : Nat) : Prop := ∃ x : Int32, yRd x00 M 120 6 = some (.int x) ∧ ((b = 3800 ∧ x.toInt = 12) ∨ ∃ t : Nat, t < 12 ∧ b = 1014 + 200 * t ∧ x.toInt = (t : Int))
theorem pB_of {M : mHe} {b : Nat} (h : pB2 M b) : pB M b := by
  obtain ⟨x, h1, ⟨h2, -⟩ | ⟨t, t1, t2, t3⟩⟩ := h
  · exact Or.inl h2
  · exact Or.inr ⟨t, t1, t2, x, h1, t3⟩
def pR (M : mHe) : Prop := ∃ (b l : Nat) (lx : Int32) (dd : Int), pB2 M b ∧ fld M 22 lx ∧ lx.toInt = (l : Int) ∧ l ≤ 96 ∧ rp M b l dd
def paQ (M : mHe) : Option Value → mHe → Prop := fun r M' => ∃ x : Int32, r = some (.int x) ∧ (-1 ≤ x.toInt ∧ x.toInt ≤ 3) ∧ yTy M' ∧ yFr pZ M M' ∧ (0 ≤ x.toInt → pR M') ∧ yRd x00 M' 119 14 = some (.int 0)
theorem pa_end (hT : aTabOk) {M0 M : mHe} {d : Nat} {k g : Int32} {lv : List (Nat × Value)} (hM : yTy M) (hfr : yFr pZ M0 M) (hk : -1 ≤ k.toInt ∧ k.toInt ≤ 3) (l0 : mlg 0 lv = some (.ref 128)) (l1 : mlg 1 lv = some (.int k)) (l2 : mlg 2 lv = some (.int g)) (hg : g = 0 ∨ (g = 1 ∧ pR M)) : mEv none d (318, 113, lv, []) M (paQ M0) := by
  obtain ⟨fo, hmo, -⟩ := yTy_obj hM (rfl : tTy 119 = some (.inr (12, _)))
  obtain ⟨k1, k2, k3, k4⟩ := fset_ok (k := 14) (z := 0) (lo := 0) (hi := 96) (x := 0) hM hmo rfl (by decide)
  have hf2 : yFr pZ M0 (M.set 119 (.inr (12, fo.set 14 (.int 0)))) := by
    refine yFr_tr hfr (fun xs c i hn => ?_)
    have hlt := (List.getElem?_eq_some_iff.mp hmo).1
    by_cases hc : c = 119
    · subst hc
      have hi : i ≠ 14 := fun z => hn (119, 14, 24, 1, 0) (by simp) ⟨rfl, by rw [z]; decide, by rw [z]; decide, by rw [z]; decide⟩
      rw [yRd_obj _ (by decide) (List.getElem?_set_self hlt), yRd_obj _ (by decide) hmo, List.getElem?_set_ne (fun z => hi z.symm)]
    · exact yRd_ne hc
  have hp : yRd x00 (M.set 119 (.inr (12, fo.set 14 (.int 0)))) 119 14 = some (.int 0) := by
    rw [yRd_obj _ (by decide) (List.getElem?_set_self (List.getElem?_eq_some_iff.mp hmo).1), List.getElem?_set_self k1]
  refine e_then (e_al1 hT (y := 318) (pc := 113) (q := (yX12_parse, cX12_parse, 3, (some .int), 12)) rfl (show aTab 318 113 = some (.aload_n 0, 1, 0, 0, 0, 0, 0, 0) from rfl) rfl l0) ?_
  refine e_then (e_st hT (y := 318) (pc := 114) (q := (yX12_parse, cX12_parse, 3, (some .int), 12)) rfl (show aTab 318 114 = some (.iconst 0, 1, 0, 0, 0, 0, 0, 0) from rfl) (fr' := (318, 115, lv, [.int 0, .ref 128])) (M' := M) rfl) ?_
  refine e_then (e_putf hT (y := 318) (pc := 115) (q := (yX12_parse, cX12_parse, 3, (some .int), 12)) rfl (show aTab 318 115 = some (.putfield 236, 3, 0, 12, 14, 0, 0, 0) from rfl) rfl rfl ⟨by decide, rfl, rfl⟩ (by decide) hmo k1) ?_
  refine e_then (e_il1 hT (y := 318) (pc := 118) (q := (yX12_parse, cX12_parse, 3, (some .int), 12)) rfl (show aTab 318 118 = some (.iload_n 2, 1, 0, 0, 0, 0, 0, 0) from rfl) rfl l2) ?_
  rcases hg with rfl | ⟨rfl, b, l, lx, dd, ⟨x, x1, x2⟩, r2, r3, r4, r5⟩
  · refine e_then (e_ifT hT (y := 318) (pc := 119) (q := (yX12_parse, cX12_parse, 3, (some .int), 12)) rfl (show aTab 318 119 = some (.ifCond .eq 7, 3, 0, 0, 0, 0, 0, 0) from rfl) rfl (t := 126) rfl (cdT (by show (0 : Int) = 0; rfl))) ?_
    refine e_then (e_st hT (y := 318) (pc := 126) (q := (yX12_parse, cX12_parse, 3, (some .int), 12)) rfl (show aTab 318 126 = some (.iconst (-1), 1, 0, 0, 0, 0, 0, 0) from rfl) (fr' := (318, 127, lv, [.int (-1)])) (M' := (M.set 119 (.inr (12, fo.set 14 (.int 0))))) rfl) ?_
    exact e_fin (e_iret hT (y := 318) (pc := 127) (q := (yX12_parse, cX12_parse, 3, (some .int), 12)) rfl (show aTab 318 127 = some (.ireturn, 1, 0, 0, 0, 0, 0, 0) from rfl) ⟨rfl, rfl⟩) ⟨_, rfl, by decide, k2, hf2, fun z => absurd z (by decide), hp⟩
  · refine e_then (e_ifF hT (y := 318) (pc := 119) (q := (yX12_parse, cX12_parse, 3, (some .int), 12)) rfl (show aTab 318 119 = some (.ifCond .eq 7, 3, 0, 0, 0, 0, 0, 0) from rfl) rfl (t := 126) rfl (cdF (by show ¬ ((1 : Int) = 0); decide))) ?_
    refine e_then (e_il1 hT (y := 318) (pc := 122) (q := (yX12_parse, cX12_parse, 3, (some .int), 12)) rfl (show aTab 318 122 = some (.iload_n 1, 1, 0, 0, 0, 0, 0, 0) from rfl) rfl l1) ?_
    refine e_then (e_st hT (y := 318) (pc := 123) (q := (yX12_parse, cX12_parse, 3, (some .int), 12)) rfl (show aTab 318 123 = some (.goto 4, 3, 0, 0, 0, 0, 0, 0) from rfl) (fr' := (318, 127, lv, [.int k])) (M' := (M.set 119 (.inr (12, fo.set 14 (.int 0))))) rfl) ?_
    have e120 : ∀ i, yRd x00 (M.set 119 (.inr (12, fo.set 14 (.int 0)))) 120 i = yRd x00 M 120 i := fun i => k4 120 i (fun z => by cases z.1)
    exact e_fin (e_iret hT (y := 318) (pc := 127) (q := (yX12_parse, cX12_parse, 3, (some .int), 12)) rfl (show aTab 318 127 = some (.ireturn, 1, 0, 0, 0, 0, 0, 0) from rfl) ⟨rfl, rfl⟩) ⟨_, rfl, hk, k2, hf2, fun _ => ⟨b, l, lx, dd, ⟨x, by rw [e120]; exact x1, x2⟩, by unfold fld; rw [k4 119 22 (fun z => by cases z.2)]; exact r2, r3, r4, rp_same e120 r5⟩, hp⟩
theorem parse_run (hT : aTabOk) {M : mHe} (hM : yTy M) : mEv none 130 (318, 0, lv_args 0 [.ref 128], []) M (paQ M) := by
  have hA := paA_ok
  unfold paA at hA
  obtain ⟨lf, f1, f2⟩ := tSegC (xs := x00) hT (fun ct hct => by cases hct) hA xE_nil (clv := lv_args 0 [.ref 128]) (yLv_cons rfl (yV_kR _ _) (yLv_nil _ _)) (cst := []) (show yS _ [] [] from trivial) ⟨hM, fun q hq => by cases hq⟩
  simp only [Bool.and_eq_true, Bool.or_eq_true] at f1
  obtain ⟨⟨⟨⟨⟨f1, f16⟩, f20⟩, f21⟩, f22⟩, f23⟩ := f1
  obtain ⟨X, lv, st, M1, m1, m2, m3, m4, m5, m6, m7⟩ := lAt_ok f1 f2
  have g0 : mlg 0 lv = some (.ref 128) := loc_r m4 (by simp)
  obtain ⟨z16, a16, b16⟩ := lFB_ok (k := 16) f16 m1 m6
  obtain ⟨z20, a20, b20⟩ := lFB_ok (k := 20) f20 m1 m6
  obtain ⟨z21, a21, b21⟩ := lFB_ok (k := 21) f21 m1 m6
  obtain ⟨z22, a22, b22⟩ := lFB_ok (k := 22) f22 m1 m6
  have hB : ∃ b, pB2 M1 b ∧ ∃ x, fld M1 23 x ∧ x.toInt = (b : Int) := by
    rcases f23 with ⟨f23, f6⟩ | ⟨⟨f23, f6⟩, f7⟩
    · obtain ⟨x, x1, x2⟩ := lFB_ok (k := 23) f23 m1 m6
      obtain ⟨y, y1, y2⟩ := lFB_ok (k := 6) f6 m1 m6
      exact ⟨3800, ⟨y, y1, Or.inl ⟨rfl, by omega⟩⟩, x, x1, by omega⟩
    · obtain ⟨x, x1, x2⟩ := lF_ok (k := 23) f23 m6
      obtain ⟨y, y1, y2⟩ := lF_ok (k := 6) f6 m6
      obtain ⟨v, v1, v2⟩ := lFB_ok (k := 6) f7 m1 m6
      obtain ⟨x', rfl, x3⟩ := yV_int rfl x2
      obtain ⟨y', rfl, y3⟩ := yV_int rfl y2
      rw [y1] at v1
      cases v1
      obtain ⟨e, e1, -, e2⟩ := x3.2
      obtain ⟨e', e3, e4⟩ := y3.2
      rw [e1] at e3
      cases e3
      exact ⟨1014 + 200 * v.toInt.toNat, ⟨v, y1, Or.inr ⟨v.toInt.toNat, by omega, rfl, by omega⟩⟩, x', x1, by omega⟩
  obtain ⟨b, hB, bx, bx1, bx2⟩ := hB
  obtain ⟨tp, tp1, tp2⟩ := fld_bd m6.1 (k := 14) (z := 0) (lo := 0) (hi := 96) rfl
  obtain ⟨N2, M2, n1, n2, n3, bg, bh, tp', tk, n4, n5, n6, n7, n8, n9, n10, n11⟩ := nx_run hT m6.1 (show fld M1 16 z16 from a16) tp1 (by omega)
  have n1 := mRun_dm n1 (show 2 ≤ 129 by decide)
  obtain ⟨N3, k, M3, q1, q2, q3, q4⟩ := key_run hT n2
  have q1 := mRun_dm q1 (show 2 ≤ 129 by decide)
  have nxZ : ∀ {A B : mHe}, yFr nxW A B → yFr pZ A B := fun {A B} h => yFr_mono (fun g hg c k hy => by
    unfold nxW at hg
    simp only [List.mem_cons, List.not_mem_nil, or_false] at hg
    rcases hg with rfl | rfl | rfl | rfl | rfl <;> exact yG_f hy (by decide) (by decide)) h
  have hfr1 : yFr pZ M M1 := yFr_mono (fun g hg c k hy => by
    unfold paW at hg
    simp only [List.mem_cons, List.not_mem_nil, or_false] at hg
    rcases hg with rfl | rfl | rfl <;> exact yG_f hy (by decide) (by decide)) (m7 _ (List.mem_singleton_self _))
  have hfr3 : yFr pZ M M3 := yFr_tr hfr1 (yFr_tr (nxZ n3) (fun xs c k _ => yFr_nil q4 c k))
  have keepN : ∀ {A B : mHe}, yFr nxW A B → ∀ c k, ¬ (c = 119 ∧ 15 ≤ k ∧ k ≤ 19) → yRd x00 B c k = yRd x00 A c k := fun {A B} h c k hn => h x00 c k (fun g hg => by
    unfold nxW at hg
    simp only [List.mem_cons, List.not_mem_nil, or_false] at hg
    rcases hg with rfl | rfl | rfl | rfl | rfl <;> (rintro ⟨z1, z2, z3, -⟩; simp only at z1 z2 z3; exact hn ⟨z1.symm, by omega⟩))
  have hst : st = [.ref 128] := by
    obtain ⟨v, m, rfl, v1, v2⟩ := yS_cons m3
    rw [yV_ref v1, yS_nil v2]
  subst hst
  refine e_then m2 ?_
  obtain ⟨fo1, hmo1, -⟩ := yTy_obj m6.1 (rfl : tTy 119 = some (.inr (12, _)))
  obtain ⟨fo2, hmo2, -⟩ := yTy_obj n2 (rfl : tTy 119 = some (.inr (12, _)))
  obtain ⟨fo3, hmo3, -⟩ := yTy_obj q3 (rfl : tTy 119 = some (.inr (12, _)))
  refine e_then (e_call hT (y := 318) (pc := 66) (q := (yX12_parse, cX12_parse, 3, (some .int), 12)) rfl (show aTab 318 66 = some (.invokevirtual 288, 3, 1, 305, 0, 0, 3, 12) from rfl) rfl ⟨by decide, Nat.le_of_ble_eq_true rfl⟩ hmo1 (Nat.le_of_ble_eq_true rfl) (Nat.le_of_ble_eq_true rfl) ⟨by decide, by decide⟩ n1) ?_
  refine e_then (e_al1 hT (y := 318) (pc := 69) (q := (yX12_parse, cX12_parse, 3, (some .int), 12)) rfl (show aTab 318 69 = some (.aload_n 0, 1, 0, 0, 0, 0, 0, 0) from rfl) rfl g0) ?_
  refine e_then (e_call hT (y := 318) (pc := 70) (q := (yX12_parse, cX12_parse, 3, (some .int), 12)) rfl (show aTab 318 70 = some (.invokevirtual 325, 3, 1, 309, 0, 0, 2, 12) from rfl) rfl ⟨by decide, Nat.le_of_ble_eq_true rfl⟩ hmo2 (Nat.le_of_ble_eq_true rfl) (Nat.le_of_ble_eq_true rfl) ⟨by decide, by decide⟩ q1) ?_
  refine e_then (e_is1 hT (y := 318) (pc := 73) (q := (yX12_parse, cX12_parse, 3, (some .int), 12)) rfl (show aTab 318 73 = some (.istore_n 1, 1, 0, 0, 0, 0, 0, 0) from rfl) ⟨rfl, by decide⟩) ?_
  refine e_then (e_il1 hT (y := 318) (pc := 74) (q := (yX12_parse, cX12_parse, 3, (some .int), 12)) rfl (show aTab 318 74 = some (.iload_n 1, 1, 0, 0, 0, 0, 0, 0) from rfl) rfl (mlg_eq 1 _ _)) ?_
  by_cases hk : k.toInt < 0
  · refine e_then (e_ifT hT (y := 318) (pc := 75) (q := (yX12_parse, cX12_parse, 3, (some .int), 12)) rfl (show aTab 318 75 = some (.ifCond .lt 7, 3, 0, 0, 0, 0, 0, 0) from rfl) rfl (t := 82) rfl (cdT (by show k.toInt < 0; exact hk))) ?_
    refine e_then (e_st hT (y := 318) (pc := 82) (q := (yX12_parse, cX12_parse, 3, (some .int), 12)) rfl (show aTab 318 82 = some (.iconst 0, 1, 0, 0, 0, 0, 0, 0) from rfl) (fr' := (318, 83, (mlp 1 (.int k) lv), [.int 0])) (M' := M3) rfl) ?_
    refine e_then (e_is1 hT (y := 318) (pc := 83) (q := (yX12_parse, cX12_parse, 3, (some .int), 12)) rfl (show aTab 318 83 = some (.istore_n 2, 1, 0, 0, 0, 0, 0, 0) from rfl) ⟨rfl, by decide⟩) ?_
    refine e_then (e_il1 hT (y := 318) (pc := 84) (q := (yX12_parse, cX12_parse, 3, (some .int), 12)) rfl (show aTab 318 84 = some (.iload_n 2, 1, 0, 0, 0, 0, 0, 0) from rfl) rfl (mlg_eq 2 _ _)) ?_
    refine e_then (e_ifT hT (y := 318) (pc := 85) (q := (yX12_parse, cX12_parse, 3, (some .int), 12)) rfl (show aTab 318 85 = some (.ifCond .eq 28, 3, 0, 0, 0, 0, 0, 0) from rfl) rfl (t := 113) rfl (cdT (by show (0 : Int) = 0; rfl))) ?_
    exact pa_end hT q3 hfr3 q2 (mlg_r (mlg_r g0 (by decide)) (by decide)) (mlg_i (mlg_eq 1 _ _) (by decide)) (mlg_eq 2 _ _) (Or.inl rfl)
  · obtain ⟨N4, M4, s1, s2, s3, bg2, bh2, tp2', tk2, s4, s5, s6, s7, s8, s9, s10, s11⟩ := nx_run hT q3 (bh := bh) (tp := tp') (by unfold fld; rw [yFr_nil q4]; exact n5) (by unfold fld; rw [yFr_nil q4]; exact n6) n10
    have s1 := mRun_dm s1 (show 2 ≤ 129 by decide)
    have keep : ∀ c k, ¬ (c = 119 ∧ 15 ≤ k ∧ k ≤ 19) → yRd x00 M4 c k = yRd x00 M1 c k := fun c k hn => by rw [keepN s3 c k hn, yFr_nil q4, keepN n3 c k hn]
    have k120 : ∀ i, yRd x00 M4 120 i = yRd x00 M1 120 i := fun i => keep 120 i (fun z => by cases z.1)
    obtain ⟨tq, tq1, tq2⟩ := fld_bd s2 (k := 14) (z := 0) (lo := 0) (hi := 96) rfl
    cases fld_eq s6 tq1
    have hB4 : pB2 M4 b := by
      obtain ⟨x, x1, x2⟩ := hB
      exact ⟨x, by rw [k120]; exact x1, x2⟩
    have hS : pS M4 M4 b 0 0 0 0 0 := ⟨s2, yFr_rf _ _, ⟨0, z22, bg2, bh2, tp2', tk2, s6, s4, s5, s7, by unfold fld; rw [keep 119 22 (by omega)]; exact a22, by omega, by omega, s11, by omega, ⟨fun _ => 0, rfl, fun j hj => absurd hj (by omega), rfl⟩⟩, ⟨bx, by unfold fld; rw [keep 119 23 (by omega)]; exact bx1, bx2⟩, ⟨z20, by unfold fld; rw [keep 119 20 (by omega)]; exact a20, by omega⟩, ⟨z21, by unfold fld; rw [keep 119 21 (by omega)]; exact a21, by omega⟩⟩
    obtain ⟨N5, r5, M5, t1, t2⟩ := either_ok hT (key := k) (by omega) M4 M4 b 0 0 0 129 (by decide) (pB_of hB4) (Int.le_refl 0) (Int.le_refl 0) hS
    have hfr4 : yFr pZ M M4 := yFr_tr hfr3 (nxZ s3)
    obtain ⟨fo4, hmo4, -⟩ := yTy_obj s2 (rfl : tTy 119 = some (.inr (12, _)))
    have hbb : 1010 ≤ b ∧ b ≤ 3800 := by
      obtain ⟨x, x1, ⟨x2, x3⟩ | ⟨t, x2, x3, x4⟩⟩ := hB <;> omega
    have hb3 : (1010 ≤ b ∧ b ≤ 3214) ∨ b = 3800 := by
      obtain ⟨x, x1, ⟨x2, x3⟩ | ⟨t, x2, x3, x4⟩⟩ := hB <;> omega
    have pwZ : ∀ {A B : mHe}, yFr (pW b) A B → yFr pZ A B := fun {A B} h => yFr_mono (fun g hg c k hy => by
      unfold pW at hg
      simp only [List.mem_cons, List.not_mem_nil, or_false] at hg
      rcases hg with rfl | rfl | rfl
      · obtain ⟨y1, y2, y3, y4⟩ := hy
        simp only at y1 y2 y3
        rcases hb3 with hb3 | hb3
        · exact ⟨(120, 1010, 3409, 1, 0), by simp, y1, by show (1010 : Int) ≤ _; omega, by show _ ≤ (3409 : Int); omega, by show (k : Int) % 1 = 0; omega⟩
        · exact ⟨(120, 3800, 3999, 1, 0), by simp, y1, by show (3800 : Int) ≤ _; omega, by show _ ≤ (3999 : Int); omega, by show (k : Int) % 1 = 0; omega⟩
      · exact yG_f hy (by decide) (by decide)
      · exact yG_f hy (by decide) (by decide)) h
    refine e_then (e_ifF hT (y := 318) (pc := 75) (q := (yX12_parse, cX12_parse, 3, (some .int), 12)) rfl (show aTab 318 75 = some (.ifCond .lt 7, 3, 0, 0, 0, 0, 0, 0) from rfl) rfl (t := 82) rfl (cdF (by show ¬ k.toInt < 0; exact hk))) ?_
    refine e_then (e_st hT (y := 318) (pc := 78) (q := (yX12_parse, cX12_parse, 3, (some .int), 12)) rfl (show aTab 318 78 = some (.iconst 1, 1, 0, 0, 0, 0, 0, 0) from rfl) (fr' := (318, 79, (mlp 1 (.int k) lv), [.int 1])) (M' := M3) rfl) ?_
    refine e_then (e_st hT (y := 318) (pc := 79) (q := (yX12_parse, cX12_parse, 3, (some .int), 12)) rfl (show aTab 318 79 = some (.goto 4, 3, 0, 0, 0, 0, 0, 0) from rfl) (fr' := (318, 83, (mlp 1 (.int k) lv), [.int 1])) (M' := M3) rfl) ?_
    refine e_then (e_is1 hT (y := 318) (pc := 83) (q := (yX12_parse, cX12_parse, 3, (some .int), 12)) rfl (show aTab 318 83 = some (.istore_n 2, 1, 0, 0, 0, 0, 0, 0) from rfl) ⟨rfl, by decide⟩) ?_
    refine e_then (e_il1 hT (y := 318) (pc := 84) (q := (yX12_parse, cX12_parse, 3, (some .int), 12)) rfl (show aTab 318 84 = some (.iload_n 2, 1, 0, 0, 0, 0, 0, 0) from rfl) rfl (mlg_eq 2 _ _)) ?_
    refine e_then (e_ifF hT (y := 318) (pc := 85) (q := (yX12_parse, cX12_parse, 3, (some .int), 12)) rfl (show aTab 318 85 = some (.ifCond .eq 28, 3, 0, 0, 0, 0, 0, 0) from rfl) rfl (t := 113) rfl (cdF (by show ¬ ((1 : Int) = 0); decide))) ?_
    refine e_then (e_al1 hT (y := 318) (pc := 88) (q := (yX12_parse, cX12_parse, 3, (some .int), 12)) rfl (show aTab 318 88 = some (.aload_n 0, 1, 0, 0, 0, 0, 0, 0) from rfl) rfl (mlg_r (mlg_r g0 (by decide)) (by decide))) ?_
    refine e_then (e_call hT (y := 318) (pc := 89) (q := (yX12_parse, cX12_parse, 3, (some .int), 12)) rfl (show aTab 318 89 = some (.invokevirtual 288, 3, 1, 305, 0, 0, 3, 12) from rfl) rfl ⟨by decide, Nat.le_of_ble_eq_true rfl⟩ hmo3 (Nat.le_of_ble_eq_true rfl) (Nat.le_of_ble_eq_true rfl) ⟨by decide, by decide⟩ s1) ?_
    refine e_then (e_al1 hT (y := 318) (pc := 92) (q := (yX12_parse, cX12_parse, 3, (some .int), 12)) rfl (show aTab 318 92 = some (.aload_n 0, 1, 0, 0, 0, 0, 0, 0) from rfl) rfl (mlg_r (mlg_r g0 (by decide)) (by decide))) ?_
    refine e_then (e_il1 hT (y := 318) (pc := 93) (q := (yX12_parse, cX12_parse, 3, (some .int), 12)) rfl (show aTab 318 93 = some (.iload_n 1, 1, 0, 0, 0, 0, 0, 0) from rfl) rfl (mlg_i (mlg_eq 1 _ _) (by decide))) ?_
    rcases t2 with ⟨rfl, t2, t3⟩ | ⟨rfl, t2⟩
    · refine e_then (e_call hT (y := 318) (pc := 94) (q := (yX12_parse, cX12_parse, 3, (some .int), 12)) rfl (show aTab 318 94 = some (.invokevirtual 319, 3, 1, 312, 0, 1, 2, 12) from rfl) rfl ⟨by decide, Nat.le_of_ble_eq_true rfl⟩ hmo4 (Nat.le_of_ble_eq_true rfl) (Nat.le_of_ble_eq_true rfl) ⟨by decide, by decide⟩ t1) ?_
      refine e_then (e_ifT hT (y := 318) (pc := 97) (q := (yX12_parse, cX12_parse, 3, (some .int), 12)) rfl (show aTab 318 97 = some (.ifCond .eq 14, 3, 0, 0, 0, 0, 0, 0) from rfl) rfl (t := 111) rfl (cdT (by show (0 : Int) = 0; rfl))) ?_
      refine e_then (e_st hT (y := 318) (pc := 111) (q := (yX12_parse, cX12_parse, 3, (some .int), 12)) rfl (show aTab 318 111 = some (.iconst 0, 1, 0, 0, 0, 0, 0, 0) from rfl) (fr' := (318, 112, (mlp 2 (.int 1) (mlp 1 (.int k) lv)), [.int 0])) (M' := M5) rfl) ?_
      refine e_then (e_is1 hT (y := 318) (pc := 112) (q := (yX12_parse, cX12_parse, 3, (some .int), 12)) rfl (show aTab 318 112 = some (.istore_n 2, 1, 0, 0, 0, 0, 0, 0) from rfl) ⟨rfl, by decide⟩) ?_
      exact pa_end hT t2 (yFr_tr hfr4 (pwZ t3)) q2 (mlg_r (mlg_r (mlg_r g0 (by decide)) (by decide)) (by decide)) (mlg_i (mlg_i (mlg_eq 1 _ _) (by decide)) (by decide)) (mlg_eq 2 _ _) (Or.inl rfl)
    · obtain ⟨l, lx, bg5, bh5, tp5, tk5, e1, e2, e3, e4, e5, e6, e7, e8, e9, e10⟩ := t2.ex
      obtain ⟨fo5, hmo5, -⟩ := yTy_obj t2.ty (rfl : tTy 119 = some (.inr (12, _)))
      have f17 := fld_fs hmo5 e4
      have hfr5 := yFr_tr hfr4 (pwZ t2.fr)
      refine e_then (e_call hT (y := 318) (pc := 94) (q := (yX12_parse, cX12_parse, 3, (some .int), 12)) rfl (show aTab 318 94 = some (.invokevirtual 319, 3, 1, 312, 0, 1, 2, 12) from rfl) rfl ⟨by decide, Nat.le_of_ble_eq_true rfl⟩ hmo4 (Nat.le_of_ble_eq_true rfl) (Nat.le_of_ble_eq_true rfl) ⟨by decide, by decide⟩ t1) ?_
      refine e_then (e_ifF hT (y := 318) (pc := 97) (q := (yX12_parse, cX12_parse, 3, (some .int), 12)) rfl (show aTab 318 97 = some (.ifCond .eq 14, 3, 0, 0, 0, 0, 0, 0) from rfl) rfl (t := 111) rfl (cdF (by show ¬ ((1 : Int) = 0); decide))) ?_
      refine e_then (e_al1 hT (y := 318) (pc := 100) (q := (yX12_parse, cX12_parse, 3, (some .int), 12)) rfl (show aTab 318 100 = some (.aload_n 0, 1, 0, 0, 0, 0, 0, 0) from rfl) rfl (mlg_r (mlg_r g0 (by decide)) (by decide))) ?_
      refine e_then (e_getf hT (y := 318) (pc := 101) (q := (yX12_parse, cX12_parse, 3, (some .int), 12)) rfl (show aTab 318 101 = some (.getfield 250, 3, 0, 12, 17, 0, 0, 0) from rfl) rfl (by decide) (by decide) hmo5 f17) ?_
      by_cases h0 : tk5.toInt = 0
      · refine e_then (e_ifF hT (y := 318) (pc := 104) (q := (yX12_parse, cX12_parse, 3, (some .int), 12)) rfl (show aTab 318 104 = some (.ifCond .ne 7, 3, 0, 0, 0, 0, 0, 0) from rfl) rfl (t := 111) rfl (cdF (by show ¬ (tk5.toInt ≠ 0); omega))) ?_
        refine e_then (e_st hT (y := 318) (pc := 107) (q := (yX12_parse, cX12_parse, 3, (some .int), 12)) rfl (show aTab 318 107 = some (.iconst 1, 1, 0, 0, 0, 0, 0, 0) from rfl) (fr' := (318, 108, (mlp 2 (.int 1) (mlp 1 (.int k) lv)), [.int 1])) (M' := M5) rfl) ?_
        refine e_then (e_st hT (y := 318) (pc := 108) (q := (yX12_parse, cX12_parse, 3, (some .int), 12)) rfl (show aTab 318 108 = some (.goto 4, 3, 0, 0, 0, 0, 0, 0) from rfl) (fr' := (318, 112, (mlp 2 (.int 1) (mlp 1 (.int k) lv)), [.int 1])) (M' := M5) rfl) ?_
        refine e_then (e_is1 hT (y := 318) (pc := 112) (q := (yX12_parse, cX12_parse, 3, (some .int), 12)) rfl (show aTab 318 112 = some (.istore_n 2, 1, 0, 0, 0, 0, 0, 0) from rfl) ⟨rfl, by decide⟩) ?_
        refine pa_end hT t2.ty hfr5 q2 (mlg_r (mlg_r (mlg_r g0 (by decide)) (by decide)) (by decide)) (mlg_i (mlg_i (mlg_eq 1 _ _) (by decide)) (by decide)) (mlg_eq 2 _ _) (Or.inr ⟨rfl, b, l, lx, _, ?_, e5, e6, by omega, e10⟩)
        obtain ⟨x, x1, x2⟩ := hB4
        refine ⟨x, ?_, x2⟩
        rw [t2.fr x00 120 6 (fun g hg => by
          unfold pW at hg
          simp only [List.mem_cons, List.not_mem_nil, or_false] at hg
          rcases hg with rfl | rfl | rfl
          · rintro ⟨z1, z2, z3, -⟩
            simp only at z2
            omega
          · rintro ⟨z1, -⟩; cases z1
          · rintro ⟨z1, -⟩; cases z1)]
        exact x1
      · refine e_then (e_ifT hT (y := 318) (pc := 104) (q := (yX12_parse, cX12_parse, 3, (some .int), 12)) rfl (show aTab 318 104 = some (.ifCond .ne 7, 3, 0, 0, 0, 0, 0, 0) from rfl) rfl (t := 111) rfl (cdT (by show (tk5.toInt ≠ 0); omega))) ?_
        refine e_then (e_st hT (y := 318) (pc := 111) (q := (yX12_parse, cX12_parse, 3, (some .int), 12)) rfl (show aTab 318 111 = some (.iconst 0, 1, 0, 0, 0, 0, 0, 0) from rfl) (fr' := (318, 112, (mlp 2 (.int 1) (mlp 1 (.int k) lv)), [.int 0])) (M' := M5) rfl) ?_
        refine e_then (e_is1 hT (y := 318) (pc := 112) (q := (yX12_parse, cX12_parse, 3, (some .int), 12)) rfl (show aTab 318 112 = some (.istore_n 2, 1, 0, 0, 0, 0, 0, 0) from rfl) ⟨rfl, by decide⟩) ?_
        exact pa_end hT t2.ty hfr5 q2 (mlg_r (mlg_r (mlg_r g0 (by decide)) (by decide)) (by decide)) (mlg_i (mlg_i (mlg_eq 1 _ _) (by decide)) (by decide)) (mlg_eq 2 _ _) (Or.inl rfl)
theorem pZ_one {W : List tG} {M M' : mHe} (h1 : (120, 1010, 3409, 1, 0) ∈ W) (h1b : (120, 3800, 3999, 1, 0) ∈ W) (h2 : ∀ k : Nat, 14 ≤ k → k ≤ 24 → (119, (k : Int), (k : Int), 1, 0) ∈ W) (h : yFr pZ M M') : yFr W M M' := yFr_mono (fun g hg c k hy => by
  simp only [pZ, List.mem_cons, List.not_mem_nil, or_false] at hg
  rcases hg with rfl | rfl | rfl
  · exact ⟨_, h1, hy⟩
  · exact ⟨_, h1b, hy⟩
  · obtain ⟨y1, y2, y3, y4⟩ := hy
    simp only at y1 y2 y3
    exact ⟨_, h2 k (by omega) (by omega), y1, Int.le_refl _, Int.le_refl _, by show (k : Int) % 1 = 0; omega⟩) h
theorem hand_parse (hT : aTabOk) : tCtOk (318, [(0, 128, 0, 0)], some ((-1), 3), [(120, 1010, 3409, 1, 0), (120, 3800, 3999, 1, 0), (119, 14, 14, 1, 0), (119, 15, 15, 1, 0), (119, 16, 16, 1, 0), (119, 17, 17, 1, 0), (119, 18, 18, 1, 0), (119, 19, 19, 1, 0), (119, 20, 20, 1, 0), (119, 21, 21, 1, 0), (119, 22, 22, 1, 0), (119, 23, 23, 1, 0), (119, 24, 24, 1, 0)], 130, [], []) := by
  intro M vs d hM hvs hd _
  match vs, hvs with
  | [v1], h =>
    have h1 : v1 = .ref 128 := h.1
    subst h1
    obtain ⟨N, r, M', m1, x, rfl, m2, m3, m4, -⟩ := parse_run hT hM
    refine ⟨N, _, M', mRun_dm m1 hd, m3, pZ_one (by simp) (by simp) (fun k h1 h2 => ?_) m4, ⟨x, rfl, m2⟩, fun ab hab => by cases hab⟩
    have : k = 14 ∨ k = 15 ∨ k = 16 ∨ k = 17 ∨ k = 18 ∨ k = 19 ∨ k = 20 ∨ k = 21 ∨ k = 22 ∨ k = 23 ∨ k = 24 := by omega
    rcases this with rfl | rfl | rfl | rfl | rfl | rfl | rfl | rfl | rfl | rfl | rfl <;> simp
