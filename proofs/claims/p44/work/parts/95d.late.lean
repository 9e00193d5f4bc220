/-! HAND: the image told leaves what is now as it was -/
def tdP (y pc : Nat) : Option (tAn ⊕ Option Nat) := bif Nat.beq y 360 && (Nat.beq pc 34 || Nat.beq pc 104) then some (.inr none) else tPt_ y pc
def tdA : Bool := tCk (tdP, tKs_144) 4000 20 [[]] (360, 0, [(0, kR 128), (1, (4, 0, 0, 0))], []) [((119, 0, 34, 0), kI 0)] ([(-2147483648, 2147483647)], []) (fun lf => lRes (-1000000002) (-1000000001) lf || (lAt 360 34 [kR 131, kR 129, kR 128] [(0, kR 128), (1, (4, 0, 0, 0))] lf && lL 1 1 30 lf))
theorem tdA_ok : tdA = true := by decide +kernel
def tdW : List tG := [(120, 0, 3999, 1, 0), (137, 0, 59, 1, 0), (119, 34, 34, 1, 0)]
def tdC : Bool := tCk (tdP, tKs_144) 20000 20 [tdW] (360, 49, [(0, kR 128), (1, (4, 0, 0, 0))], []) [((119, 0, 34, 0), kI 0)] ([(1, 30)], []) (fun lf => lAt 360 104 [kR 129, kR 131, kR 128] [(0, kR 128)] lf)
set_option maxRecDepth 100000 in
theorem tdC_ok : tdC = true := by decide +kernel
theorem told_ok (hT : aTabOk) (hK : ∀ c ∈ tKs_144, tCtOk c) : tCtOk (360, [(0, 128, 0, 0), (1, 0, (-2147483648), 2147483647)], some ((-1000000002), 0), [(122, 0, 3999, 1, 0), (137, 0, 59, 1, 0), (119, 34, 34, 1, 0)], 23, [], [(119, 34, 0, 0)]) := by
  intro M vs d hM hvs hd hpre
  have hd : 23 ≤ d := hd
  have k76 : tCtOk tC_76 := hK _ (by decide +kernel)
  have k77 : tCtOk tC_77 := hK _ (by decide +kernel)
  have k78 : tCtOk tC_78 := hK _ (by decide +kernel)
  match vs, hvs with
  | [v1, v2], h =>
    have h1 : v1 = .ref 128 := h.1
    obtain ⟨a, rfl, -⟩ : ∃ x : Int32, v2 = .int x ∧ -2147483648 ≤ x.toInt ∧ x.toInt ≤ 2147483647 := h.2.1
    subst h1
    have hz : ∀ xs, yRd xs M 119 34 = some (.int 0) := fun xs => by
      obtain ⟨x, x1, x2, x3⟩ := hpre _ (List.mem_singleton_self _) xs
      rw [x1, i32eq (show x.toInt = (0 : Int32).toInt by have : (0 : Int32).toInt = 0 := rfl; simp only at x2 x3; omega)]
    have hE : xE [a.toInt] ([(-2147483648, 2147483647)], []) := by
      refine xE_of_list rfl (fun i l u e hb he => ?_)
      match i with
      | 0 => cases hb; cases he; exact ⟨⟨i32_lo _, i32_hi _⟩, i32_lo _, i32_hi _⟩
      | i + 1 => simp at hb
    obtain ⟨lf, f1, f2⟩ := tSegC (xs := x00) hT hK tdA_ok hE (clv := lv_args 0 [.ref 128, .int a]) (yLv_cons rfl (yV_kR _ _) (yLv_cons rfl (yV_atom rfl) (yLv_nil _ _))) (cst := []) (show yS _ [] [] from trivial) ⟨hM, fun q hq => by
      rw [List.mem_singleton] at hq
      subst hq
      exact ⟨34, rfl, .int 0, hz x00, yV_kI _ rfl⟩⟩
    rw [Bool.or_eq_true, Bool.and_eq_true] at f1
    rcases f1 with f1 | ⟨f1, f3⟩
    · obtain ⟨X, N, x, M', m1, m2, m3, m4, m5⟩ := lRes_ok f1 f2
      exact ⟨N, _, M', mRun_dm m2 (by omega), m4.1, fun xs c k _ => yFr_nil (m5 _ (List.mem_singleton_self _)) c k, ⟨x, rfl, by omega, by omega⟩, fun ab hab => by cases hab⟩
    · obtain ⟨X, lv, st, M1, m1, m2, m3, m4, m5, m6, m7⟩ := lAt_ok f1 f2
      have fr1 : yFr [] M M1 := m7 _ (List.mem_singleton_self _)
      obtain ⟨a', l1, a1, a2⟩ := m5 _ _ _ f3
      obtain ⟨a'', l1', z1⟩ := loc_i (k := 1) (i := 0) (a := 0) (e := a.toInt) m4 (by simp) rfl
      rw [l1] at l1'
      cases l1'
      have ea : a' = a := i32eq (by omega)
      subst ea
      have l0 : mlg 0 lv = some (.ref 128) := loc_r m4 (by simp)
      obtain ⟨rfl⟩ : st = [.ref 131, .ref 129, .ref 128] := by
        match st, m3 with
        | [w1, w2, w3], m3 => rw [yV_ref m3.1, yV_ref m3.2.1, yV_ref m3.2.2.1]
      have main : mEv none 20 (360, 34, lv, [.ref 131, .ref 129, .ref 128]) M1 (fun r M' => r = some (.int 0) ∧ yTy M' ∧ yFr [(122, 0, 3999, 1, 0), (137, 0, 59, 1, 0), (119, 34, 34, 1, 0)] M1 M') := by
        obtain ⟨fs1, hfs1, -⟩ := yTy_obj m6.1 (rfl : tTy 119 = some (.inr (12, _)))
        obtain ⟨N1, r1, M2, n1, n2, n3, n4, n5⟩ := k76 M1 [.ref 128, .ref 129, .ref 131] 19 m6.1 ⟨rfl, rfl, rfl, trivial⟩ (by decide) (fun p hp => by cases hp)
        have n4 : r1 = none := n4
        subst n4
        obtain ⟨fs2, hfs2, -⟩ := yTy_obj n2 (rfl : tTy 119 = some (.inr (12, _)))
        obtain ⟨N2, r2, M3, p1, p2, p3, p4, p5⟩ := k77 M2 [.ref 128, .ref 130, .ref 129] 19 n2 ⟨rfl, rfl, rfl, trivial⟩ (by decide) (fun p hp => by cases hp)
        have p4 : r2 = none := p4
        subst p4
        refine e_then (e_call hT (y := 360) (pc := 34) (q := (yX12_rowsTold, cX12_rowsTold, 4, (some .int), 12)) rfl (show aTab 360 34 = some (.invokevirtual 419, 3, 1, 356, 0, 2, 4, 12) from rfl) rfl ⟨by decide, Nat.le_of_ble_eq_true rfl⟩ hfs1 (Nat.le_of_ble_eq_true rfl) (Nat.le_of_ble_eq_true rfl) ⟨by decide, by decide⟩ n1) ?_
        refine e_then (e_al1 hT (y := 360) (pc := 37) (q := (yX12_rowsTold, cX12_rowsTold, 4, (some .int), 12)) rfl (show aTab 360 37 = some (.aload_n 0, 1, 0, 0, 0, 0, 0, 0) from rfl) rfl l0) ?_
        refine e_then (e_al1 hT (y := 360) (pc := 38) (q := (yX12_rowsTold, cX12_rowsTold, 4, (some .int), 12)) rfl (show aTab 360 38 = some (.aload_n 0, 1, 0, 0, 0, 0, 0, 0) from rfl) rfl l0) ?_
        refine e_then (e_getR hT (y := 360) (pc := 39) (q := (yX12_rowsTold, cX12_rowsTold, 4, (some .int), 12)) rfl (show aTab 360 39 = some (.getfield 13, 3, 0, 12, 1, 0, 0, 0) from rfl) rfl (by decide) (by decide) n2 rfl rfl) ?_
        refine e_then (e_al1 hT (y := 360) (pc := 42) (q := (yX12_rowsTold, cX12_rowsTold, 4, (some .int), 12)) rfl (show aTab 360 42 = some (.aload_n 0, 1, 0, 0, 0, 0, 0, 0) from rfl) rfl l0) ?_
        refine e_then (e_getR hT (y := 360) (pc := 43) (q := (yX12_rowsTold, cX12_rowsTold, 4, (some .int), 12)) rfl (show aTab 360 43 = some (.getfield 7, 3, 0, 12, 0, 0, 0, 0) from rfl) rfl (by decide) (by decide) n2 rfl rfl) ?_
        refine e_then (e_call hT (y := 360) (pc := 46) (q := (yX12_rowsTold, cX12_rowsTold, 4, (some .int), 12)) rfl (show aTab 360 46 = some (.invokevirtual 419, 3, 1, 356, 0, 2, 4, 12) from rfl) rfl ⟨by decide, Nat.le_of_ble_eq_true rfl⟩ hfs2 (Nat.le_of_ble_eq_true rfl) (Nat.le_of_ble_eq_true rfl) ⟨by decide, by decide⟩ p1) ?_
        have hz3 : yRd x00 M3 119 34 = some (.int 0) := by
          rw [p3 x00 119 34 (fun g hg hy => by
            have hg : g ∈ [(120, (0 : Int), (3999 : Int), 1, (0 : Int))] := hg
            rw [List.mem_singleton] at hg
            subst hg
            exact absurd hy.1 (by decide)), n3 x00 119 34 (fun g hg hy => by
            have hg : g ∈ [(122, (0 : Int), (3999 : Int), 1, (0 : Int))] := hg
            rw [List.mem_singleton] at hg
            subst hg
            exact absurd hy.1 (by decide)), yFr_nil fr1]
          exact hz x00
        have hE2 : xE [a'.toInt] ([(1, 30)], []) := by
          refine xE_of_list rfl (fun i l u e hb he => ?_)
          match i with
          | 0 => cases hb; cases he; exact ⟨⟨a1, a2⟩, i32_lo _, i32_hi _⟩
          | i + 1 => simp at hb
        obtain ⟨lf2, g1, g2⟩ := tSegC (xs := x00) hT hK tdC_ok hE2 (clv := lv) (yLv_cons l0 (yV_kR _ _) (yLv_cons l1 (yV_atom rfl) (yLv_nil _ _))) (cst := []) (show yS _ [] [] from trivial) (M := M3) ⟨p2, fun q hq => by
          rw [List.mem_singleton] at hq
          subst hq
          exact ⟨34, rfl, .int 0, hz3, yV_kI _ rfl⟩⟩
        obtain ⟨X2, lv2, st2, M4, q1, q2, q3, q4, q5, q6, q7⟩ := lAt_ok g1 g2
        have fr4 : yFr tdW M3 M4 := q7 _ (List.mem_singleton_self _)
        have k0 : mlg 0 lv2 = some (.ref 128) := loc_r q4 (by simp)
        obtain ⟨rfl⟩ : st2 = [.ref 129, .ref 131, .ref 128] := by
          match st2, q3 with
          | [w1, w2, w3], q3 => rw [yV_ref q3.1, yV_ref q3.2.1, yV_ref q3.2.2.1]
        refine e_then q2 ?_
        obtain ⟨fs4, hfs4, -⟩ := yTy_obj q6.1 (rfl : tTy 119 = some (.inr (12, _)))
        obtain ⟨N5, r5, M5, s1, s2, s3, s4, s5⟩ := k78 M4 [.ref 128, .ref 131, .ref 129] 19 q6.1 ⟨rfl, rfl, rfl, trivial⟩ (by decide) (fun p hp => by cases hp)
        have s4 : r5 = none := s4
        subst s4
        refine e_then (e_call hT (y := 360) (pc := 104) (q := (yX12_rowsTold, cX12_rowsTold, 4, (some .int), 12)) rfl (show aTab 360 104 = some (.invokevirtual 419, 3, 1, 356, 0, 2, 4, 12) from rfl) rfl ⟨by decide, Nat.le_of_ble_eq_true rfl⟩ hfs4 (Nat.le_of_ble_eq_true rfl) (Nat.le_of_ble_eq_true rfl) ⟨by decide, by decide⟩ s1) ?_
        refine e_then (e_st hT (y := 360) (pc := 107) (q := (yX12_rowsTold, cX12_rowsTold, 4, (some .int), 12)) rfl (show aTab 360 107 = some (.iconst 0, 1, 0, 0, 0, 0, 0, 0) from rfl) (fr' := (360, 108, lv2, [.int 0])) (M' := M5) rfl) ?_
        refine e_fin (e_iret hT (y := 360) (pc := 108) (q := (yX12_rowsTold, cX12_rowsTold, 4, (some .int), 12)) rfl (show aTab 360 108 = some (.ireturn, 1, 0, 0, 0, 0, 0, 0) from rfl) ⟨rfl, rfl⟩) ⟨rfl, s2, fun xs c k hn => ?_⟩
        have no : ∀ {b : Nat}, c ≠ b → ∀ g ∈ [((b, (0 : Int), (3999 : Int), 1, (0 : Int)) : tG)], ¬ yG g c k := fun hb g hg hy => by
          rw [List.mem_singleton] at hg
          subst hg
          exact hb hy.1.symm
        by_cases hc : c = 120
        · subst hc
          have e1 : yRd xs M5 120 k = yRd xs M4 122 k := s5 (122, 120) (List.mem_singleton_self _) xs k
          have e2 : yRd xs M4 122 k = yRd xs M3 122 k := fr4 xs 122 k (fun g hg hy => by
            simp only [tdW, List.mem_cons, List.not_mem_nil, or_false] at hg
            rcases hg with rfl | rfl | rfl <;> exact absurd hy.1 (by decide))
          have e3 : yRd xs M3 122 k = yRd xs M2 122 k := p3 xs 122 k (fun g hg hy => by
            have hg : g ∈ [((120, (0 : Int), (3999 : Int), 1, (0 : Int)) : tG)] := hg
            rw [List.mem_singleton] at hg
            subst hg
            exact absurd hy.1 (by decide))
          have e4 : yRd xs M2 122 k = yRd xs M1 120 k := n5 (120, 122) (List.mem_singleton_self _) xs k
          rw [e1, e2, e3, e4]
        · have e1 : yRd xs M5 c k = yRd xs M4 c k := s3 xs c k (no hc)
          have e2 : yRd xs M4 c k = yRd xs M3 c k := fr4 xs c k (fun g hg hy => by
            simp only [tdW, List.mem_cons, List.not_mem_nil, or_false] at hg
            rcases hg with rfl | rfl | rfl
            · exact hc hy.1.symm
            · exact hn _ (by simp) hy
            · exact hn _ (by simp) hy)
          have e3 : yRd xs M3 c k = yRd xs M2 c k := p3 xs c k (no hc)
          have e4 : yRd xs M2 c k = yRd xs M1 c k := n3 xs c k (fun g hg hy => by
            have hg : g ∈ [((122, (0 : Int), (3999 : Int), 1, (0 : Int)) : tG)] := hg
            rw [List.mem_singleton] at hg
            subst hg
            exact hn _ (by simp) hy)
          rw [e1, e2, e3, e4]
      obtain ⟨N, r, M', t1, rfl, t2, t3⟩ := main
      obtain ⟨N', t4⟩ := m2 N _ t1
      exact ⟨N', _, M', mRun_dm t4 (by omega), t2, yFr_tr (fun xs c k _ => yFr_nil fr1 c k) t3, ⟨0, rfl, by decide, by decide⟩, fun ab hab => by cases hab⟩
/-! check, by the night told that leaves all as it was -/
def tL_360 : tCt := (360, [(0, 128, 0, 0), (1, 0, (-2147483648), 2147483647)], some ((-1000000002), 0), [(122, 0, 3999, 1, 0), (137, 0, 59, 1, 0), (119, 34, 34, 1, 0)], 23, [], [(119, 34, 0, 0)])
def tX_361 : tCt := (361, [(0, 128, 0, 0), (1, 0, (-2147483648), 2147483647), (1, 0, (-2147483648), 2147483647), (1, 0, (-2147483648), 2147483647)], some ((-1000000005), 61), [(119, 32, 34, 1, 0), (122, 0, 3999, 1, 0), (137, 0, 59, 1, 0)], 24, [], [])
theorem tX361_ok (hT : aTabOk) (hK : ∀ c ∈ tKs_144, tCtOk c) : tCtOk tX_361 := tCt_of (K := (tPt_, tL_360 :: tKs_144)) hT (fun c hc => by
  rcases List.mem_cons.mp hc with rfl | h
  · exact told_ok hT hK
  · exact hK c h) (n := 20000) rfl (by decide +kernel)
/-! paper, hung: finer -/
def tX_271 : tCt := (271, [(0, 128, 0, 0), (1, 0, (-2147483648), 2147483647), (1, 0, (-2147483648), 2147483647), (1, 0, (-2147483648), 2147483647)], some ((-1000000003), 39), [(120, 5, 5, 1, 0), (120, 160, 919, 1, 0)], 4, [], [])
theorem tX271_ok (hT : aTabOk) (hK : ∀ c ∈ tKs_144, tCtOk c) : tCtOk tX_271 := tCt_of (K := (tPt_, tKs_144)) hT hK (n := 20000) rfl (by decide +kernel)
def tX_272 : tCt := (272, [(0, 128, 0, 0), (1, 0, (-2147483648), 2147483647), (1, 0, (-2147483648), 2147483647), (1, 0, (-2147483648), 2147483647), (1, 0, (-2147483648), 2147483647)], some ((-1000000003), 39), [(120, 5, 5, 1, 0), (120, 160, 919, 1, 0)], 3, [], [])
theorem tX272_ok (hT : aTabOk) (hK : ∀ c ∈ tKs_144, tCtOk c) : tCtOk tX_272 := tCt_of (K := (tPt_, tKs_144)) hT hK (n := 20000) rfl (by decide +kernel)
