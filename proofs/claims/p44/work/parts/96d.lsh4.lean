/-! INTERPRETERS -/
theorem xint_run (hT : aTabOk) {M : mHe} (hM : yTy M) {g : Nat → Nat → Int32} (hg : rdI M = g) {N : Nat} (hN : g 40 0 = Int32.ofNat N) (hN6 : N ≤ 6) : mEv none 20 (221, 0, lv_args 0 [.ref 9], []) M (fun r M' => (∃ x, r = some (.int x)) ∧ yTy M' ∧ rdI M' = if N < 6 then up2 (up2 g 41 N 0) 40 0 (Int32.ofNat (N + 1)) else g) := by
  have eN := i32n (k := N) (by omega)
  have e6 : (6 : Int32).toInt = 6 := rfl
  have go : mEv none 10 (137, 0, lv_args 0 [.ref 49], []) M (fun r M' => (∃ x, r = some (.int x)) ∧ yTy M' ∧ rdI M' = if N < 6 then up2 (up2 g 41 N 0) 40 0 (Int32.ofNat (N + 1)) else g) := by
    by_cases c1 : N < 6
    · rw [if_pos c1]
      refine e_then (e_al1 hT (y := 137) (pc := 0) (q := (yX7_add, cX7_add, 1, (some .int), 7)) rfl (show aTab 137 0 = some (.aload_n 0, 1, 0, 0, 0, 0, 0, 0) from rfl) rfl rfl) ?_
      refine e_then (s_getV hT (y := 137) (pc := 1) (q := (yX7_add, cX7_add, 1, (some .int), 7)) rfl (show aTab 137 1 = some (.getfield 21, 3, 0, 7, 0, 0, 0, 0) from rfl) rfl (by decide) hM hg 40 rfl rfl (v := (g 40 0)) rfl) ?_
      refine e_then (e_st hT (y := 137) (pc := 4) (q := (yX7_add, cX7_add, 1, (some .int), 7)) rfl (show aTab 137 4 = some (.bipush 6, 2, 0, 0, 0, 0, 0, 0) from rfl) (fr' := (137, 6, (lv_args 0 [.ref 49]), [.int 6, .int (g 40 0)])) (M' := M) rfl) ?_
      refine e_then (e_icT hT (y := 137) (pc := 6) (q := (yX7_add, cX7_add, 1, (some .int), 7)) rfl (show aTab 137 6 = some (.if_icmp .lt 6, 3, 0, 0, 0, 0, 0, 0) from rfl) rfl (t := 12) rfl (cdT (by rw [hN]; show _ < _; omega))) ?_
      refine e_then (e_al1 hT (y := 137) (pc := 12) (q := (yX7_add, cX7_add, 1, (some .int), 7)) rfl (show aTab 137 12 = some (.aload_n 0, 1, 0, 0, 0, 0, 0, 0) from rfl) rfl rfl) ?_
      refine e_then (e_getR hT (y := 137) (pc := 13) (q := (yX7_add, cX7_add, 1, (some .int), 7)) rfl (show aTab 137 13 = some (.getfield 9, 3, 0, 7, 1, 0, 0, 0) from rfl) rfl (by decide) (by decide) hM rfl rfl) ?_
      refine e_then (e_al1 hT (y := 137) (pc := 16) (q := (yX7_add, cX7_add, 1, (some .int), 7)) rfl (show aTab 137 16 = some (.aload_n 0, 1, 0, 0, 0, 0, 0, 0) from rfl) rfl rfl) ?_
      refine e_then (s_getV hT (y := 137) (pc := 17) (q := (yX7_add, cX7_add, 1, (some .int), 7)) rfl (show aTab 137 17 = some (.getfield 21, 3, 0, 7, 0, 0, 0, 0) from rfl) rfl (by decide) hM hg 40 rfl rfl (v := (g 40 0)) rfl) ?_
      refine e_then (e_st hT (y := 137) (pc := 20) (q := (yX7_add, cX7_add, 1, (some .int), 7)) rfl (show aTab 137 20 = some (.iconst 0, 1, 0, 0, 0, 0, 0, 0) from rfl) (fr' := (137, 21, (lv_args 0 [.ref 49]), [.int 0, .int (g 40 0), .ref 50])) (M' := M) rfl) ?_
      obtain ⟨m1, sm1, tm1, em1⟩ := s_ast (sc := none) (d := _) (lv := (lv_args 0 [.ref 49])) (st := []) (z := 0) (i := (g 40 0)) hT (y := 137) (pc := 21) (q := (yX7_add, cX7_add, 1, (some .int), 7)) rfl (show aTab 137 21 = some (.iastore, 1, 0, 0, 0, 0, 0, 0) from rfl) rfl hM hg 41 N rfl (by rw [hN]; exact eN) (by omega)
      refine e_then sm1 ?_
      refine e_then (e_al1 hT (y := 137) (pc := 22) (q := (yX7_add, cX7_add, 1, (some .int), 7)) rfl (show aTab 137 22 = some (.aload_n 0, 1, 0, 0, 0, 0, 0, 0) from rfl) rfl rfl) ?_
      refine e_then (e_st hT (y := 137) (pc := 23) (q := (yX7_add, cX7_add, 1, (some .int), 7)) rfl (show aTab 137 23 = some (.dup, 1, 0, 0, 0, 0, 0, 0) from rfl) (fr' := (137, 24, (lv_args 0 [.ref 49]), [.ref 49, .ref 49])) (M' := m1) rfl) ?_
      refine e_then (s_getV hT (y := 137) (pc := 24) (q := (yX7_add, cX7_add, 1, (some .int), 7)) rfl (show aTab 137 24 = some (.getfield 21, 3, 0, 7, 0, 0, 0, 0) from rfl) rfl (by decide) tm1 em1 40 rfl rfl (v := (g 40 0)) rfl) ?_
      refine e_then (e_st hT (y := 137) (pc := 27) (q := (yX7_add, cX7_add, 1, (some .int), 7)) rfl (show aTab 137 27 = some (.iconst 1, 1, 0, 0, 0, 0, 0, 0) from rfl) (fr' := (137, 28, (lv_args 0 [.ref 49]), [.int 1, .int (g 40 0), .ref 49])) (M' := m1) rfl) ?_
      refine e_then (e_st hT (y := 137) (pc := 28) (q := (yX7_add, cX7_add, 1, (some .int), 7)) rfl (show aTab 137 28 = some (.iadd, 1, 0, 0, 0, 0, 0, 0) from rfl) (fr' := (137, 29, (lv_args 0 [.ref 49]), [.int ((g 40 0) + 1), .ref 49])) (M' := m1) rfl) ?_
      rw [hN, show Int32.ofNat N + 1 = Int32.ofNat (N + 1) from os1 (by omega)]
      obtain ⟨m2, sm2, tm2, em2⟩ := s_putI (sc := none) (d := _) (lv := (lv_args 0 [.ref 49])) (st := []) (z := (Int32.ofNat (N + 1))) hT (y := 137) (pc := 29) (q := (yX7_add, cX7_add, 1, (some .int), 7)) rfl (show aTab 137 29 = some (.putfield 21, 3, 0, 7, 0, 0, 0, 0) from rfl) rfl rfl ⟨by decide, rfl, rfl⟩ tm1 em1 40 rfl rfl ⟨by rw [i32n (by omega)]; omega, by rw [i32n (by omega)]; omega⟩ (kn := 0) rfl
      refine e_then sm2 ?_
      refine e_then (e_al1 hT (y := 137) (pc := 32) (q := (yX7_add, cX7_add, 1, (some .int), 7)) rfl (show aTab 137 32 = some (.aload_n 0, 1, 0, 0, 0, 0, 0, 0) from rfl) rfl rfl) ?_
      refine e_then (s_getV hT (y := 137) (pc := 33) (q := (yX7_add, cX7_add, 1, (some .int), 7)) rfl (show aTab 137 33 = some (.getfield 21, 3, 0, 7, 0, 0, 0, 0) from rfl) rfl (by decide) tm2 em2 40 rfl rfl (v := (Int32.ofNat (N + 1))) rfl) ?_
      refine e_then (e_st hT (y := 137) (pc := 36) (q := (yX7_add, cX7_add, 1, (some .int), 7)) rfl (show aTab 137 36 = some (.iconst 1, 1, 0, 0, 0, 0, 0, 0) from rfl) (fr' := (137, 37, (lv_args 0 [.ref 49]), [.int 1, .int (Int32.ofNat (N + 1))])) (M' := m2) rfl) ?_
      refine e_then (e_st hT (y := 137) (pc := 37) (q := (yX7_add, cX7_add, 1, (some .int), 7)) rfl (show aTab 137 37 = some (.isub, 1, 0, 0, 0, 0, 0, 0) from rfl) (fr' := (137, 38, (lv_args 0 [.ref 49]), [.int ((Int32.ofNat (N + 1)) - 1)])) (M' := m2) rfl) ?_
      exact e_fin (e_iret hT (y := 137) (pc := 38) (q := (yX7_add, cX7_add, 1, (some .int), 7)) rfl (show aTab 137 38 = some (.ireturn, 1, 0, 0, 0, 0, 0, 0) from rfl) ⟨rfl, rfl⟩) ⟨⟨_, rfl⟩, tm2, em2⟩
    · rw [if_neg c1]
      refine e_then (e_al1 hT (y := 137) (pc := 0) (q := (yX7_add, cX7_add, 1, (some .int), 7)) rfl (show aTab 137 0 = some (.aload_n 0, 1, 0, 0, 0, 0, 0, 0) from rfl) rfl rfl) ?_
      refine e_then (s_getV hT (y := 137) (pc := 1) (q := (yX7_add, cX7_add, 1, (some .int), 7)) rfl (show aTab 137 1 = some (.getfield 21, 3, 0, 7, 0, 0, 0, 0) from rfl) rfl (by decide) hM hg 40 rfl rfl (v := (g 40 0)) rfl) ?_
      refine e_then (e_st hT (y := 137) (pc := 4) (q := (yX7_add, cX7_add, 1, (some .int), 7)) rfl (show aTab 137 4 = some (.bipush 6, 2, 0, 0, 0, 0, 0, 0) from rfl) (fr' := (137, 6, (lv_args 0 [.ref 49]), [.int 6, .int (g 40 0)])) (M' := M) rfl) ?_
      refine e_then (e_icF hT (y := 137) (pc := 6) (q := (yX7_add, cX7_add, 1, (some .int), 7)) rfl (show aTab 137 6 = some (.if_icmp .lt 6, 3, 0, 0, 0, 0, 0, 0) from rfl) rfl (t := 12) rfl (cdF (by rw [hN]; show ¬ _ < _; omega))) ?_
      refine e_then (e_st hT (y := 137) (pc := 9) (q := (yX7_add, cX7_add, 1, (some .int), 7)) rfl (show aTab 137 9 = some (.ldc 29, 2, 7, 0, (-1000000003), 0, 0, 0) from rfl) (fr' := (137, 11, (lv_args 0 [.ref 49]), [.int (-1000000003)])) (M' := M) rfl) ?_
      exact e_fin (e_iret hT (y := 137) (pc := 11) (q := (yX7_add, cX7_add, 1, (some .int), 7)) rfl (show aTab 137 11 = some (.ireturn, 1, 0, 0, 0, 0, 0, 0) from rfl) ⟨rfl, rfl⟩) ⟨⟨_, rfl⟩, hM, hg⟩
  obtain ⟨K1, r1, M1, q1, ⟨x, rfl⟩, t1, f1⟩ := go
  have q1 := mRun_dm q1 (show 10 ≤ 19 by decide)
  refine e_then (e_al1 hT (y := 221) (pc := 0) (q := (yX11_interpreter, cX11_interpreter, 1, (some .int), 11)) rfl (show aTab 221 0 = some (.aload_n 0, 1, 0, 0, 0, 0, 0, 0) from rfl) rfl rfl) ?_
  refine e_then (e_getR hT (y := 221) (pc := 1) (q := (yX11_interpreter, cX11_interpreter, 1, (some .int), 11)) rfl (show aTab 221 1 = some (.getfield 12, 3, 0, 11, 0, 0, 0, 0) from rfl) rfl (by decide) (by decide) hM rfl rfl) ?_
  refine e_then (e_getR hT (y := 221) (pc := 4) (q := (yX11_interpreter, cX11_interpreter, 1, (some .int), 11)) rfl (show aTab 221 4 = some (.getfield 220, 3, 0, 1, 8, 0, 0, 0) from rfl) rfl (by decide) (by decide) hM rfl rfl) ?_
  refine e_then (e_call hT (y := 221) (pc := 7) (q := (yX11_interpreter, cX11_interpreter, 1, (some .int), 11)) rfl (show aTab 221 7 = some (.invokevirtual 224, 3, 1, 137, 0, 0, 1, 7) from rfl) rfl ⟨by decide, Nat.le_of_ble_eq_true rfl⟩ (ob_at hM (rfl : tTy 40 = some (.inr (7, _)))).choose_spec (Nat.le_of_ble_eq_true rfl) (Nat.le_of_ble_eq_true rfl) ⟨by decide, by decide⟩ q1) ?_
  exact e_fin (e_iret hT (y := 221) (pc := 10) (q := (yX11_interpreter, cX11_interpreter, 1, (some .int), 11)) rfl (show aTab 221 10 = some (.ireturn, 1, 0, 0, 0, 0, 0, 0) from rfl) ⟨rfl, rfl⟩) ⟨⟨_, rfl⟩, t1, f1⟩
theorem rix7 {N k : Nat} (hN : N < 6) (hk : k < 49) : ((3440 : Int32) + 49 * Int32.ofNat N + Int32.ofNat k).toInt = ((3440 + 49 * N + k : Nat) : Int) := by
  have e1 : (3440 : Int32).toInt = 3440 := rfl
  have e2 : (49 : Int32).toInt = 49 := rfl
  have eN := i32n (k := N) (by omega)
  have ek := i32n (k := k) (by omega)
  have m1 : (49 * Int32.ofNat N).toInt = 49 * (N : Int) := by rw [i32_mul (by rw [e2, eN]; omega) (by rw [e2, eN]; omega), e2, eN]
  have m3 : ((3440 : Int32) + 49 * Int32.ofNat N).toInt = 3440 + 49 * (N : Int) := by rw [i32_add (by omega) (by omega), e1, m1]
  rw [i32_add (by omega) (by omega), m3, ek]; omega
/-- a stretch of a row made 0 -/
def zr2 (g : Nat → Nat → Int32) (c a n : Nat) : Nat → Nat → Int32 := fun c' k => if c' = c ∧ a ≤ k ∧ k < a + n then 0 else g c' k
theorem zr2_0 (g : Nat → Nat → Int32) (c a : Nat) : zr2 g c a 0 = g := by
  funext c' k
  exact if_neg (fun z => by omega)
theorem zr2_s (g : Nat → Nat → Int32) (c a n : Nat) : up2 (zr2 g c a n) c (a + n) 0 = zr2 g c a (n + 1) := by
  funext c' k
  unfold up2 zr2
  by_cases h : c' = c ∧ k = a + n
  · rw [if_pos h, if_pos ⟨h.1, by omega, by omega⟩]
  · rw [if_neg h]
    by_cases h2 : c' = c ∧ a ≤ k ∧ k < a + n
    · rw [if_pos h2, if_pos ⟨h2.1, by omega, by omega⟩]
    · rw [if_neg h2, if_neg (fun z => by
        by_cases e : k = a + n
        · exact h ⟨z.1, e⟩
        · exact h2 ⟨z.1, z.2.1, by omega⟩)]
theorem rint_loop (hT : aTabOk) {g : Nat → Nat → Int32} {N : Nat} (hN : g 120 9 = Int32.ofNat N) (hN6 : N < 6) : ∀ (j k : Nat) (lv : List (Nat × Value)) (M1 : mHe), k + j = 49 → yTy M1 → rdI M1 = zr2 g 120 (3440 + 49 * N) k → mlg 0 lv = some (.ref 128) → mlg 1 lv = some (.int (Int32.ofNat k)) → mEv none 10 (341, 17, lv, []) M1 (fun r M' => (∃ x, r = some (.int x)) ∧ yTy M' ∧ rdI M' = up2 (zr2 g 120 (3440 + 49 * N) 49) 120 9 (Int32.ofNat (N + 1))) := by
  have eN := i32n (k := N) (by omega)
  have e49 : (49 : Int32).toInt = 49 := rfl
  have h9 : ∀ k, zr2 g 120 (3440 + 49 * N) k 120 9 = Int32.ofNat N := fun k => by
    unfold zr2
    rw [if_neg (fun z => by omega)]
    exact hN
  intro j
  induction j with
  | zero =>
    intro k lv M1 hj hM hg h0 h1
    have hj : k = 49 := by omega
    subst hj
    refine e_then (e_il1 hT (y := 341) (pc := 17) (q := (yX12_interpreter, cX12_interpreter, 2, (some .int), 12)) rfl (show aTab 341 17 = some (.iload_n 1, 1, 0, 0, 0, 0, 0, 0) from rfl) rfl h1) ?_
    refine e_then (e_st hT (y := 341) (pc := 18) (q := (yX12_interpreter, cX12_interpreter, 2, (some .int), 12)) rfl (show aTab 341 18 = some (.bipush 49, 2, 0, 0, 0, 0, 0, 0) from rfl) (fr' := (341, 20, lv, [.int 49, .int (Int32.ofNat 49)])) (M' := M1) rfl) ?_
    refine e_then (e_icT hT (y := 341) (pc := 20) (q := (yX12_interpreter, cX12_interpreter, 2, (some .int), 12)) rfl (show aTab 341 20 = some (.if_icmp .ge 31, 3, 0, 0, 0, 0, 0, 0) from rfl) rfl (t := 51) rfl (cdT (by show (49 : Int32).toInt ≤ (Int32.ofNat 49).toInt; decide))) ?_
    refine e_then (e_al1 hT (y := 341) (pc := 51) (q := (yX12_interpreter, cX12_interpreter, 2, (some .int), 12)) rfl (show aTab 341 51 = some (.aload_n 0, 1, 0, 0, 0, 0, 0, 0) from rfl) rfl h0) ?_
    refine e_then (e_getR hT (y := 341) (pc := 52) (q := (yX12_interpreter, cX12_interpreter, 2, (some .int), 12)) rfl (show aTab 341 52 = some (.getfield 7, 3, 0, 12, 0, 0, 0, 0) from rfl) rfl (by decide) (by decide) hM rfl rfl) ?_
    refine e_then (e_st hT (y := 341) (pc := 55) (q := (yX12_interpreter, cX12_interpreter, 2, (some .int), 12)) rfl (show aTab 341 55 = some (.bipush 9, 2, 0, 0, 0, 0, 0, 0) from rfl) (fr' := (341, 57, lv, [.int 9, .ref 129])) (M' := M1) rfl) ?_
    refine e_then (e_st hT (y := 341) (pc := 57) (q := (yX12_interpreter, cX12_interpreter, 2, (some .int), 12)) rfl (show aTab 341 57 = some (.dup2, 1, 0, 0, 0, 0, 0, 0) from rfl) (fr' := (341, 58, lv, [.int 9, .ref 129, .int 9, .ref 129])) (M' := M1) rfl) ?_
    refine e_then (s_ald hT (y := 341) (pc := 58) (q := (yX12_interpreter, cX12_interpreter, 2, (some .int), 12)) rfl (show aTab 341 58 = some (.iaload, 1, 0, 0, 0, 0, 0, 0) from rfl) rfl hM hg 120 9 rfl rfl (by decide)) ?_
    refine e_then (e_st hT (y := 341) (pc := 59) (q := (yX12_interpreter, cX12_interpreter, 2, (some .int), 12)) rfl (show aTab 341 59 = some (.iconst 1, 1, 0, 0, 0, 0, 0, 0) from rfl) (fr' := (341, 60, lv, [.int 1, .int ((zr2 g 120 (3440 + 49 * N) 49) 120 9), .int 9, .ref 129])) (M' := M1) rfl) ?_
    refine e_then (e_st hT (y := 341) (pc := 60) (q := (yX12_interpreter, cX12_interpreter, 2, (some .int), 12)) rfl (show aTab 341 60 = some (.iadd, 1, 0, 0, 0, 0, 0, 0) from rfl) (fr' := (341, 61, lv, [.int (((zr2 g 120 (3440 + 49 * N) 49) 120 9) + 1), .int 9, .ref 129])) (M' := M1) rfl) ?_
    rw [h9 49, show Int32.ofNat N + 1 = Int32.ofNat (N + 1) from os1 (by omega)]
    obtain ⟨m1, sm1, tm1, em1⟩ := s_asb (sc := none) (d := _) (lv := lv) (st := []) (z := (Int32.ofNat (N + 1))) (i := 9) (l := 9) (h := 9) (vl := 0) (vh := 6) hT (y := 341) (pc := 61) (q := (yX12_interpreter, cX12_interpreter, 2, (some .int), 12)) rfl (show aTab 341 61 = some (.iastore, 1, 0, 0, 0, 0, 0, 0) from rfl) rfl hM hg 120 9 rfl (by decide +kernel) rfl ⟨by decide, by decide⟩ ⟨by rw [i32n (by omega)]; omega, by rw [i32n (by omega)]; omega⟩
    refine e_then sm1 ?_
    refine e_then (e_al1 hT (y := 341) (pc := 62) (q := (yX12_interpreter, cX12_interpreter, 2, (some .int), 12)) rfl (show aTab 341 62 = some (.aload_n 0, 1, 0, 0, 0, 0, 0, 0) from rfl) rfl h0) ?_
    refine e_then (e_getR hT (y := 341) (pc := 63) (q := (yX12_interpreter, cX12_interpreter, 2, (some .int), 12)) rfl (show aTab 341 63 = some (.getfield 7, 3, 0, 12, 0, 0, 0, 0) from rfl) rfl (by decide) (by decide) tm1 rfl rfl) ?_
    refine e_then (e_st hT (y := 341) (pc := 66) (q := (yX12_interpreter, cX12_interpreter, 2, (some .int), 12)) rfl (show aTab 341 66 = some (.bipush 9, 2, 0, 0, 0, 0, 0, 0) from rfl) (fr' := (341, 68, lv, [.int 9, .ref 129])) (M' := m1) rfl) ?_
    refine e_then (s_aldV hT (y := 341) (pc := 68) (q := (yX12_interpreter, cX12_interpreter, 2, (some .int), 12)) rfl (show aTab 341 68 = some (.iaload, 1, 0, 0, 0, 0, 0, 0) from rfl) rfl tm1 em1 120 9 rfl rfl (by decide) (v := (Int32.ofNat (N + 1))) rfl) ?_
    refine e_then (e_st hT (y := 341) (pc := 69) (q := (yX12_interpreter, cX12_interpreter, 2, (some .int), 12)) rfl (show aTab 341 69 = some (.iconst 1, 1, 0, 0, 0, 0, 0, 0) from rfl) (fr' := (341, 70, lv, [.int 1, .int (Int32.ofNat (N + 1))])) (M' := m1) rfl) ?_
    refine e_then (e_st hT (y := 341) (pc := 70) (q := (yX12_interpreter, cX12_interpreter, 2, (some .int), 12)) rfl (show aTab 341 70 = some (.isub, 1, 0, 0, 0, 0, 0, 0) from rfl) (fr' := (341, 71, lv, [.int ((Int32.ofNat (N + 1)) - 1)])) (M' := m1) rfl) ?_
    exact e_fin (e_iret hT (y := 341) (pc := 71) (q := (yX12_interpreter, cX12_interpreter, 2, (some .int), 12)) rfl (show aTab 341 71 = some (.ireturn, 1, 0, 0, 0, 0, 0, 0) from rfl) ⟨rfl, rfl⟩) ⟨⟨_, rfl⟩, tm1, em1⟩
  | succ j ih =>
    intro k lv M1 hj hM hg h0 h1
    have ek := i32n (k := k) (by omega)
    refine e_then (e_il1 hT (y := 341) (pc := 17) (q := (yX12_interpreter, cX12_interpreter, 2, (some .int), 12)) rfl (show aTab 341 17 = some (.iload_n 1, 1, 0, 0, 0, 0, 0, 0) from rfl) rfl h1) ?_
    refine e_then (e_st hT (y := 341) (pc := 18) (q := (yX12_interpreter, cX12_interpreter, 2, (some .int), 12)) rfl (show aTab 341 18 = some (.bipush 49, 2, 0, 0, 0, 0, 0, 0) from rfl) (fr' := (341, 20, lv, [.int 49, .int (Int32.ofNat k)])) (M' := M1) rfl) ?_
    refine e_then (e_icF hT (y := 341) (pc := 20) (q := (yX12_interpreter, cX12_interpreter, 2, (some .int), 12)) rfl (show aTab 341 20 = some (.if_icmp .ge 31, 3, 0, 0, 0, 0, 0, 0) from rfl) rfl (t := 51) rfl (cdF (by show ¬ _ ≤ _; omega))) ?_
    refine e_then (e_al1 hT (y := 341) (pc := 23) (q := (yX12_interpreter, cX12_interpreter, 2, (some .int), 12)) rfl (show aTab 341 23 = some (.aload_n 0, 1, 0, 0, 0, 0, 0, 0) from rfl) rfl h0) ?_
    refine e_then (e_getR hT (y := 341) (pc := 24) (q := (yX12_interpreter, cX12_interpreter, 2, (some .int), 12)) rfl (show aTab 341 24 = some (.getfield 7, 3, 0, 12, 0, 0, 0, 0) from rfl) rfl (by decide) (by decide) hM rfl rfl) ?_
    refine e_then (e_st hT (y := 341) (pc := 27) (q := (yX12_interpreter, cX12_interpreter, 2, (some .int), 12)) rfl (show aTab 341 27 = some (.sipush 3440, 3, 0, 0, 0, 0, 0, 0) from rfl) (fr' := (341, 30, lv, [.int 3440, .ref 129])) (M' := M1) rfl) ?_
    refine e_then (e_st hT (y := 341) (pc := 30) (q := (yX12_interpreter, cX12_interpreter, 2, (some .int), 12)) rfl (show aTab 341 30 = some (.bipush 49, 2, 0, 0, 0, 0, 0, 0) from rfl) (fr' := (341, 32, lv, [.int 49, .int 3440, .ref 129])) (M' := M1) rfl) ?_
    refine e_then (e_al1 hT (y := 341) (pc := 32) (q := (yX12_interpreter, cX12_interpreter, 2, (some .int), 12)) rfl (show aTab 341 32 = some (.aload_n 0, 1, 0, 0, 0, 0, 0, 0) from rfl) rfl h0) ?_
    refine e_then (e_getR hT (y := 341) (pc := 33) (q := (yX12_interpreter, cX12_interpreter, 2, (some .int), 12)) rfl (show aTab 341 33 = some (.getfield 7, 3, 0, 12, 0, 0, 0, 0) from rfl) rfl (by decide) (by decide) hM rfl rfl) ?_
    refine e_then (e_st hT (y := 341) (pc := 36) (q := (yX12_interpreter, cX12_interpreter, 2, (some .int), 12)) rfl (show aTab 341 36 = some (.bipush 9, 2, 0, 0, 0, 0, 0, 0) from rfl) (fr' := (341, 38, lv, [.int 9, .ref 129, .int 49, .int 3440, .ref 129])) (M' := M1) rfl) ?_
    refine e_then (s_ald hT (y := 341) (pc := 38) (q := (yX12_interpreter, cX12_interpreter, 2, (some .int), 12)) rfl (show aTab 341 38 = some (.iaload, 1, 0, 0, 0, 0, 0, 0) from rfl) rfl hM hg 120 9 rfl rfl (by decide)) ?_
    rw [h9 k]
    refine e_then (e_st hT (y := 341) (pc := 39) (q := (yX12_interpreter, cX12_interpreter, 2, (some .int), 12)) rfl (show aTab 341 39 = some (.imul, 1, 0, 0, 0, 0, 0, 0) from rfl) (fr' := (341, 40, lv, [.int (49 * (Int32.ofNat N)), .int 3440, .ref 129])) (M' := M1) rfl) ?_
    refine e_then (e_st hT (y := 341) (pc := 40) (q := (yX12_interpreter, cX12_interpreter, 2, (some .int), 12)) rfl (show aTab 341 40 = some (.iadd, 1, 0, 0, 0, 0, 0, 0) from rfl) (fr' := (341, 41, lv, [.int (3440 + (49 * (Int32.ofNat N))), .ref 129])) (M' := M1) rfl) ?_
    refine e_then (e_il1 hT (y := 341) (pc := 41) (q := (yX12_interpreter, cX12_interpreter, 2, (some .int), 12)) rfl (show aTab 341 41 = some (.iload_n 1, 1, 0, 0, 0, 0, 0, 0) from rfl) rfl h1) ?_
    refine e_then (e_st hT (y := 341) (pc := 42) (q := (yX12_interpreter, cX12_interpreter, 2, (some .int), 12)) rfl (show aTab 341 42 = some (.iadd, 1, 0, 0, 0, 0, 0, 0) from rfl) (fr' := (341, 43, lv, [.int ((3440 + (49 * (Int32.ofNat N))) + (Int32.ofNat k)), .ref 129])) (M' := M1) rfl) ?_
    refine e_then (e_st hT (y := 341) (pc := 43) (q := (yX12_interpreter, cX12_interpreter, 2, (some .int), 12)) rfl (show aTab 341 43 = some (.iconst 0, 1, 0, 0, 0, 0, 0, 0) from rfl) (fr' := (341, 44, lv, [.int 0, .int ((3440 + (49 * (Int32.ofNat N))) + (Int32.ofNat k)), .ref 129])) (M' := M1) rfl) ?_
    obtain ⟨m1, sm1, tm1, em1⟩ := s_asb (sc := none) (d := _) (lv := lv) (st := []) (z := 0) (i := ((3440 + (49 * (Int32.ofNat N))) + (Int32.ofNat k))) (l := 3440) (h := 3733) (vl := 0) (vh := 0) hT (y := 341) (pc := 44) (q := (yX12_interpreter, cX12_interpreter, 2, (some .int), 12)) rfl (show aTab 341 44 = some (.iastore, 1, 0, 0, 0, 0, 0, 0) from rfl) rfl hM hg 120 (3440 + 49 * N + k) rfl (by decide +kernel) (rix7 hN6 (by omega)) ⟨by omega, by omega⟩ ⟨by decide, by decide⟩
    refine e_then sm1 ?_
    refine e_then (e_ii hT (y := 341) (pc := 45) (q := (yX12_interpreter, cX12_interpreter, 2, (some .int), 12)) rfl (show aTab 341 45 = some (.iinc 1 1, 3, 0, 0, 0, 0, 0, 0) from rfl) ⟨rfl, by decide⟩ h1) ?_
    refine e_then (e_st hT (y := 341) (pc := 48) (q := (yX12_interpreter, cX12_interpreter, 2, (some .int), 12)) rfl (show aTab 341 48 = some (.goto (-31), 3, 0, 0, 0, 0, 0, 0) from rfl) (fr' := (341, 17, (mlp 1 (.int ((Int32.ofNat k) + Int32.ofInt 1)) lv), [])) (M' := m1) rfl) ?_
    rw [os1 (by omega)]
    exact ih (k + 1) _ _ (by omega) tm1 (by rw [em1, zr2_s]) (mlg_r h0 (by decide)) (mlg_eq 1 _ _)
theorem rint_run (hT : aTabOk) {M : mHe} (hM : yTy M) {g : Nat → Nat → Int32} (hg : rdI M = g) {N : Nat} (hN : g 120 9 = Int32.ofNat N) (hN6 : N ≤ 6) : mEv none 10 (341, 0, lv_args 0 [.ref 128], []) M (fun r M' => (∃ x, r = some (.int x)) ∧ yTy M' ∧ rdI M' = if N < 6 then up2 (zr2 g 120 (3440 + 49 * N) 49) 120 9 (Int32.ofNat (N + 1)) else g) := by
  have eN := i32n (k := N) (by omega)
  have e6 : (6 : Int32).toInt = 6 := rfl
  by_cases c1 : N < 6
  · rw [if_pos c1]
    refine e_then (e_al1 hT (y := 341) (pc := 0) (q := (yX12_interpreter, cX12_interpreter, 2, (some .int), 12)) rfl (show aTab 341 0 = some (.aload_n 0, 1, 0, 0, 0, 0, 0, 0) from rfl) rfl rfl) ?_
    refine e_then (e_getR hT (y := 341) (pc := 1) (q := (yX12_interpreter, cX12_interpreter, 2, (some .int), 12)) rfl (show aTab 341 1 = some (.getfield 7, 3, 0, 12, 0, 0, 0, 0) from rfl) rfl (by decide) (by decide) hM rfl rfl) ?_
    refine e_then (e_st hT (y := 341) (pc := 4) (q := (yX12_interpreter, cX12_interpreter, 2, (some .int), 12)) rfl (show aTab 341 4 = some (.bipush 9, 2, 0, 0, 0, 0, 0, 0) from rfl) (fr' := (341, 6, (lv_args 0 [.ref 128]), [.int 9, .ref 129])) (M' := M) rfl) ?_
    refine e_then (s_ald hT (y := 341) (pc := 6) (q := (yX12_interpreter, cX12_interpreter, 2, (some .int), 12)) rfl (show aTab 341 6 = some (.iaload, 1, 0, 0, 0, 0, 0, 0) from rfl) rfl hM hg 120 9 rfl rfl (by decide)) ?_
    refine e_then (e_st hT (y := 341) (pc := 7) (q := (yX12_interpreter, cX12_interpreter, 2, (some .int), 12)) rfl (show aTab 341 7 = some (.bipush 6, 2, 0, 0, 0, 0, 0, 0) from rfl) (fr' := (341, 9, (lv_args 0 [.ref 128]), [.int 6, .int (g 120 9)])) (M' := M) rfl) ?_
    refine e_then (e_icT hT (y := 341) (pc := 9) (q := (yX12_interpreter, cX12_interpreter, 2, (some .int), 12)) rfl (show aTab 341 9 = some (.if_icmp .ne 6, 3, 0, 0, 0, 0, 0, 0) from rfl) rfl (t := 15) rfl (cdT (by rw [hN]; show ¬ _ = _; omega))) ?_
    refine e_then (e_st hT (y := 341) (pc := 15) (q := (yX12_interpreter, cX12_interpreter, 2, (some .int), 12)) rfl (show aTab 341 15 = some (.iconst 0, 1, 0, 0, 0, 0, 0, 0) from rfl) (fr' := (341, 16, (lv_args 0 [.ref 128]), [.int 0])) (M' := M) rfl) ?_
    refine e_then (e_is1 hT (y := 341) (pc := 16) (q := (yX12_interpreter, cX12_interpreter, 2, (some .int), 12)) rfl (show aTab 341 16 = some (.istore_n 1, 1, 0, 0, 0, 0, 0, 0) from rfl) ⟨rfl, by decide⟩) ?_
    exact rint_loop hT hN c1 49 0 _ M (by omega) hM (by rw [hg, zr2_0]) (mlg_r rfl (by decide)) (mlg_eq 1 _ _)
  · rw [if_neg c1]
    refine e_then (e_al1 hT (y := 341) (pc := 0) (q := (yX12_interpreter, cX12_interpreter, 2, (some .int), 12)) rfl (show aTab 341 0 = some (.aload_n 0, 1, 0, 0, 0, 0, 0, 0) from rfl) rfl rfl) ?_
    refine e_then (e_getR hT (y := 341) (pc := 1) (q := (yX12_interpreter, cX12_interpreter, 2, (some .int), 12)) rfl (show aTab 341 1 = some (.getfield 7, 3, 0, 12, 0, 0, 0, 0) from rfl) rfl (by decide) (by decide) hM rfl rfl) ?_
    refine e_then (e_st hT (y := 341) (pc := 4) (q := (yX12_interpreter, cX12_interpreter, 2, (some .int), 12)) rfl (show aTab 341 4 = some (.bipush 9, 2, 0, 0, 0, 0, 0, 0) from rfl) (fr' := (341, 6, (lv_args 0 [.ref 128]), [.int 9, .ref 129])) (M' := M) rfl) ?_
    refine e_then (s_ald hT (y := 341) (pc := 6) (q := (yX12_interpreter, cX12_interpreter, 2, (some .int), 12)) rfl (show aTab 341 6 = some (.iaload, 1, 0, 0, 0, 0, 0, 0) from rfl) rfl hM hg 120 9 rfl rfl (by decide)) ?_
    refine e_then (e_st hT (y := 341) (pc := 7) (q := (yX12_interpreter, cX12_interpreter, 2, (some .int), 12)) rfl (show aTab 341 7 = some (.bipush 6, 2, 0, 0, 0, 0, 0, 0) from rfl) (fr' := (341, 9, (lv_args 0 [.ref 128]), [.int 6, .int (g 120 9)])) (M' := M) rfl) ?_
    refine e_then (e_icF hT (y := 341) (pc := 9) (q := (yX12_interpreter, cX12_interpreter, 2, (some .int), 12)) rfl (show aTab 341 9 = some (.if_icmp .ne 6, 3, 0, 0, 0, 0, 0, 0) from rfl) rfl (t := 15) rfl (cdF (by rw [hN]; show ¬ ¬ _ = _; omega))) ?_
    refine e_then (e_st hT (y := 341) (pc := 12) (q := (yX12_interpreter, cX12_interpreter, 2, (some .int), 12)) rfl (show aTab 341 12 = some (.ldc 90, 2, 7, 0, (-1000000003), 0, 0, 0) from rfl) (fr' := (341, 14, (lv_args 0 [.ref 128]), [.int (-1000000003)])) (M' := M) rfl) ?_
    exact e_fin (e_iret hT (y := 341) (pc := 14) (q := (yX12_interpreter, cX12_interpreter, 2, (some .int), 12)) rfl (show aTab 341 14 = some (.ireturn, 1, 0, 0, 0, 0, 0, 0) from rfl) ⟨rfl, rfl⟩) ⟨⟨_, rfl⟩, hM, hg⟩
/-! TONGUES, BITS -/
def tgOk (a : Int32) : Prop := 0 ≤ a.toInt ∧ a.toInt ≤ 6
def hBt (a b : Nat) : Nat := max a b * (max a b - 1) / 2 + min a b
def hBit (a b : Nat) : Int32 := 1 <<< (Int32.ofNat (hBt a b) &&& 31)
theorem xtg_run (hT : aTabOk) {M : mHe} (hM : yTy M) {a : Int32} {d : Nat} (hd : 10 ≤ d) [Decidable (tgOk a)] : ∃ K, mRun none K d (138, 0, lv_args 0 [.ref 49, .int a], []) M = some (some (.int (gB (decide (tgOk a)))), M) := by
  obtain ⟨K1, q1⟩ := within_i hT (M := M) (v := a) (l := 0) (h := 6) (d := 9) (by decide)
  rw [show (0 : Int32).toInt = 0 from rfl, show (6 : Int32).toInt = 6 from rfl] at q1
  have e : decide (tgOk a) = decide (0 ≤ a.toInt ∧ a.toInt ≤ 6) := decide_eq_decide.mpr Iff.rfl
  rw [e]
  have go : mEv none 10 (138, 0, lv_args 0 [.ref 49, .int a], []) M (fun r M' => r = some (.int (gB (decide (0 ≤ a.toInt ∧ a.toInt ≤ 6)))) ∧ M' = M) := by
    refine e_then (e_il1 hT (y := 138) (pc := 0) (q := (yX7_isTongue, cX7_isTongue, 2, (some .boolean), 7)) rfl (show aTab 138 0 = some (.iload_n 1, 1, 0, 0, 0, 0, 0, 0) from rfl) rfl rfl) ?_
    refine e_then (e_st hT (y := 138) (pc := 1) (q := (yX7_isTongue, cX7_isTongue, 2, (some .boolean), 7)) rfl (show aTab 138 1 = some (.iconst 0, 1, 0, 0, 0, 0, 0, 0) from rfl) (fr' := (138, 2, (lv_args 0 [.ref 49, .int a]), [.int 0, .int a])) (M' := M) rfl) ?_
    refine e_then (e_st hT (y := 138) (pc := 2) (q := (yX7_isTongue, cX7_isTongue, 2, (some .boolean), 7)) rfl (show aTab 138 2 = some (.bipush 6, 2, 0, 0, 0, 0, 0, 0) from rfl) (fr' := (138, 4, (lv_args 0 [.ref 49, .int a]), [.int 6, .int 0, .int a])) (M' := M) rfl) ?_
    refine e_then (e_callsN hT (y := 138) (pc := 4) (q := (yX7_isTongue, cX7_isTongue, 2, (some .boolean), 7)) rfl (show aTab 138 4 = some (.invokestatic 30, 3, 3, 234, 0, 3, 3, 11) from rfl) (Nat.le_of_ble_eq_true rfl) (Nat.le_of_ble_eq_true rfl) (Nat.le_of_ble_eq_true rfl) ⟨by decide, by decide⟩ q1) ?_
    exact e_fin (e_zret hT (y := 138) (pc := 7) (q := (yX7_isTongue, cX7_isTongue, 2, (some .boolean), 7)) rfl (show aTab 138 7 = some (.ireturn, 1, 0, 0, 0, 0, 0, 0) from rfl) ⟨rfl, rfl⟩ (gB_01 _)) ⟨rfl, rfl⟩
  obtain ⟨K, r, M', q, rfl, rfl⟩ := go
  exact ⟨K, mRun_dm q hd⟩
theorem rtg_run (hT : aTabOk) {M : mHe} {a : Int32} {d : Nat} (hd : 10 ≤ d) [Decidable (tgOk a)] : ∃ K, mRun none K d (252, 0, lv_args 0 [.int a], []) M = some (some (.int (gB (decide (tgOk a)))), M) := by
  obtain ⟨K1, q1⟩ := isIn_i hT (M := M) (v := a) (l := Int64.ofNat 0) (h := Int64.ofInt 6) (d := 9) (by decide)
  rw [show (Int64.ofNat 0).toInt = 0 from rfl, show (Int64.ofInt 6).toInt = 6 from rfl] at q1
  have e : decide (tgOk a) = decide (0 ≤ a.toInt ∧ a.toInt ≤ 6) := decide_eq_decide.mpr Iff.rfl
  rw [e]
  have go : mEv none 10 (252, 0, lv_args 0 [.int a], []) M (fun r M' => r = some (.int (gB (decide (0 ≤ a.toInt ∧ a.toInt ≤ 6)))) ∧ M' = M) := by
    refine e_then (e_il1 hT (y := 252) (pc := 0) (q := (yX12_isTongue, cX12_isTongue, 1, (some .boolean), 12)) rfl (show aTab 252 0 = some (.iload_n 0, 1, 0, 0, 0, 0, 0, 0) from rfl) rfl rfl) ?_
    refine e_then (e_st hT (y := 252) (pc := 1) (q := (yX12_isTongue, cX12_isTongue, 1, (some .boolean), 12)) rfl (show aTab 252 1 = some (.i2l, 1, 0, 0, 0, 0, 0, 0) from rfl) (fr' := (252, 2, (lv_args 0 [.int a]), [.long (a).toInt64])) (M' := M) rfl) ?_
    refine e_then (e_st hT (y := 252) (pc := 2) (q := (yX12_isTongue, cX12_isTongue, 1, (some .boolean), 12)) rfl (show aTab 252 2 = some (.lconst 0, 1, 0, 0, 0, 0, 0, 0) from rfl) (fr' := (252, 3, (lv_args 0 [.int a]), [.long (Int64.ofNat 0), .long (a).toInt64])) (M' := M) rfl) ?_
    refine e_then (e_st hT (y := 252) (pc := 3) (q := (yX12_isTongue, cX12_isTongue, 1, (some .boolean), 12)) rfl (show aTab 252 3 = some (.ldc2_w 71, 3, 8, 0, 6, 0, 0, 0) from rfl) (fr' := (252, 6, (lv_args 0 [.int a]), [.long (Int64.ofInt 6), .long (Int64.ofNat 0), .long (a).toInt64])) (M' := M) rfl) ?_
    refine e_then (e_calls hT (y := 252) (pc := 6) (q := (yX12_isTongue, cX12_isTongue, 1, (some .boolean), 12)) rfl (show aTab 252 6 = some (.invokestatic 65, 3, 2, 239, 0, 3, 6, 12) from rfl) (Nat.le_of_ble_eq_true rfl) (Nat.le_of_ble_eq_true rfl) (Nat.le_of_ble_eq_true rfl) ⟨by decide, by decide⟩ q1) ?_
    exact e_fin (e_zret hT (y := 252) (pc := 9) (q := (yX12_isTongue, cX12_isTongue, 1, (some .boolean), 12)) rfl (show aTab 252 9 = some (.ireturn, 1, 0, 0, 0, 0, 0, 0) from rfl) ⟨rfl, rfl⟩ (gB_01 _)) ⟨rfl, rfl⟩
  obtain ⟨K, r, M', q, rfl, rfl⟩ := go
  exact ⟨K, mRun_dm q hd⟩
theorem bit_all : ∀ a : Fin 7, ∀ b : Fin 7, (if Int32.ofNat a < Int32.ofNat b then Int32.ofNat b else Int32.ofNat a) = Int32.ofNat (max a b) ∧ (if Int32.ofNat b < Int32.ofNat a then Int32.ofNat b else Int32.ofNat a) = Int32.ofNat (min a b) ∧ (1 : Int32) <<< ((Int32.ofNat (max (a : Nat) b) * (Int32.ofNat (max (a : Nat) b) - 1) / 2 + Int32.ofNat (min (a : Nat) b)) &&& 31) = hBit a b := by decide +kernel
theorem xbo_run (hT : aTabOk) {M : mHe} {a b : Nat} (ha : a < 7) (hb : b < 7) {d : Nat} (hd : 10 ≤ d) : ∃ K, mRun none K d (139, 0, lv_args 0 [.ref 49, .int (Int32.ofNat a), .int (Int32.ofNat b)], []) M = some (some (.int (hBit a b)), M) := by
  obtain ⟨b1, b2, b3⟩ := bit_all ⟨a, ha⟩ ⟨b, hb⟩
  simp only at b1 b2 b3
  have go : mEv none 10 (139, 0, lv_args 0 [.ref 49, .int (Int32.ofNat a), .int (Int32.ofNat b)], []) M (fun r M' => r = some (.int (hBit a b)) ∧ M' = M) := by
    refine e_then (e_il1 hT (y := 139) (pc := 0) (q := (yX7_bitOf, cX7_bitOf, 4, (some .int), 7)) rfl (show aTab 139 0 = some (.iload_n 1, 1, 0, 0, 0, 0, 0, 0) from rfl) rfl rfl) ?_
    refine e_then (e_il1 hT (y := 139) (pc := 1) (q := (yX7_bitOf, cX7_bitOf, 4, (some .int), 7)) rfl (show aTab 139 1 = some (.iload_n 2, 1, 0, 0, 0, 0, 0, 0) from rfl) rfl rfl) ?_
    refine e_then (e_mx hT (y := 139) (pc := 2) (q := (yX7_bitOf, cX7_bitOf, 4, (some .int), 7)) rfl (show aTab 139 2 = some (.invokestatic 34, 3, 13, 0, 0, 0, 0, 0) from rfl) (Nat.le_of_ble_eq_true rfl) (by decide)) ?_
    rw [b1]
    refine e_then (e_is1 hT (y := 139) (pc := 5) (q := (yX7_bitOf, cX7_bitOf, 4, (some .int), 7)) rfl (show aTab 139 5 = some (.istore_n 3, 1, 0, 0, 0, 0, 0, 0) from rfl) ⟨rfl, by decide⟩) ?_
    refine e_then (e_st hT (y := 139) (pc := 6) (q := (yX7_bitOf, cX7_bitOf, 4, (some .int), 7)) rfl (show aTab 139 6 = some (.iconst 1, 1, 0, 0, 0, 0, 0, 0) from rfl) (fr' := (139, 7, (mlp 3 (.int (Int32.ofNat (max a b))) (lv_args 0 [.ref 49, .int (Int32.ofNat a), .int (Int32.ofNat b)])), [.int 1])) (M' := M) rfl) ?_
    refine e_then (e_il1 hT (y := 139) (pc := 7) (q := (yX7_bitOf, cX7_bitOf, 4, (some .int), 7)) rfl (show aTab 139 7 = some (.iload_n 3, 1, 0, 0, 0, 0, 0, 0) from rfl) rfl (mlg_eq 3 _ _)) ?_
    refine e_then (e_il1 hT (y := 139) (pc := 8) (q := (yX7_bitOf, cX7_bitOf, 4, (some .int), 7)) rfl (show aTab 139 8 = some (.iload_n 3, 1, 0, 0, 0, 0, 0, 0) from rfl) rfl (mlg_eq 3 _ _)) ?_
    refine e_then (e_st hT (y := 139) (pc := 9) (q := (yX7_bitOf, cX7_bitOf, 4, (some .int), 7)) rfl (show aTab 139 9 = some (.iconst 1, 1, 0, 0, 0, 0, 0, 0) from rfl) (fr' := (139, 10, (mlp 3 (.int (Int32.ofNat (max a b))) (lv_args 0 [.ref 49, .int (Int32.ofNat a), .int (Int32.ofNat b)])), [.int 1, .int (Int32.ofNat (max a b)), .int (Int32.ofNat (max a b)), .int 1])) (M' := M) rfl) ?_
    refine e_then (e_st hT (y := 139) (pc := 10) (q := (yX7_bitOf, cX7_bitOf, 4, (some .int), 7)) rfl (show aTab 139 10 = some (.isub, 1, 0, 0, 0, 0, 0, 0) from rfl) (fr' := (139, 11, (mlp 3 (.int (Int32.ofNat (max a b))) (lv_args 0 [.ref 49, .int (Int32.ofNat a), .int (Int32.ofNat b)])), [.int ((Int32.ofNat (max a b)) - 1), .int (Int32.ofNat (max a b)), .int 1])) (M' := M) rfl) ?_
    refine e_then (e_st hT (y := 139) (pc := 11) (q := (yX7_bitOf, cX7_bitOf, 4, (some .int), 7)) rfl (show aTab 139 11 = some (.imul, 1, 0, 0, 0, 0, 0, 0) from rfl) (fr' := (139, 12, (mlp 3 (.int (Int32.ofNat (max a b))) (lv_args 0 [.ref 49, .int (Int32.ofNat a), .int (Int32.ofNat b)])), [.int ((Int32.ofNat (max a b)) * ((Int32.ofNat (max a b)) - 1)), .int 1])) (M' := M) rfl) ?_
    refine e_then (e_st hT (y := 139) (pc := 12) (q := (yX7_bitOf, cX7_bitOf, 4, (some .int), 7)) rfl (show aTab 139 12 = some (.iconst 2, 1, 0, 0, 0, 0, 0, 0) from rfl) (fr' := (139, 13, (mlp 3 (.int (Int32.ofNat (max a b))) (lv_args 0 [.ref 49, .int (Int32.ofNat a), .int (Int32.ofNat b)])), [.int 2, .int ((Int32.ofNat (max a b)) * ((Int32.ofNat (max a b)) - 1)), .int 1])) (M' := M) rfl) ?_
    refine e_then (e_st hT (y := 139) (pc := 13) (q := (yX7_bitOf, cX7_bitOf, 4, (some .int), 7)) rfl (show aTab 139 13 = some (.idiv, 1, 0, 0, 0, 0, 0, 0) from rfl) (fr' := (139, 14, (mlp 3 (.int (Int32.ofNat (max a b))) (lv_args 0 [.ref 49, .int (Int32.ofNat a), .int (Int32.ofNat b)])), [.int (Int32.ofNat (max a b) * (Int32.ofNat (max a b) - 1) / 2), .int 1])) (M' := M) rfl) ?_
    refine e_then (e_il1 hT (y := 139) (pc := 14) (q := (yX7_bitOf, cX7_bitOf, 4, (some .int), 7)) rfl (show aTab 139 14 = some (.iload_n 1, 1, 0, 0, 0, 0, 0, 0) from rfl) rfl (mlg_i rfl (by decide))) ?_
    refine e_then (e_il1 hT (y := 139) (pc := 15) (q := (yX7_bitOf, cX7_bitOf, 4, (some .int), 7)) rfl (show aTab 139 15 = some (.iload_n 2, 1, 0, 0, 0, 0, 0, 0) from rfl) rfl (mlg_i rfl (by decide))) ?_
    refine e_then (e_mn hT (y := 139) (pc := 16) (q := (yX7_bitOf, cX7_bitOf, 4, (some .int), 7)) rfl (show aTab 139 16 = some (.invokestatic 40, 3, 14, 0, 0, 0, 0, 0) from rfl) (Nat.le_of_ble_eq_true rfl) (by decide)) ?_
    rw [b2]
    refine e_then (e_st hT (y := 139) (pc := 19) (q := (yX7_bitOf, cX7_bitOf, 4, (some .int), 7)) rfl (show aTab 139 19 = some (.iadd, 1, 0, 0, 0, 0, 0, 0) from rfl) (fr' := (139, 20, (mlp 3 (.int (Int32.ofNat (max a b))) (lv_args 0 [.ref 49, .int (Int32.ofNat a), .int (Int32.ofNat b)])), [.int ((Int32.ofNat (max a b) * (Int32.ofNat (max a b) - 1) / 2) + (Int32.ofNat (min a b))), .int 1])) (M' := M) rfl) ?_
    refine e_then (e_st hT (y := 139) (pc := 20) (q := (yX7_bitOf, cX7_bitOf, 4, (some .int), 7)) rfl (show aTab 139 20 = some (.ishl, 1, 0, 0, 0, 0, 0, 0) from rfl) (fr' := (139, 21, (mlp 3 (.int (Int32.ofNat (max a b))) (lv_args 0 [.ref 49, .int (Int32.ofNat a), .int (Int32.ofNat b)])), [.int (1 <<< (((Int32.ofNat (max a b) * (Int32.ofNat (max a b) - 1) / 2) + (Int32.ofNat (min a b))) &&& 31))])) (M' := M) rfl) ?_
    rw [b3]
    exact e_fin (e_iret hT (y := 139) (pc := 21) (q := (yX7_bitOf, cX7_bitOf, 4, (some .int), 7)) rfl (show aTab 139 21 = some (.ireturn, 1, 0, 0, 0, 0, 0, 0) from rfl) ⟨rfl, rfl⟩) ⟨rfl, rfl⟩
  obtain ⟨K, r, M', q, rfl, rfl⟩ := go
  exact ⟨K, mRun_dm q hd⟩
/-- the library's count of bits -/
def bc1 (x : Int32) : Int32 := x - ((Int32.toUInt32 (x) >>> (Int32.toUInt32 (1) &&& Int32.toUInt32 31)).toInt32 &&& 1431655765)
def bc2 (x : Int32) : Int32 := (x &&& 858993459) + ((Int32.toUInt32 (x) >>> (Int32.toUInt32 (2) &&& Int32.toUInt32 31)).toInt32 &&& 858993459)
def bc3 (x : Int32) : Int32 := (x + (Int32.toUInt32 (x) >>> (Int32.toUInt32 (4) &&& Int32.toUInt32 31)).toInt32) &&& 252645135
def bc4 (x : Int32) : Int32 := x + (Int32.toUInt32 (x) >>> (Int32.toUInt32 (8) &&& Int32.toUInt32 31)).toInt32
def bc5 (x : Int32) : Int32 := x + (Int32.toUInt32 (x) >>> (Int32.toUInt32 (16) &&& Int32.toUInt32 31)).toInt32
def bcF (x : Int32) : Int32 := bc5 (bc4 (bc3 (bc2 (bc1 x)))) &&& 63
theorem bc_run (hT : aTabOk) {M : mHe} {x : Int32} {d : Nat} (hd : 10 ≤ d) : ∃ K, mRun none K d (367, 0, lv_args 0 [.int x], []) M = some (some (.int (bcF x)), M) := by
  have go : mEv none 10 (367, 0, lv_args 0 [.int x], []) M (fun r M' => r = some (.int (bcF x)) ∧ M' = M) := by
    refine e_then (e_il1 hT (y := 367) (pc := 0) (q := (yJ6_bitCount_0f7a4, cJ6_bitCount_0f7a4, 1, (some .int), 14)) rfl (show aTab 367 0 = some (.iload_n 0, 1, 0, 0, 0, 0, 0, 0) from rfl) rfl rfl) ?_
    refine e_then (e_il1 hT (y := 367) (pc := 1) (q := (yJ6_bitCount_0f7a4, cJ6_bitCount_0f7a4, 1, (some .int), 14)) rfl (show aTab 367 1 = some (.iload_n 0, 1, 0, 0, 0, 0, 0, 0) from rfl) rfl rfl) ?_
    refine e_then (e_st hT (y := 367) (pc := 2) (q := (yJ6_bitCount_0f7a4, cJ6_bitCount_0f7a4, 1, (some .int), 14)) rfl (show aTab 367 2 = some (.iconst 1, 1, 0, 0, 0, 0, 0, 0) from rfl) (fr' := (367, 3, (lv_args 0 [.int x]), [.int 1, .int x, .int x])) (M' := M) rfl) ?_
    refine e_then (e_st hT (y := 367) (pc := 3) (q := (yJ6_bitCount_0f7a4, cJ6_bitCount_0f7a4, 1, (some .int), 14)) rfl (show aTab 367 3 = some (.iushr, 1, 0, 0, 0, 0, 0, 0) from rfl) (fr' := (367, 4, (lv_args 0 [.int x]), [.int (Int32.toUInt32 (x) >>> (Int32.toUInt32 (1) &&& Int32.toUInt32 31)).toInt32, .int x])) (M' := M) rfl) ?_
    refine e_then (e_st hT (y := 367) (pc := 4) (q := (yJ6_bitCount_0f7a4, cJ6_bitCount_0f7a4, 1, (some .int), 14)) rfl (show aTab 367 4 = some (.ldc_w 265, 3, 7, 0, 1431655765, 0, 0, 0) from rfl) (fr' := (367, 7, (lv_args 0 [.int x]), [.int (1431655765), .int (Int32.toUInt32 (x) >>> (Int32.toUInt32 (1) &&& Int32.toUInt32 31)).toInt32, .int x])) (M' := M) rfl) ?_
    refine e_then (e_st hT (y := 367) (pc := 7) (q := (yJ6_bitCount_0f7a4, cJ6_bitCount_0f7a4, 1, (some .int), 14)) rfl (show aTab 367 7 = some (.iand, 1, 0, 0, 0, 0, 0, 0) from rfl) (fr' := (367, 8, (lv_args 0 [.int x]), [.int ((Int32.toUInt32 (x) >>> (Int32.toUInt32 (1) &&& Int32.toUInt32 31)).toInt32 &&& (1431655765)), .int x])) (M' := M) rfl) ?_
    refine e_then (e_st hT (y := 367) (pc := 8) (q := (yJ6_bitCount_0f7a4, cJ6_bitCount_0f7a4, 1, (some .int), 14)) rfl (show aTab 367 8 = some (.isub, 1, 0, 0, 0, 0, 0, 0) from rfl) (fr' := (367, 9, (lv_args 0 [.int x]), [.int (x - ((Int32.toUInt32 (x) >>> (Int32.toUInt32 (1) &&& Int32.toUInt32 31)).toInt32 &&& (1431655765)))])) (M' := M) rfl) ?_
    generalize hx1 : (x - ((Int32.toUInt32 (x) >>> (Int32.toUInt32 (1) &&& Int32.toUInt32 31)).toInt32 &&& (1431655765))) = x1
    refine e_then (e_is1 hT (y := 367) (pc := 9) (q := (yJ6_bitCount_0f7a4, cJ6_bitCount_0f7a4, 1, (some .int), 14)) rfl (show aTab 367 9 = some (.istore_n 0, 1, 0, 0, 0, 0, 0, 0) from rfl) ⟨rfl, by decide⟩) ?_
    refine e_then (e_il1 hT (y := 367) (pc := 10) (q := (yJ6_bitCount_0f7a4, cJ6_bitCount_0f7a4, 1, (some .int), 14)) rfl (show aTab 367 10 = some (.iload_n 0, 1, 0, 0, 0, 0, 0, 0) from rfl) rfl (mlg_eq 0 _ _)) ?_
    refine e_then (e_st hT (y := 367) (pc := 11) (q := (yJ6_bitCount_0f7a4, cJ6_bitCount_0f7a4, 1, (some .int), 14)) rfl (show aTab 367 11 = some (.ldc_w 266, 3, 7, 0, 858993459, 0, 0, 0) from rfl) (fr' := (367, 14, (mlp 0 (.int x1) (lv_args 0 [.int x])), [.int (858993459), .int x1])) (M' := M) rfl) ?_
    refine e_then (e_st hT (y := 367) (pc := 14) (q := (yJ6_bitCount_0f7a4, cJ6_bitCount_0f7a4, 1, (some .int), 14)) rfl (show aTab 367 14 = some (.iand, 1, 0, 0, 0, 0, 0, 0) from rfl) (fr' := (367, 15, (mlp 0 (.int x1) (lv_args 0 [.int x])), [.int (x1 &&& (858993459))])) (M' := M) rfl) ?_
    refine e_then (e_il1 hT (y := 367) (pc := 15) (q := (yJ6_bitCount_0f7a4, cJ6_bitCount_0f7a4, 1, (some .int), 14)) rfl (show aTab 367 15 = some (.iload_n 0, 1, 0, 0, 0, 0, 0, 0) from rfl) rfl (mlg_eq 0 _ _)) ?_
    refine e_then (e_st hT (y := 367) (pc := 16) (q := (yJ6_bitCount_0f7a4, cJ6_bitCount_0f7a4, 1, (some .int), 14)) rfl (show aTab 367 16 = some (.iconst 2, 1, 0, 0, 0, 0, 0, 0) from rfl) (fr' := (367, 17, (mlp 0 (.int x1) (lv_args 0 [.int x])), [.int 2, .int x1, .int (x1 &&& (858993459))])) (M' := M) rfl) ?_
    refine e_then (e_st hT (y := 367) (pc := 17) (q := (yJ6_bitCount_0f7a4, cJ6_bitCount_0f7a4, 1, (some .int), 14)) rfl (show aTab 367 17 = some (.iushr, 1, 0, 0, 0, 0, 0, 0) from rfl) (fr' := (367, 18, (mlp 0 (.int x1) (lv_args 0 [.int x])), [.int (Int32.toUInt32 (x1) >>> (Int32.toUInt32 (2) &&& Int32.toUInt32 31)).toInt32, .int (x1 &&& (858993459))])) (M' := M) rfl) ?_
    refine e_then (e_st hT (y := 367) (pc := 18) (q := (yJ6_bitCount_0f7a4, cJ6_bitCount_0f7a4, 1, (some .int), 14)) rfl (show aTab 367 18 = some (.ldc_w 266, 3, 7, 0, 858993459, 0, 0, 0) from rfl) (fr' := (367, 21, (mlp 0 (.int x1) (lv_args 0 [.int x])), [.int (858993459), .int (Int32.toUInt32 (x1) >>> (Int32.toUInt32 (2) &&& Int32.toUInt32 31)).toInt32, .int (x1 &&& (858993459))])) (M' := M) rfl) ?_
    refine e_then (e_st hT (y := 367) (pc := 21) (q := (yJ6_bitCount_0f7a4, cJ6_bitCount_0f7a4, 1, (some .int), 14)) rfl (show aTab 367 21 = some (.iand, 1, 0, 0, 0, 0, 0, 0) from rfl) (fr' := (367, 22, (mlp 0 (.int x1) (lv_args 0 [.int x])), [.int ((Int32.toUInt32 (x1) >>> (Int32.toUInt32 (2) &&& Int32.toUInt32 31)).toInt32 &&& (858993459)), .int (x1 &&& (858993459))])) (M' := M) rfl) ?_
    refine e_then (e_st hT (y := 367) (pc := 22) (q := (yJ6_bitCount_0f7a4, cJ6_bitCount_0f7a4, 1, (some .int), 14)) rfl (show aTab 367 22 = some (.iadd, 1, 0, 0, 0, 0, 0, 0) from rfl) (fr' := (367, 23, (mlp 0 (.int x1) (lv_args 0 [.int x])), [.int ((x1 &&& (858993459)) + ((Int32.toUInt32 (x1) >>> (Int32.toUInt32 (2) &&& Int32.toUInt32 31)).toInt32 &&& (858993459)))])) (M' := M) rfl) ?_
    generalize hx2 : ((x1 &&& (858993459)) + ((Int32.toUInt32 (x1) >>> (Int32.toUInt32 (2) &&& Int32.toUInt32 31)).toInt32 &&& (858993459))) = x2
    refine e_then (e_is1 hT (y := 367) (pc := 23) (q := (yJ6_bitCount_0f7a4, cJ6_bitCount_0f7a4, 1, (some .int), 14)) rfl (show aTab 367 23 = some (.istore_n 0, 1, 0, 0, 0, 0, 0, 0) from rfl) ⟨rfl, by decide⟩) ?_
    refine e_then (e_il1 hT (y := 367) (pc := 24) (q := (yJ6_bitCount_0f7a4, cJ6_bitCount_0f7a4, 1, (some .int), 14)) rfl (show aTab 367 24 = some (.iload_n 0, 1, 0, 0, 0, 0, 0, 0) from rfl) rfl (mlg_eq 0 _ _)) ?_
    refine e_then (e_il1 hT (y := 367) (pc := 25) (q := (yJ6_bitCount_0f7a4, cJ6_bitCount_0f7a4, 1, (some .int), 14)) rfl (show aTab 367 25 = some (.iload_n 0, 1, 0, 0, 0, 0, 0, 0) from rfl) rfl (mlg_eq 0 _ _)) ?_
    refine e_then (e_st hT (y := 367) (pc := 26) (q := (yJ6_bitCount_0f7a4, cJ6_bitCount_0f7a4, 1, (some .int), 14)) rfl (show aTab 367 26 = some (.iconst 4, 1, 0, 0, 0, 0, 0, 0) from rfl) (fr' := (367, 27, (mlp 0 (.int x2) (mlp 0 (.int x1) (lv_args 0 [.int x]))), [.int 4, .int x2, .int x2])) (M' := M) rfl) ?_
    refine e_then (e_st hT (y := 367) (pc := 27) (q := (yJ6_bitCount_0f7a4, cJ6_bitCount_0f7a4, 1, (some .int), 14)) rfl (show aTab 367 27 = some (.iushr, 1, 0, 0, 0, 0, 0, 0) from rfl) (fr' := (367, 28, (mlp 0 (.int x2) (mlp 0 (.int x1) (lv_args 0 [.int x]))), [.int (Int32.toUInt32 (x2) >>> (Int32.toUInt32 (4) &&& Int32.toUInt32 31)).toInt32, .int x2])) (M' := M) rfl) ?_
    refine e_then (e_st hT (y := 367) (pc := 28) (q := (yJ6_bitCount_0f7a4, cJ6_bitCount_0f7a4, 1, (some .int), 14)) rfl (show aTab 367 28 = some (.iadd, 1, 0, 0, 0, 0, 0, 0) from rfl) (fr' := (367, 29, (mlp 0 (.int x2) (mlp 0 (.int x1) (lv_args 0 [.int x]))), [.int (x2 + (Int32.toUInt32 (x2) >>> (Int32.toUInt32 (4) &&& Int32.toUInt32 31)).toInt32)])) (M' := M) rfl) ?_
    refine e_then (e_st hT (y := 367) (pc := 29) (q := (yJ6_bitCount_0f7a4, cJ6_bitCount_0f7a4, 1, (some .int), 14)) rfl (show aTab 367 29 = some (.ldc_w 267, 3, 7, 0, 252645135, 0, 0, 0) from rfl) (fr' := (367, 32, (mlp 0 (.int x2) (mlp 0 (.int x1) (lv_args 0 [.int x]))), [.int (252645135), .int (x2 + (Int32.toUInt32 (x2) >>> (Int32.toUInt32 (4) &&& Int32.toUInt32 31)).toInt32)])) (M' := M) rfl) ?_
    refine e_then (e_st hT (y := 367) (pc := 32) (q := (yJ6_bitCount_0f7a4, cJ6_bitCount_0f7a4, 1, (some .int), 14)) rfl (show aTab 367 32 = some (.iand, 1, 0, 0, 0, 0, 0, 0) from rfl) (fr' := (367, 33, (mlp 0 (.int x2) (mlp 0 (.int x1) (lv_args 0 [.int x]))), [.int ((x2 + (Int32.toUInt32 (x2) >>> (Int32.toUInt32 (4) &&& Int32.toUInt32 31)).toInt32) &&& (252645135))])) (M' := M) rfl) ?_
    generalize hx3 : ((x2 + (Int32.toUInt32 (x2) >>> (Int32.toUInt32 (4) &&& Int32.toUInt32 31)).toInt32) &&& (252645135)) = x3
    refine e_then (e_is1 hT (y := 367) (pc := 33) (q := (yJ6_bitCount_0f7a4, cJ6_bitCount_0f7a4, 1, (some .int), 14)) rfl (show aTab 367 33 = some (.istore_n 0, 1, 0, 0, 0, 0, 0, 0) from rfl) ⟨rfl, by decide⟩) ?_
    refine e_then (e_il1 hT (y := 367) (pc := 34) (q := (yJ6_bitCount_0f7a4, cJ6_bitCount_0f7a4, 1, (some .int), 14)) rfl (show aTab 367 34 = some (.iload_n 0, 1, 0, 0, 0, 0, 0, 0) from rfl) rfl (mlg_eq 0 _ _)) ?_
    refine e_then (e_il1 hT (y := 367) (pc := 35) (q := (yJ6_bitCount_0f7a4, cJ6_bitCount_0f7a4, 1, (some .int), 14)) rfl (show aTab 367 35 = some (.iload_n 0, 1, 0, 0, 0, 0, 0, 0) from rfl) rfl (mlg_eq 0 _ _)) ?_
    refine e_then (e_st hT (y := 367) (pc := 36) (q := (yJ6_bitCount_0f7a4, cJ6_bitCount_0f7a4, 1, (some .int), 14)) rfl (show aTab 367 36 = some (.bipush 8, 2, 0, 0, 0, 0, 0, 0) from rfl) (fr' := (367, 38, (mlp 0 (.int x3) (mlp 0 (.int x2) (mlp 0 (.int x1) (lv_args 0 [.int x])))), [.int 8, .int x3, .int x3])) (M' := M) rfl) ?_
    refine e_then (e_st hT (y := 367) (pc := 38) (q := (yJ6_bitCount_0f7a4, cJ6_bitCount_0f7a4, 1, (some .int), 14)) rfl (show aTab 367 38 = some (.iushr, 1, 0, 0, 0, 0, 0, 0) from rfl) (fr' := (367, 39, (mlp 0 (.int x3) (mlp 0 (.int x2) (mlp 0 (.int x1) (lv_args 0 [.int x])))), [.int (Int32.toUInt32 (x3) >>> (Int32.toUInt32 (8) &&& Int32.toUInt32 31)).toInt32, .int x3])) (M' := M) rfl) ?_
    refine e_then (e_st hT (y := 367) (pc := 39) (q := (yJ6_bitCount_0f7a4, cJ6_bitCount_0f7a4, 1, (some .int), 14)) rfl (show aTab 367 39 = some (.iadd, 1, 0, 0, 0, 0, 0, 0) from rfl) (fr' := (367, 40, (mlp 0 (.int x3) (mlp 0 (.int x2) (mlp 0 (.int x1) (lv_args 0 [.int x])))), [.int (x3 + (Int32.toUInt32 (x3) >>> (Int32.toUInt32 (8) &&& Int32.toUInt32 31)).toInt32)])) (M' := M) rfl) ?_
    generalize hx4 : (x3 + (Int32.toUInt32 (x3) >>> (Int32.toUInt32 (8) &&& Int32.toUInt32 31)).toInt32) = x4
    refine e_then (e_is1 hT (y := 367) (pc := 40) (q := (yJ6_bitCount_0f7a4, cJ6_bitCount_0f7a4, 1, (some .int), 14)) rfl (show aTab 367 40 = some (.istore_n 0, 1, 0, 0, 0, 0, 0, 0) from rfl) ⟨rfl, by decide⟩) ?_
    refine e_then (e_il1 hT (y := 367) (pc := 41) (q := (yJ6_bitCount_0f7a4, cJ6_bitCount_0f7a4, 1, (some .int), 14)) rfl (show aTab 367 41 = some (.iload_n 0, 1, 0, 0, 0, 0, 0, 0) from rfl) rfl (mlg_eq 0 _ _)) ?_
    refine e_then (e_il1 hT (y := 367) (pc := 42) (q := (yJ6_bitCount_0f7a4, cJ6_bitCount_0f7a4, 1, (some .int), 14)) rfl (show aTab 367 42 = some (.iload_n 0, 1, 0, 0, 0, 0, 0, 0) from rfl) rfl (mlg_eq 0 _ _)) ?_
    refine e_then (e_st hT (y := 367) (pc := 43) (q := (yJ6_bitCount_0f7a4, cJ6_bitCount_0f7a4, 1, (some .int), 14)) rfl (show aTab 367 43 = some (.bipush 16, 2, 0, 0, 0, 0, 0, 0) from rfl) (fr' := (367, 45, (mlp 0 (.int x4) (mlp 0 (.int x3) (mlp 0 (.int x2) (mlp 0 (.int x1) (lv_args 0 [.int x]))))), [.int 16, .int x4, .int x4])) (M' := M) rfl) ?_
    refine e_then (e_st hT (y := 367) (pc := 45) (q := (yJ6_bitCount_0f7a4, cJ6_bitCount_0f7a4, 1, (some .int), 14)) rfl (show aTab 367 45 = some (.iushr, 1, 0, 0, 0, 0, 0, 0) from rfl) (fr' := (367, 46, (mlp 0 (.int x4) (mlp 0 (.int x3) (mlp 0 (.int x2) (mlp 0 (.int x1) (lv_args 0 [.int x]))))), [.int (Int32.toUInt32 (x4) >>> (Int32.toUInt32 (16) &&& Int32.toUInt32 31)).toInt32, .int x4])) (M' := M) rfl) ?_
    refine e_then (e_st hT (y := 367) (pc := 46) (q := (yJ6_bitCount_0f7a4, cJ6_bitCount_0f7a4, 1, (some .int), 14)) rfl (show aTab 367 46 = some (.iadd, 1, 0, 0, 0, 0, 0, 0) from rfl) (fr' := (367, 47, (mlp 0 (.int x4) (mlp 0 (.int x3) (mlp 0 (.int x2) (mlp 0 (.int x1) (lv_args 0 [.int x]))))), [.int (x4 + (Int32.toUInt32 (x4) >>> (Int32.toUInt32 (16) &&& Int32.toUInt32 31)).toInt32)])) (M' := M) rfl) ?_
    generalize hx5 : (x4 + (Int32.toUInt32 (x4) >>> (Int32.toUInt32 (16) &&& Int32.toUInt32 31)).toInt32) = x5
    refine e_then (e_is1 hT (y := 367) (pc := 47) (q := (yJ6_bitCount_0f7a4, cJ6_bitCount_0f7a4, 1, (some .int), 14)) rfl (show aTab 367 47 = some (.istore_n 0, 1, 0, 0, 0, 0, 0, 0) from rfl) ⟨rfl, by decide⟩) ?_
    refine e_then (e_il1 hT (y := 367) (pc := 48) (q := (yJ6_bitCount_0f7a4, cJ6_bitCount_0f7a4, 1, (some .int), 14)) rfl (show aTab 367 48 = some (.iload_n 0, 1, 0, 0, 0, 0, 0, 0) from rfl) rfl (mlg_eq 0 _ _)) ?_
    refine e_then (e_st hT (y := 367) (pc := 49) (q := (yJ6_bitCount_0f7a4, cJ6_bitCount_0f7a4, 1, (some .int), 14)) rfl (show aTab 367 49 = some (.bipush 63, 2, 0, 0, 0, 0, 0, 0) from rfl) (fr' := (367, 51, (mlp 0 (.int x5) (mlp 0 (.int x4) (mlp 0 (.int x3) (mlp 0 (.int x2) (mlp 0 (.int x1) (lv_args 0 [.int x])))))), [.int 63, .int x5])) (M' := M) rfl) ?_
    refine e_then (e_st hT (y := 367) (pc := 51) (q := (yJ6_bitCount_0f7a4, cJ6_bitCount_0f7a4, 1, (some .int), 14)) rfl (show aTab 367 51 = some (.iand, 1, 0, 0, 0, 0, 0, 0) from rfl) (fr' := (367, 52, (mlp 0 (.int x5) (mlp 0 (.int x4) (mlp 0 (.int x3) (mlp 0 (.int x2) (mlp 0 (.int x1) (lv_args 0 [.int x])))))), [.int (x5 &&& 63)])) (M' := M) rfl) ?_
    exact e_fin (e_iret hT (y := 367) (pc := 52) (q := (yJ6_bitCount_0f7a4, cJ6_bitCount_0f7a4, 1, (some .int), 14)) rfl (show aTab 367 52 = some (.ireturn, 1, 0, 0, 0, 0, 0, 0) from rfl) ⟨rfl, rfl⟩) ⟨by subst hx5; subst hx4; subst hx3; subst hx2; subst hx1; rfl, rfl⟩
  obtain ⟨K, r, M', q, rfl, rfl⟩ := go
  exact ⟨K, mRun_dm q hd⟩
/-! SPEAKS -/
def spOk (N : Nat) (i a b : Int32) : Prop := (0 ≤ i.toInt ∧ i.toInt ≤ (N : Int) - 1) ∧ tgOk a ∧ tgOk b ∧ a ≠ b
theorem xsk_run (hT : aTabOk) {M : mHe} (hM : yTy M) {g : Nat → Nat → Int32} (hg : rdI M = g) {N : Nat} (hN : g 40 0 = Int32.ofNat N) (hN6 : N ≤ 6) {i a b : Int32} : mEv none 30 (222, 0, lv_args 0 [.ref 9, .int i, .int a, .int b], []) M (fun r M' => (∃ x, r = some (.int x) ∧ (spOk N i a b → x = bcF (g 41 i.toInt.toNat ||| hBit a.toInt.toNat b.toInt.toNat)) ∧ (¬ spOk N i a b → x = -1000000001)) ∧ yTy M' ∧ (spOk N i a b → rdI M' = up2 g 41 i.toInt.toNat (g 41 i.toInt.toNat ||| hBit a.toInt.toNat b.toInt.toNat)) ∧ (¬ spOk N i a b → rdI M' = g)) := by
  have eN := i32n (k := N) (by omega)
  have e1 : (1 : Int32).toInt = 1 := rfl
  have hN1 : (Int32.ofNat N - 1).toInt = (N : Int) - 1 := by rw [i32_sub (by omega) (by omega), eN, e1]
  obtain ⟨K1, q1⟩ := within_i hT (M := M) (v := i) (l := 0) (h := Int32.ofNat N - 1) (d := 19) (by decide)
  rw [show (0 : Int32).toInt = 0 from rfl, hN1] at q1
  have dA : Decidable (tgOk a) := Classical.propDecidable _
  have dB : Decidable (tgOk b) := Classical.propDecidable _
  obtain ⟨K2, q2⟩ := xtg_run hT hM (a := a) (d := 19) (by decide)
  obtain ⟨K3, q3⟩ := xtg_run hT hM (a := b) (d := 19) (by decide)
  have go : mEv none 20 (140, 0, lv_args 0 [.ref 49, .int i, .int a, .int b], []) M (fun r M' => (∃ x, r = some (.int x) ∧ (spOk N i a b → x = bcF (g 41 i.toInt.toNat ||| hBit a.toInt.toNat b.toInt.toNat)) ∧ (¬ spOk N i a b → x = -1000000001)) ∧ yTy M' ∧ (spOk N i a b → rdI M' = up2 g 41 i.toInt.toNat (g 41 i.toInt.toNat ||| hBit a.toInt.toNat b.toInt.toNat)) ∧ (¬ spOk N i a b → rdI M' = g)) := by
    by_cases c1 : 0 ≤ i.toInt ∧ i.toInt ≤ (N : Int) - 1
    · rw [gB_t c1] at q1
      by_cases c2 : tgOk a
      · rw [gB_t c2] at q2
        by_cases c3 : tgOk b
        · rw [gB_t c3] at q3
          by_cases c4 : a = b
          · skip
            refine e_then (e_il1 hT (y := 140) (pc := 0) (q := (yX7_addTwo, cX7_addTwo, 4, (some .int), 7)) rfl (show aTab 140 0 = some (.iload_n 1, 1, 0, 0, 0, 0, 0, 0) from rfl) rfl rfl) ?_
            refine e_then (e_st hT (y := 140) (pc := 1) (q := (yX7_addTwo, cX7_addTwo, 4, (some .int), 7)) rfl (show aTab 140 1 = some (.iconst 0, 1, 0, 0, 0, 0, 0, 0) from rfl) (fr' := (140, 2, (lv_args 0 [.ref 49, .int i, .int a, .int b]), [.int 0, .int i])) (M' := M) rfl) ?_
            refine e_then (e_al1 hT (y := 140) (pc := 2) (q := (yX7_addTwo, cX7_addTwo, 4, (some .int), 7)) rfl (show aTab 140 2 = some (.aload_n 0, 1, 0, 0, 0, 0, 0, 0) from rfl) rfl rfl) ?_
            refine e_then (s_getV hT (y := 140) (pc := 3) (q := (yX7_addTwo, cX7_addTwo, 4, (some .int), 7)) rfl (show aTab 140 3 = some (.getfield 21, 3, 0, 7, 0, 0, 0, 0) from rfl) rfl (by decide) hM hg 40 rfl rfl (v := (g 40 0)) rfl) ?_
            refine e_then (e_st hT (y := 140) (pc := 6) (q := (yX7_addTwo, cX7_addTwo, 4, (some .int), 7)) rfl (show aTab 140 6 = some (.iconst 1, 1, 0, 0, 0, 0, 0, 0) from rfl) (fr' := (140, 7, (lv_args 0 [.ref 49, .int i, .int a, .int b]), [.int 1, .int (g 40 0), .int 0, .int i])) (M' := M) rfl) ?_
            refine e_then (e_st hT (y := 140) (pc := 7) (q := (yX7_addTwo, cX7_addTwo, 4, (some .int), 7)) rfl (show aTab 140 7 = some (.isub, 1, 0, 0, 0, 0, 0, 0) from rfl) (fr' := (140, 8, (lv_args 0 [.ref 49, .int i, .int a, .int b]), [.int ((g 40 0) - 1), .int 0, .int i])) (M' := M) rfl) ?_
            rw [hN]
            refine e_then (e_callsN hT (y := 140) (pc := 8) (q := (yX7_addTwo, cX7_addTwo, 4, (some .int), 7)) rfl (show aTab 140 8 = some (.invokestatic 30, 3, 3, 234, 0, 3, 3, 11) from rfl) (Nat.le_of_ble_eq_true rfl) (Nat.le_of_ble_eq_true rfl) (Nat.le_of_ble_eq_true rfl) ⟨by decide, by decide⟩ q1) ?_
            refine e_then (e_ifF hT (y := 140) (pc := 11) (q := (yX7_addTwo, cX7_addTwo, 4, (some .int), 7)) rfl (show aTab 140 11 = some (.ifCond .eq 24, 3, 0, 0, 0, 0, 0, 0) from rfl) rfl (t := 35) rfl (cdF (by show ¬ (1 : Int32).toInt = 0; decide))) ?_
            refine e_then (e_al1 hT (y := 140) (pc := 14) (q := (yX7_addTwo, cX7_addTwo, 4, (some .int), 7)) rfl (show aTab 140 14 = some (.aload_n 0, 1, 0, 0, 0, 0, 0, 0) from rfl) rfl rfl) ?_
            refine e_then (e_il1 hT (y := 140) (pc := 15) (q := (yX7_addTwo, cX7_addTwo, 4, (some .int), 7)) rfl (show aTab 140 15 = some (.iload_n 2, 1, 0, 0, 0, 0, 0, 0) from rfl) rfl rfl) ?_
            refine e_then (e_call hT (y := 140) (pc := 16) (q := (yX7_addTwo, cX7_addTwo, 4, (some .int), 7)) rfl (show aTab 140 16 = some (.invokevirtual 43, 3, 1, 138, 0, 1, 2, 7) from rfl) rfl ⟨by decide, Nat.le_of_ble_eq_true rfl⟩ (ob_at hM (rfl : tTy 40 = some (.inr (7, _)))).choose_spec (Nat.le_of_ble_eq_true rfl) (Nat.le_of_ble_eq_true rfl) ⟨by decide, by decide⟩ q2) ?_
            refine e_then (e_ifF hT (y := 140) (pc := 19) (q := (yX7_addTwo, cX7_addTwo, 4, (some .int), 7)) rfl (show aTab 140 19 = some (.ifCond .eq 16, 3, 0, 0, 0, 0, 0, 0) from rfl) rfl (t := 35) rfl (cdF (by show ¬ (1 : Int32).toInt = 0; decide))) ?_
            refine e_then (e_al1 hT (y := 140) (pc := 22) (q := (yX7_addTwo, cX7_addTwo, 4, (some .int), 7)) rfl (show aTab 140 22 = some (.aload_n 0, 1, 0, 0, 0, 0, 0, 0) from rfl) rfl rfl) ?_
            refine e_then (e_il1 hT (y := 140) (pc := 23) (q := (yX7_addTwo, cX7_addTwo, 4, (some .int), 7)) rfl (show aTab 140 23 = some (.iload_n 3, 1, 0, 0, 0, 0, 0, 0) from rfl) rfl rfl) ?_
            refine e_then (e_call hT (y := 140) (pc := 24) (q := (yX7_addTwo, cX7_addTwo, 4, (some .int), 7)) rfl (show aTab 140 24 = some (.invokevirtual 43, 3, 1, 138, 0, 1, 2, 7) from rfl) rfl ⟨by decide, Nat.le_of_ble_eq_true rfl⟩ (ob_at hM (rfl : tTy 40 = some (.inr (7, _)))).choose_spec (Nat.le_of_ble_eq_true rfl) (Nat.le_of_ble_eq_true rfl) ⟨by decide, by decide⟩ q3) ?_
            refine e_then (e_ifF hT (y := 140) (pc := 27) (q := (yX7_addTwo, cX7_addTwo, 4, (some .int), 7)) rfl (show aTab 140 27 = some (.ifCond .eq 8, 3, 0, 0, 0, 0, 0, 0) from rfl) rfl (t := 35) rfl (cdF (by show ¬ (1 : Int32).toInt = 0; decide))) ?_
            refine e_then (e_il1 hT (y := 140) (pc := 30) (q := (yX7_addTwo, cX7_addTwo, 4, (some .int), 7)) rfl (show aTab 140 30 = some (.iload_n 2, 1, 0, 0, 0, 0, 0, 0) from rfl) rfl rfl) ?_
            refine e_then (e_il1 hT (y := 140) (pc := 31) (q := (yX7_addTwo, cX7_addTwo, 4, (some .int), 7)) rfl (show aTab 140 31 = some (.iload_n 3, 1, 0, 0, 0, 0, 0, 0) from rfl) rfl rfl) ?_
            refine e_then (e_icF hT (y := 140) (pc := 32) (q := (yX7_addTwo, cX7_addTwo, 4, (some .int), 7)) rfl (show aTab 140 32 = some (.if_icmp .ne 6, 3, 0, 0, 0, 0, 0, 0) from rfl) rfl (t := 38) rfl (cdF (by show ¬ ¬ _ = _; rw [c4]; exact fun z => z rfl))) ?_
            refine e_then (e_st hT (y := 140) (pc := 35) (q := (yX7_addTwo, cX7_addTwo, 4, (some .int), 7)) rfl (show aTab 140 35 = some (.ldc 47, 2, 7, 0, (-1000000001), 0, 0, 0) from rfl) (fr' := (140, 37, (lv_args 0 [.ref 49, .int i, .int a, .int b]), [.int (-1000000001)])) (M' := M) rfl) ?_
            exact e_fin (e_iret hT (y := 140) (pc := 37) (q := (yX7_addTwo, cX7_addTwo, 4, (some .int), 7)) rfl (show aTab 140 37 = some (.ireturn, 1, 0, 0, 0, 0, 0, 0) from rfl) ⟨rfl, rfl⟩) ⟨⟨_, rfl, fun z => absurd z (fun z => z.2.2.2 c4), fun _ => rfl⟩, hM, fun z => absurd z (fun z => z.2.2.2 c4), fun _ => hg⟩
          · obtain ⟨ii, hi⟩ : ∃ n : Nat, (n : Int) = i.toInt := ⟨i.toInt.toNat, by omega⟩
            obtain ⟨aa, ha⟩ : ∃ n : Nat, (n : Int) = a.toInt := ⟨a.toInt.toNat, by have := c2.1; omega⟩
            obtain ⟨bb, hb⟩ : ∃ n : Nat, (n : Int) = b.toInt := ⟨b.toInt.toNat, by have := c3.1; omega⟩
            have c2' := c2.2
            have c3' := c3.2
            have ha' : a = Int32.ofNat aa := i32eq (by rw [i32n (by omega)]; omega)
            have hb' : b = Int32.ofNat bb := i32eq (by rw [i32n (by omega)]; omega)
            rw [show i.toInt.toNat = ii by omega, show a.toInt.toNat = aa by omega, show b.toInt.toNat = bb by omega]
            obtain ⟨K4, q4⟩ := xbo_run hT (M := M) (a := aa) (b := bb) (by omega) (by omega) (d := 19) (by decide)
            rw [← ha', ← hb'] at q4
            refine e_then (e_il1 hT (y := 140) (pc := 0) (q := (yX7_addTwo, cX7_addTwo, 4, (some .int), 7)) rfl (show aTab 140 0 = some (.iload_n 1, 1, 0, 0, 0, 0, 0, 0) from rfl) rfl rfl) ?_
            refine e_then (e_st hT (y := 140) (pc := 1) (q := (yX7_addTwo, cX7_addTwo, 4, (some .int), 7)) rfl (show aTab 140 1 = some (.iconst 0, 1, 0, 0, 0, 0, 0, 0) from rfl) (fr' := (140, 2, (lv_args 0 [.ref 49, .int i, .int a, .int b]), [.int 0, .int i])) (M' := M) rfl) ?_
            refine e_then (e_al1 hT (y := 140) (pc := 2) (q := (yX7_addTwo, cX7_addTwo, 4, (some .int), 7)) rfl (show aTab 140 2 = some (.aload_n 0, 1, 0, 0, 0, 0, 0, 0) from rfl) rfl rfl) ?_
            refine e_then (s_getV hT (y := 140) (pc := 3) (q := (yX7_addTwo, cX7_addTwo, 4, (some .int), 7)) rfl (show aTab 140 3 = some (.getfield 21, 3, 0, 7, 0, 0, 0, 0) from rfl) rfl (by decide) hM hg 40 rfl rfl (v := (g 40 0)) rfl) ?_
            refine e_then (e_st hT (y := 140) (pc := 6) (q := (yX7_addTwo, cX7_addTwo, 4, (some .int), 7)) rfl (show aTab 140 6 = some (.iconst 1, 1, 0, 0, 0, 0, 0, 0) from rfl) (fr' := (140, 7, (lv_args 0 [.ref 49, .int i, .int a, .int b]), [.int 1, .int (g 40 0), .int 0, .int i])) (M' := M) rfl) ?_
            refine e_then (e_st hT (y := 140) (pc := 7) (q := (yX7_addTwo, cX7_addTwo, 4, (some .int), 7)) rfl (show aTab 140 7 = some (.isub, 1, 0, 0, 0, 0, 0, 0) from rfl) (fr' := (140, 8, (lv_args 0 [.ref 49, .int i, .int a, .int b]), [.int ((g 40 0) - 1), .int 0, .int i])) (M' := M) rfl) ?_
            rw [hN]
            refine e_then (e_callsN hT (y := 140) (pc := 8) (q := (yX7_addTwo, cX7_addTwo, 4, (some .int), 7)) rfl (show aTab 140 8 = some (.invokestatic 30, 3, 3, 234, 0, 3, 3, 11) from rfl) (Nat.le_of_ble_eq_true rfl) (Nat.le_of_ble_eq_true rfl) (Nat.le_of_ble_eq_true rfl) ⟨by decide, by decide⟩ q1) ?_
            refine e_then (e_ifF hT (y := 140) (pc := 11) (q := (yX7_addTwo, cX7_addTwo, 4, (some .int), 7)) rfl (show aTab 140 11 = some (.ifCond .eq 24, 3, 0, 0, 0, 0, 0, 0) from rfl) rfl (t := 35) rfl (cdF (by show ¬ (1 : Int32).toInt = 0; decide))) ?_
            refine e_then (e_al1 hT (y := 140) (pc := 14) (q := (yX7_addTwo, cX7_addTwo, 4, (some .int), 7)) rfl (show aTab 140 14 = some (.aload_n 0, 1, 0, 0, 0, 0, 0, 0) from rfl) rfl rfl) ?_
            refine e_then (e_il1 hT (y := 140) (pc := 15) (q := (yX7_addTwo, cX7_addTwo, 4, (some .int), 7)) rfl (show aTab 140 15 = some (.iload_n 2, 1, 0, 0, 0, 0, 0, 0) from rfl) rfl rfl) ?_
            refine e_then (e_call hT (y := 140) (pc := 16) (q := (yX7_addTwo, cX7_addTwo, 4, (some .int), 7)) rfl (show aTab 140 16 = some (.invokevirtual 43, 3, 1, 138, 0, 1, 2, 7) from rfl) rfl ⟨by decide, Nat.le_of_ble_eq_true rfl⟩ (ob_at hM (rfl : tTy 40 = some (.inr (7, _)))).choose_spec (Nat.le_of_ble_eq_true rfl) (Nat.le_of_ble_eq_true rfl) ⟨by decide, by decide⟩ q2) ?_
            refine e_then (e_ifF hT (y := 140) (pc := 19) (q := (yX7_addTwo, cX7_addTwo, 4, (some .int), 7)) rfl (show aTab 140 19 = some (.ifCond .eq 16, 3, 0, 0, 0, 0, 0, 0) from rfl) rfl (t := 35) rfl (cdF (by show ¬ (1 : Int32).toInt = 0; decide))) ?_
            refine e_then (e_al1 hT (y := 140) (pc := 22) (q := (yX7_addTwo, cX7_addTwo, 4, (some .int), 7)) rfl (show aTab 140 22 = some (.aload_n 0, 1, 0, 0, 0, 0, 0, 0) from rfl) rfl rfl) ?_
            refine e_then (e_il1 hT (y := 140) (pc := 23) (q := (yX7_addTwo, cX7_addTwo, 4, (some .int), 7)) rfl (show aTab 140 23 = some (.iload_n 3, 1, 0, 0, 0, 0, 0, 0) from rfl) rfl rfl) ?_
            refine e_then (e_call hT (y := 140) (pc := 24) (q := (yX7_addTwo, cX7_addTwo, 4, (some .int), 7)) rfl (show aTab 140 24 = some (.invokevirtual 43, 3, 1, 138, 0, 1, 2, 7) from rfl) rfl ⟨by decide, Nat.le_of_ble_eq_true rfl⟩ (ob_at hM (rfl : tTy 40 = some (.inr (7, _)))).choose_spec (Nat.le_of_ble_eq_true rfl) (Nat.le_of_ble_eq_true rfl) ⟨by decide, by decide⟩ q3) ?_
            refine e_then (e_ifF hT (y := 140) (pc := 27) (q := (yX7_addTwo, cX7_addTwo, 4, (some .int), 7)) rfl (show aTab 140 27 = some (.ifCond .eq 8, 3, 0, 0, 0, 0, 0, 0) from rfl) rfl (t := 35) rfl (cdF (by show ¬ (1 : Int32).toInt = 0; decide))) ?_
            refine e_then (e_il1 hT (y := 140) (pc := 30) (q := (yX7_addTwo, cX7_addTwo, 4, (some .int), 7)) rfl (show aTab 140 30 = some (.iload_n 2, 1, 0, 0, 0, 0, 0, 0) from rfl) rfl rfl) ?_
            refine e_then (e_il1 hT (y := 140) (pc := 31) (q := (yX7_addTwo, cX7_addTwo, 4, (some .int), 7)) rfl (show aTab 140 31 = some (.iload_n 3, 1, 0, 0, 0, 0, 0, 0) from rfl) rfl rfl) ?_
            refine e_then (e_icT hT (y := 140) (pc := 32) (q := (yX7_addTwo, cX7_addTwo, 4, (some .int), 7)) rfl (show aTab 140 32 = some (.if_icmp .ne 6, 3, 0, 0, 0, 0, 0, 0) from rfl) rfl (t := 38) rfl (cdT (by show ¬ _ = _; exact fun z => c4 (Int32.toInt_inj.mp z)))) ?_
            refine e_then (e_al1 hT (y := 140) (pc := 38) (q := (yX7_addTwo, cX7_addTwo, 4, (some .int), 7)) rfl (show aTab 140 38 = some (.aload_n 0, 1, 0, 0, 0, 0, 0, 0) from rfl) rfl rfl) ?_
            refine e_then (e_getR hT (y := 140) (pc := 39) (q := (yX7_addTwo, cX7_addTwo, 4, (some .int), 7)) rfl (show aTab 140 39 = some (.getfield 9, 3, 0, 7, 1, 0, 0, 0) from rfl) rfl (by decide) (by decide) hM rfl rfl) ?_
            refine e_then (e_il1 hT (y := 140) (pc := 42) (q := (yX7_addTwo, cX7_addTwo, 4, (some .int), 7)) rfl (show aTab 140 42 = some (.iload_n 1, 1, 0, 0, 0, 0, 0, 0) from rfl) rfl rfl) ?_
            refine e_then (e_st hT (y := 140) (pc := 43) (q := (yX7_addTwo, cX7_addTwo, 4, (some .int), 7)) rfl (show aTab 140 43 = some (.dup2, 1, 0, 0, 0, 0, 0, 0) from rfl) (fr' := (140, 44, (lv_args 0 [.ref 49, .int i, .int a, .int b]), [.int i, .ref 50, .int i, .ref 50])) (M' := M) rfl) ?_
            refine e_then (s_ald hT (y := 140) (pc := 44) (q := (yX7_addTwo, cX7_addTwo, 4, (some .int), 7)) rfl (show aTab 140 44 = some (.iaload, 1, 0, 0, 0, 0, 0, 0) from rfl) rfl hM hg 41 ii rfl hi.symm (by omega)) ?_
            refine e_then (e_al1 hT (y := 140) (pc := 45) (q := (yX7_addTwo, cX7_addTwo, 4, (some .int), 7)) rfl (show aTab 140 45 = some (.aload_n 0, 1, 0, 0, 0, 0, 0, 0) from rfl) rfl rfl) ?_
            refine e_then (e_il1 hT (y := 140) (pc := 46) (q := (yX7_addTwo, cX7_addTwo, 4, (some .int), 7)) rfl (show aTab 140 46 = some (.iload_n 2, 1, 0, 0, 0, 0, 0, 0) from rfl) rfl rfl) ?_
            refine e_then (e_il1 hT (y := 140) (pc := 47) (q := (yX7_addTwo, cX7_addTwo, 4, (some .int), 7)) rfl (show aTab 140 47 = some (.iload_n 3, 1, 0, 0, 0, 0, 0, 0) from rfl) rfl rfl) ?_
            refine e_then (e_call hT (y := 140) (pc := 48) (q := (yX7_addTwo, cX7_addTwo, 4, (some .int), 7)) rfl (show aTab 140 48 = some (.invokevirtual 48, 3, 1, 139, 0, 2, 4, 7) from rfl) rfl ⟨by decide, Nat.le_of_ble_eq_true rfl⟩ (ob_at hM (rfl : tTy 40 = some (.inr (7, _)))).choose_spec (Nat.le_of_ble_eq_true rfl) (Nat.le_of_ble_eq_true rfl) ⟨by decide, by decide⟩ q4) ?_
            refine e_then (e_st hT (y := 140) (pc := 51) (q := (yX7_addTwo, cX7_addTwo, 4, (some .int), 7)) rfl (show aTab 140 51 = some (.ior, 1, 0, 0, 0, 0, 0, 0) from rfl) (fr' := (140, 52, (lv_args 0 [.ref 49, .int i, .int a, .int b]), [.int ((g 41 ii) ||| (hBit aa bb)), .int i, .ref 50])) (M' := M) rfl) ?_
            obtain ⟨m1, sm1, tm1, em1⟩ := s_ast (sc := none) (d := _) (lv := (lv_args 0 [.ref 49, .int i, .int a, .int b])) (st := []) (z := ((g 41 ii) ||| (hBit aa bb))) (i := i) hT (y := 140) (pc := 52) (q := (yX7_addTwo, cX7_addTwo, 4, (some .int), 7)) rfl (show aTab 140 52 = some (.iastore, 1, 0, 0, 0, 0, 0, 0) from rfl) rfl hM hg 41 ii rfl hi.symm (by omega)
            refine e_then sm1 ?_
            refine e_then (e_al1 hT (y := 140) (pc := 53) (q := (yX7_addTwo, cX7_addTwo, 4, (some .int), 7)) rfl (show aTab 140 53 = some (.aload_n 0, 1, 0, 0, 0, 0, 0, 0) from rfl) rfl rfl) ?_
            refine e_then (e_getR hT (y := 140) (pc := 54) (q := (yX7_addTwo, cX7_addTwo, 4, (some .int), 7)) rfl (show aTab 140 54 = some (.getfield 9, 3, 0, 7, 1, 0, 0, 0) from rfl) rfl (by decide) (by decide) tm1 rfl rfl) ?_
            refine e_then (e_il1 hT (y := 140) (pc := 57) (q := (yX7_addTwo, cX7_addTwo, 4, (some .int), 7)) rfl (show aTab 140 57 = some (.iload_n 1, 1, 0, 0, 0, 0, 0, 0) from rfl) rfl rfl) ?_
            refine e_then (s_aldV hT (y := 140) (pc := 58) (q := (yX7_addTwo, cX7_addTwo, 4, (some .int), 7)) rfl (show aTab 140 58 = some (.iaload, 1, 0, 0, 0, 0, 0, 0) from rfl) rfl tm1 em1 41 ii rfl hi.symm (by omega) (v := ((g 41 ii) ||| (hBit aa bb))) (by rw [up2_eq])) ?_
            obtain ⟨K5, q5⟩ := bc_run hT (M := m1) (x := ((g 41 ii) ||| (hBit aa bb))) (d := 19) (by decide)
            refine e_then (e_calls hT (y := 140) (pc := 59) (q := (yX7_addTwo, cX7_addTwo, 4, (some .int), 7)) rfl (show aTab 140 59 = some (.invokestatic 51, 3, 2, 367, 0, 1, 1, 14) from rfl) (Nat.le_of_ble_eq_true rfl) (Nat.le_of_ble_eq_true rfl) (Nat.le_of_ble_eq_true rfl) ⟨by decide, by decide⟩ q5) ?_
            exact e_fin (e_iret hT (y := 140) (pc := 62) (q := (yX7_addTwo, cX7_addTwo, 4, (some .int), 7)) rfl (show aTab 140 62 = some (.ireturn, 1, 0, 0, 0, 0, 0, 0) from rfl) ⟨rfl, rfl⟩) ⟨⟨_, rfl, fun _ => rfl, fun z => absurd ⟨c1, c2, c3, c4⟩ z⟩, tm1, fun _ => em1, fun z => absurd ⟨c1, c2, c3, c4⟩ z⟩
        · rw [gB_f c3] at q3
          refine e_then (e_il1 hT (y := 140) (pc := 0) (q := (yX7_addTwo, cX7_addTwo, 4, (some .int), 7)) rfl (show aTab 140 0 = some (.iload_n 1, 1, 0, 0, 0, 0, 0, 0) from rfl) rfl rfl) ?_
          refine e_then (e_st hT (y := 140) (pc := 1) (q := (yX7_addTwo, cX7_addTwo, 4, (some .int), 7)) rfl (show aTab 140 1 = some (.iconst 0, 1, 0, 0, 0, 0, 0, 0) from rfl) (fr' := (140, 2, (lv_args 0 [.ref 49, .int i, .int a, .int b]), [.int 0, .int i])) (M' := M) rfl) ?_
          refine e_then (e_al1 hT (y := 140) (pc := 2) (q := (yX7_addTwo, cX7_addTwo, 4, (some .int), 7)) rfl (show aTab 140 2 = some (.aload_n 0, 1, 0, 0, 0, 0, 0, 0) from rfl) rfl rfl) ?_
          refine e_then (s_getV hT (y := 140) (pc := 3) (q := (yX7_addTwo, cX7_addTwo, 4, (some .int), 7)) rfl (show aTab 140 3 = some (.getfield 21, 3, 0, 7, 0, 0, 0, 0) from rfl) rfl (by decide) hM hg 40 rfl rfl (v := (g 40 0)) rfl) ?_
          refine e_then (e_st hT (y := 140) (pc := 6) (q := (yX7_addTwo, cX7_addTwo, 4, (some .int), 7)) rfl (show aTab 140 6 = some (.iconst 1, 1, 0, 0, 0, 0, 0, 0) from rfl) (fr' := (140, 7, (lv_args 0 [.ref 49, .int i, .int a, .int b]), [.int 1, .int (g 40 0), .int 0, .int i])) (M' := M) rfl) ?_
          refine e_then (e_st hT (y := 140) (pc := 7) (q := (yX7_addTwo, cX7_addTwo, 4, (some .int), 7)) rfl (show aTab 140 7 = some (.isub, 1, 0, 0, 0, 0, 0, 0) from rfl) (fr' := (140, 8, (lv_args 0 [.ref 49, .int i, .int a, .int b]), [.int ((g 40 0) - 1), .int 0, .int i])) (M' := M) rfl) ?_
          rw [hN]
          refine e_then (e_callsN hT (y := 140) (pc := 8) (q := (yX7_addTwo, cX7_addTwo, 4, (some .int), 7)) rfl (show aTab 140 8 = some (.invokestatic 30, 3, 3, 234, 0, 3, 3, 11) from rfl) (Nat.le_of_ble_eq_true rfl) (Nat.le_of_ble_eq_true rfl) (Nat.le_of_ble_eq_true rfl) ⟨by decide, by decide⟩ q1) ?_
          refine e_then (e_ifF hT (y := 140) (pc := 11) (q := (yX7_addTwo, cX7_addTwo, 4, (some .int), 7)) rfl (show aTab 140 11 = some (.ifCond .eq 24, 3, 0, 0, 0, 0, 0, 0) from rfl) rfl (t := 35) rfl (cdF (by show ¬ (1 : Int32).toInt = 0; decide))) ?_
          refine e_then (e_al1 hT (y := 140) (pc := 14) (q := (yX7_addTwo, cX7_addTwo, 4, (some .int), 7)) rfl (show aTab 140 14 = some (.aload_n 0, 1, 0, 0, 0, 0, 0, 0) from rfl) rfl rfl) ?_
          refine e_then (e_il1 hT (y := 140) (pc := 15) (q := (yX7_addTwo, cX7_addTwo, 4, (some .int), 7)) rfl (show aTab 140 15 = some (.iload_n 2, 1, 0, 0, 0, 0, 0, 0) from rfl) rfl rfl) ?_
          refine e_then (e_call hT (y := 140) (pc := 16) (q := (yX7_addTwo, cX7_addTwo, 4, (some .int), 7)) rfl (show aTab 140 16 = some (.invokevirtual 43, 3, 1, 138, 0, 1, 2, 7) from rfl) rfl ⟨by decide, Nat.le_of_ble_eq_true rfl⟩ (ob_at hM (rfl : tTy 40 = some (.inr (7, _)))).choose_spec (Nat.le_of_ble_eq_true rfl) (Nat.le_of_ble_eq_true rfl) ⟨by decide, by decide⟩ q2) ?_
          refine e_then (e_ifF hT (y := 140) (pc := 19) (q := (yX7_addTwo, cX7_addTwo, 4, (some .int), 7)) rfl (show aTab 140 19 = some (.ifCond .eq 16, 3, 0, 0, 0, 0, 0, 0) from rfl) rfl (t := 35) rfl (cdF (by show ¬ (1 : Int32).toInt = 0; decide))) ?_
          refine e_then (e_al1 hT (y := 140) (pc := 22) (q := (yX7_addTwo, cX7_addTwo, 4, (some .int), 7)) rfl (show aTab 140 22 = some (.aload_n 0, 1, 0, 0, 0, 0, 0, 0) from rfl) rfl rfl) ?_
          refine e_then (e_il1 hT (y := 140) (pc := 23) (q := (yX7_addTwo, cX7_addTwo, 4, (some .int), 7)) rfl (show aTab 140 23 = some (.iload_n 3, 1, 0, 0, 0, 0, 0, 0) from rfl) rfl rfl) ?_
          refine e_then (e_call hT (y := 140) (pc := 24) (q := (yX7_addTwo, cX7_addTwo, 4, (some .int), 7)) rfl (show aTab 140 24 = some (.invokevirtual 43, 3, 1, 138, 0, 1, 2, 7) from rfl) rfl ⟨by decide, Nat.le_of_ble_eq_true rfl⟩ (ob_at hM (rfl : tTy 40 = some (.inr (7, _)))).choose_spec (Nat.le_of_ble_eq_true rfl) (Nat.le_of_ble_eq_true rfl) ⟨by decide, by decide⟩ q3) ?_
          refine e_then (e_ifT hT (y := 140) (pc := 27) (q := (yX7_addTwo, cX7_addTwo, 4, (some .int), 7)) rfl (show aTab 140 27 = some (.ifCond .eq 8, 3, 0, 0, 0, 0, 0, 0) from rfl) rfl (t := 35) rfl (cdT (by show (0 : Int32).toInt = 0; rfl))) ?_
          refine e_then (e_st hT (y := 140) (pc := 35) (q := (yX7_addTwo, cX7_addTwo, 4, (some .int), 7)) rfl (show aTab 140 35 = some (.ldc 47, 2, 7, 0, (-1000000001), 0, 0, 0) from rfl) (fr' := (140, 37, (lv_args 0 [.ref 49, .int i, .int a, .int b]), [.int (-1000000001)])) (M' := M) rfl) ?_
          exact e_fin (e_iret hT (y := 140) (pc := 37) (q := (yX7_addTwo, cX7_addTwo, 4, (some .int), 7)) rfl (show aTab 140 37 = some (.ireturn, 1, 0, 0, 0, 0, 0, 0) from rfl) ⟨rfl, rfl⟩) ⟨⟨_, rfl, fun z => absurd z (fun z => c3 z.2.2.1), fun _ => rfl⟩, hM, fun z => absurd z (fun z => c3 z.2.2.1), fun _ => hg⟩
      · rw [gB_f c2] at q2
        refine e_then (e_il1 hT (y := 140) (pc := 0) (q := (yX7_addTwo, cX7_addTwo, 4, (some .int), 7)) rfl (show aTab 140 0 = some (.iload_n 1, 1, 0, 0, 0, 0, 0, 0) from rfl) rfl rfl) ?_
        refine e_then (e_st hT (y := 140) (pc := 1) (q := (yX7_addTwo, cX7_addTwo, 4, (some .int), 7)) rfl (show aTab 140 1 = some (.iconst 0, 1, 0, 0, 0, 0, 0, 0) from rfl) (fr' := (140, 2, (lv_args 0 [.ref 49, .int i, .int a, .int b]), [.int 0, .int i])) (M' := M) rfl) ?_
        refine e_then (e_al1 hT (y := 140) (pc := 2) (q := (yX7_addTwo, cX7_addTwo, 4, (some .int), 7)) rfl (show aTab 140 2 = some (.aload_n 0, 1, 0, 0, 0, 0, 0, 0) from rfl) rfl rfl) ?_
        refine e_then (s_getV hT (y := 140) (pc := 3) (q := (yX7_addTwo, cX7_addTwo, 4, (some .int), 7)) rfl (show aTab 140 3 = some (.getfield 21, 3, 0, 7, 0, 0, 0, 0) from rfl) rfl (by decide) hM hg 40 rfl rfl (v := (g 40 0)) rfl) ?_
        refine e_then (e_st hT (y := 140) (pc := 6) (q := (yX7_addTwo, cX7_addTwo, 4, (some .int), 7)) rfl (show aTab 140 6 = some (.iconst 1, 1, 0, 0, 0, 0, 0, 0) from rfl) (fr' := (140, 7, (lv_args 0 [.ref 49, .int i, .int a, .int b]), [.int 1, .int (g 40 0), .int 0, .int i])) (M' := M) rfl) ?_
        refine e_then (e_st hT (y := 140) (pc := 7) (q := (yX7_addTwo, cX7_addTwo, 4, (some .int), 7)) rfl (show aTab 140 7 = some (.isub, 1, 0, 0, 0, 0, 0, 0) from rfl) (fr' := (140, 8, (lv_args 0 [.ref 49, .int i, .int a, .int b]), [.int ((g 40 0) - 1), .int 0, .int i])) (M' := M) rfl) ?_
        rw [hN]
        refine e_then (e_callsN hT (y := 140) (pc := 8) (q := (yX7_addTwo, cX7_addTwo, 4, (some .int), 7)) rfl (show aTab 140 8 = some (.invokestatic 30, 3, 3, 234, 0, 3, 3, 11) from rfl) (Nat.le_of_ble_eq_true rfl) (Nat.le_of_ble_eq_true rfl) (Nat.le_of_ble_eq_true rfl) ⟨by decide, by decide⟩ q1) ?_
        refine e_then (e_ifF hT (y := 140) (pc := 11) (q := (yX7_addTwo, cX7_addTwo, 4, (some .int), 7)) rfl (show aTab 140 11 = some (.ifCond .eq 24, 3, 0, 0, 0, 0, 0, 0) from rfl) rfl (t := 35) rfl (cdF (by show ¬ (1 : Int32).toInt = 0; decide))) ?_
        refine e_then (e_al1 hT (y := 140) (pc := 14) (q := (yX7_addTwo, cX7_addTwo, 4, (some .int), 7)) rfl (show aTab 140 14 = some (.aload_n 0, 1, 0, 0, 0, 0, 0, 0) from rfl) rfl rfl) ?_
        refine e_then (e_il1 hT (y := 140) (pc := 15) (q := (yX7_addTwo, cX7_addTwo, 4, (some .int), 7)) rfl (show aTab 140 15 = some (.iload_n 2, 1, 0, 0, 0, 0, 0, 0) from rfl) rfl rfl) ?_
        refine e_then (e_call hT (y := 140) (pc := 16) (q := (yX7_addTwo, cX7_addTwo, 4, (some .int), 7)) rfl (show aTab 140 16 = some (.invokevirtual 43, 3, 1, 138, 0, 1, 2, 7) from rfl) rfl ⟨by decide, Nat.le_of_ble_eq_true rfl⟩ (ob_at hM (rfl : tTy 40 = some (.inr (7, _)))).choose_spec (Nat.le_of_ble_eq_true rfl) (Nat.le_of_ble_eq_true rfl) ⟨by decide, by decide⟩ q2) ?_
        refine e_then (e_ifT hT (y := 140) (pc := 19) (q := (yX7_addTwo, cX7_addTwo, 4, (some .int), 7)) rfl (show aTab 140 19 = some (.ifCond .eq 16, 3, 0, 0, 0, 0, 0, 0) from rfl) rfl (t := 35) rfl (cdT (by show (0 : Int32).toInt = 0; rfl))) ?_
        refine e_then (e_st hT (y := 140) (pc := 35) (q := (yX7_addTwo, cX7_addTwo, 4, (some .int), 7)) rfl (show aTab 140 35 = some (.ldc 47, 2, 7, 0, (-1000000001), 0, 0, 0) from rfl) (fr' := (140, 37, (lv_args 0 [.ref 49, .int i, .int a, .int b]), [.int (-1000000001)])) (M' := M) rfl) ?_
        exact e_fin (e_iret hT (y := 140) (pc := 37) (q := (yX7_addTwo, cX7_addTwo, 4, (some .int), 7)) rfl (show aTab 140 37 = some (.ireturn, 1, 0, 0, 0, 0, 0, 0) from rfl) ⟨rfl, rfl⟩) ⟨⟨_, rfl, fun z => absurd z (fun z => c2 z.2.1), fun _ => rfl⟩, hM, fun z => absurd z (fun z => c2 z.2.1), fun _ => hg⟩
    · rw [gB_f c1] at q1
      refine e_then (e_il1 hT (y := 140) (pc := 0) (q := (yX7_addTwo, cX7_addTwo, 4, (some .int), 7)) rfl (show aTab 140 0 = some (.iload_n 1, 1, 0, 0, 0, 0, 0, 0) from rfl) rfl rfl) ?_
      refine e_then (e_st hT (y := 140) (pc := 1) (q := (yX7_addTwo, cX7_addTwo, 4, (some .int), 7)) rfl (show aTab 140 1 = some (.iconst 0, 1, 0, 0, 0, 0, 0, 0) from rfl) (fr' := (140, 2, (lv_args 0 [.ref 49, .int i, .int a, .int b]), [.int 0, .int i])) (M' := M) rfl) ?_
      refine e_then (e_al1 hT (y := 140) (pc := 2) (q := (yX7_addTwo, cX7_addTwo, 4, (some .int), 7)) rfl (show aTab 140 2 = some (.aload_n 0, 1, 0, 0, 0, 0, 0, 0) from rfl) rfl rfl) ?_
      refine e_then (s_getV hT (y := 140) (pc := 3) (q := (yX7_addTwo, cX7_addTwo, 4, (some .int), 7)) rfl (show aTab 140 3 = some (.getfield 21, 3, 0, 7, 0, 0, 0, 0) from rfl) rfl (by decide) hM hg 40 rfl rfl (v := (g 40 0)) rfl) ?_
      refine e_then (e_st hT (y := 140) (pc := 6) (q := (yX7_addTwo, cX7_addTwo, 4, (some .int), 7)) rfl (show aTab 140 6 = some (.iconst 1, 1, 0, 0, 0, 0, 0, 0) from rfl) (fr' := (140, 7, (lv_args 0 [.ref 49, .int i, .int a, .int b]), [.int 1, .int (g 40 0), .int 0, .int i])) (M' := M) rfl) ?_
      refine e_then (e_st hT (y := 140) (pc := 7) (q := (yX7_addTwo, cX7_addTwo, 4, (some .int), 7)) rfl (show aTab 140 7 = some (.isub, 1, 0, 0, 0, 0, 0, 0) from rfl) (fr' := (140, 8, (lv_args 0 [.ref 49, .int i, .int a, .int b]), [.int ((g 40 0) - 1), .int 0, .int i])) (M' := M) rfl) ?_
      rw [hN]
      refine e_then (e_callsN hT (y := 140) (pc := 8) (q := (yX7_addTwo, cX7_addTwo, 4, (some .int), 7)) rfl (show aTab 140 8 = some (.invokestatic 30, 3, 3, 234, 0, 3, 3, 11) from rfl) (Nat.le_of_ble_eq_true rfl) (Nat.le_of_ble_eq_true rfl) (Nat.le_of_ble_eq_true rfl) ⟨by decide, by decide⟩ q1) ?_
      refine e_then (e_ifT hT (y := 140) (pc := 11) (q := (yX7_addTwo, cX7_addTwo, 4, (some .int), 7)) rfl (show aTab 140 11 = some (.ifCond .eq 24, 3, 0, 0, 0, 0, 0, 0) from rfl) rfl (t := 35) rfl (cdT (by show (0 : Int32).toInt = 0; rfl))) ?_
      refine e_then (e_st hT (y := 140) (pc := 35) (q := (yX7_addTwo, cX7_addTwo, 4, (some .int), 7)) rfl (show aTab 140 35 = some (.ldc 47, 2, 7, 0, (-1000000001), 0, 0, 0) from rfl) (fr' := (140, 37, (lv_args 0 [.ref 49, .int i, .int a, .int b]), [.int (-1000000001)])) (M' := M) rfl) ?_
      exact e_fin (e_iret hT (y := 140) (pc := 37) (q := (yX7_addTwo, cX7_addTwo, 4, (some .int), 7)) rfl (show aTab 140 37 = some (.ireturn, 1, 0, 0, 0, 0, 0, 0) from rfl) ⟨rfl, rfl⟩) ⟨⟨_, rfl, fun z => absurd z (fun z => c1 z.1), fun _ => rfl⟩, hM, fun z => absurd z (fun z => c1 z.1), fun _ => hg⟩
  obtain ⟨K6, r6, M6, q6, ⟨x, rfl, a6, a7⟩, t6, f6, f7⟩ := go
  have q6 := mRun_dm q6 (show 20 ≤ 29 by decide)
  refine e_then (e_al1 hT (y := 222) (pc := 0) (q := (yX11_speaks, cX11_speaks, 4, (some .int), 11)) rfl (show aTab 222 0 = some (.aload_n 0, 1, 0, 0, 0, 0, 0, 0) from rfl) rfl rfl) ?_
  refine e_then (e_getR hT (y := 222) (pc := 1) (q := (yX11_speaks, cX11_speaks, 4, (some .int), 11)) rfl (show aTab 222 1 = some (.getfield 12, 3, 0, 11, 0, 0, 0, 0) from rfl) rfl (by decide) (by decide) hM rfl rfl) ?_
  refine e_then (e_getR hT (y := 222) (pc := 4) (q := (yX11_speaks, cX11_speaks, 4, (some .int), 11)) rfl (show aTab 222 4 = some (.getfield 220, 3, 0, 1, 8, 0, 0, 0) from rfl) rfl (by decide) (by decide) hM rfl rfl) ?_
  refine e_then (e_il1 hT (y := 222) (pc := 7) (q := (yX11_speaks, cX11_speaks, 4, (some .int), 11)) rfl (show aTab 222 7 = some (.iload_n 1, 1, 0, 0, 0, 0, 0, 0) from rfl) rfl rfl) ?_
  refine e_then (e_il1 hT (y := 222) (pc := 8) (q := (yX11_speaks, cX11_speaks, 4, (some .int), 11)) rfl (show aTab 222 8 = some (.iload_n 2, 1, 0, 0, 0, 0, 0, 0) from rfl) rfl rfl) ?_
  refine e_then (e_il1 hT (y := 222) (pc := 9) (q := (yX11_speaks, cX11_speaks, 4, (some .int), 11)) rfl (show aTab 222 9 = some (.iload_n 3, 1, 0, 0, 0, 0, 0, 0) from rfl) rfl rfl) ?_
  refine e_then (e_call hT (y := 222) (pc := 10) (q := (yX11_speaks, cX11_speaks, 4, (some .int), 11)) rfl (show aTab 222 10 = some (.invokevirtual 228, 3, 1, 140, 0, 3, 4, 7) from rfl) rfl ⟨by decide, Nat.le_of_ble_eq_true rfl⟩ (ob_at hM (rfl : tTy 40 = some (.inr (7, _)))).choose_spec (Nat.le_of_ble_eq_true rfl) (Nat.le_of_ble_eq_true rfl) ⟨by decide, by decide⟩ q6) ?_
  exact e_fin (e_iret hT (y := 222) (pc := 13) (q := (yX11_speaks, cX11_speaks, 4, (some .int), 11)) rfl (show aTab 222 13 = some (.ireturn, 1, 0, 0, 0, 0, 0, 0) from rfl) ⟨rfl, rfl⟩) ⟨⟨_, rfl, a6, a7⟩, t6, f6, f7⟩
def smF (f : Nat → Int32) : Nat → Int32
  | 0 => 0
  | k + 1 => smF f k + f k
theorem rsk_loop (hT : aTabOk) {M : mHe} (hM : yTy M) {row : Int32} {R : Nat} (hr : row.toInt = (R : Int)) (hR : 3440 ≤ R ∧ R + 49 ≤ 3734) : ∀ (j k : Nat) (lv : List (Nat × Value)), k + j = 49 → mlg 0 lv = some (.ref 128) → mlg 4 lv = some (.int row) → mlg 5 lv = some (.int (smF (fun t => rdI M 120 (R + t)) k)) → mlg 6 lv = some (.int (Int32.ofNat k)) → mEv none 20 (342, 87, lv, []) M (fun r M' => r = some (.int (smF (fun t => rdI M 120 (R + t)) 49 / 2)) ∧ M' = M) := by
  have e49 : (49 : Int32).toInt = 49 := rfl
  intro j
  induction j with
  | zero =>
    intro k lv hj h0 h4 h5 h6
    have hj : k = 49 := by omega
    subst hj
    refine e_then (e_il2 hT (y := 342) (pc := 87) (q := (yX12_speaks, cX12_speaks, 7, (some .int), 12)) rfl (show aTab 342 87 = some (.iload 6, 2, 0, 0, 0, 0, 0, 0) from rfl) rfl h6) ?_
    refine e_then (e_st hT (y := 342) (pc := 89) (q := (yX12_speaks, cX12_speaks, 7, (some .int), 12)) rfl (show aTab 342 89 = some (.bipush 49, 2, 0, 0, 0, 0, 0, 0) from rfl) (fr' := (342, 91, lv, [.int 49, .int (Int32.ofNat 49)])) (M' := M) rfl) ?_
    refine e_then (e_icT hT (y := 342) (pc := 91) (q := (yX12_speaks, cX12_speaks, 7, (some .int), 12)) rfl (show aTab 342 91 = some (.if_icmp .ge 24, 3, 0, 0, 0, 0, 0, 0) from rfl) rfl (t := 115) rfl (cdT (by show (49 : Int32).toInt ≤ (Int32.ofNat 49).toInt; decide))) ?_
    refine e_then (e_il2 hT (y := 342) (pc := 115) (q := (yX12_speaks, cX12_speaks, 7, (some .int), 12)) rfl (show aTab 342 115 = some (.iload 5, 2, 0, 0, 0, 0, 0, 0) from rfl) rfl h5) ?_
    refine e_then (e_st hT (y := 342) (pc := 117) (q := (yX12_speaks, cX12_speaks, 7, (some .int), 12)) rfl (show aTab 342 117 = some (.iconst 2, 1, 0, 0, 0, 0, 0, 0) from rfl) (fr' := (342, 118, lv, [.int 2, .int (smF (fun t => rdI M 120 (R + t)) 49)])) (M' := M) rfl) ?_
    refine e_then (e_st hT (y := 342) (pc := 118) (q := (yX12_speaks, cX12_speaks, 7, (some .int), 12)) rfl (show aTab 342 118 = some (.idiv, 1, 0, 0, 0, 0, 0, 0) from rfl) (fr' := (342, 119, lv, [.int (smF (fun t => rdI M 120 (R + t)) 49 / 2)])) (M' := M) rfl) ?_
    exact e_fin (e_iret hT (y := 342) (pc := 119) (q := (yX12_speaks, cX12_speaks, 7, (some .int), 12)) rfl (show aTab 342 119 = some (.ireturn, 1, 0, 0, 0, 0, 0, 0) from rfl) ⟨rfl, rfl⟩) ⟨rfl, rfl⟩
  | succ j ih =>
    intro k lv hj h0 h4 h5 h6
    have ek := i32n (k := k) (by omega)
    have er : (row + Int32.ofNat k).toInt = ((R + k : Nat) : Int) := by rw [i32_add (by omega) (by omega), hr, ek]; omega
    refine e_then (e_il2 hT (y := 342) (pc := 87) (q := (yX12_speaks, cX12_speaks, 7, (some .int), 12)) rfl (show aTab 342 87 = some (.iload 6, 2, 0, 0, 0, 0, 0, 0) from rfl) rfl h6) ?_
    refine e_then (e_st hT (y := 342) (pc := 89) (q := (yX12_speaks, cX12_speaks, 7, (some .int), 12)) rfl (show aTab 342 89 = some (.bipush 49, 2, 0, 0, 0, 0, 0, 0) from rfl) (fr' := (342, 91, lv, [.int 49, .int (Int32.ofNat k)])) (M' := M) rfl) ?_
    refine e_then (e_icF hT (y := 342) (pc := 91) (q := (yX12_speaks, cX12_speaks, 7, (some .int), 12)) rfl (show aTab 342 91 = some (.if_icmp .ge 24, 3, 0, 0, 0, 0, 0, 0) from rfl) rfl (t := 115) rfl (cdF (by show ¬ _ ≤ _; omega))) ?_
    refine e_then (e_il2 hT (y := 342) (pc := 94) (q := (yX12_speaks, cX12_speaks, 7, (some .int), 12)) rfl (show aTab 342 94 = some (.iload 5, 2, 0, 0, 0, 0, 0, 0) from rfl) rfl h5) ?_
    refine e_then (e_al1 hT (y := 342) (pc := 96) (q := (yX12_speaks, cX12_speaks, 7, (some .int), 12)) rfl (show aTab 342 96 = some (.aload_n 0, 1, 0, 0, 0, 0, 0, 0) from rfl) rfl h0) ?_
    refine e_then (e_getR hT (y := 342) (pc := 97) (q := (yX12_speaks, cX12_speaks, 7, (some .int), 12)) rfl (show aTab 342 97 = some (.getfield 7, 3, 0, 12, 0, 0, 0, 0) from rfl) rfl (by decide) (by decide) hM rfl rfl) ?_
    refine e_then (e_il2 hT (y := 342) (pc := 100) (q := (yX12_speaks, cX12_speaks, 7, (some .int), 12)) rfl (show aTab 342 100 = some (.iload 4, 2, 0, 0, 0, 0, 0, 0) from rfl) rfl h4) ?_
    refine e_then (e_il2 hT (y := 342) (pc := 102) (q := (yX12_speaks, cX12_speaks, 7, (some .int), 12)) rfl (show aTab 342 102 = some (.iload 6, 2, 0, 0, 0, 0, 0, 0) from rfl) rfl h6) ?_
    refine e_then (e_st hT (y := 342) (pc := 104) (q := (yX12_speaks, cX12_speaks, 7, (some .int), 12)) rfl (show aTab 342 104 = some (.iadd, 1, 0, 0, 0, 0, 0, 0) from rfl) (fr' := (342, 105, lv, [.int (row + (Int32.ofNat k)), .ref 129, .int (smF (fun t => rdI M 120 (R + t)) k)])) (M' := M) rfl) ?_
    refine e_then (s_ald hT (y := 342) (pc := 105) (q := (yX12_speaks, cX12_speaks, 7, (some .int), 12)) rfl (show aTab 342 105 = some (.iaload, 1, 0, 0, 0, 0, 0, 0) from rfl) rfl hM rfl 120 (R + k) rfl er (by omega)) ?_
    refine e_then (e_st hT (y := 342) (pc := 106) (q := (yX12_speaks, cX12_speaks, 7, (some .int), 12)) rfl (show aTab 342 106 = some (.iadd, 1, 0, 0, 0, 0, 0, 0) from rfl) (fr' := (342, 107, lv, [.int ((smF (fun t => rdI M 120 (R + t)) k) + ((rdI M) 120 (R + k)))])) (M' := M) rfl) ?_
    refine e_then (e_is2 hT (y := 342) (pc := 107) (q := (yX12_speaks, cX12_speaks, 7, (some .int), 12)) rfl (show aTab 342 107 = some (.istore 5, 2, 0, 0, 0, 0, 0, 0) from rfl) ⟨rfl, by decide⟩) ?_
    refine e_then (e_ii hT (y := 342) (pc := 109) (q := (yX12_speaks, cX12_speaks, 7, (some .int), 12)) rfl (show aTab 342 109 = some (.iinc 6 1, 3, 0, 0, 0, 0, 0, 0) from rfl) ⟨rfl, by decide⟩ (mlg_i h6 (by decide))) ?_
    refine e_then (e_st hT (y := 342) (pc := 112) (q := (yX12_speaks, cX12_speaks, 7, (some .int), 12)) rfl (show aTab 342 112 = some (.goto (-25), 3, 0, 0, 0, 0, 0, 0) from rfl) (fr' := (342, 87, (mlp 6 (.int ((Int32.ofNat k) + Int32.ofInt 1)) (mlp 5 (.int ((smF (fun t => rdI M 120 (R + t)) k) + ((rdI M) 120 (R + k)))) lv)), [])) (M' := M) rfl) ?_
    rw [os1 (by omega)]
    exact ih (k + 1) _ (by omega) (mlg_r (mlg_r h0 (by decide)) (by decide)) (mlg_i (mlg_i h4 (by decide)) (by decide)) (mlg_i (mlg_eq 5 _ _) (by decide)) (mlg_eq 6 _ _)
theorem rsk_run (hT : aTabOk) {M : mHe} (hM : yTy M) {g : Nat → Nat → Int32} (hg : rdI M = g) {N : Nat} (hN : g 120 9 = Int32.ofNat N) (hN6 : N ≤ 6) {i a b : Int32} : mEv none 20 (342, 0, lv_args 0 [.ref 128, .int i, .int a, .int b], []) M (fun r M' => (∃ x, r = some (.int x) ∧ (spOk N i a b → x = smF (fun t => (up2 (up2 g 120 (3440 + 49 * i.toInt.toNat + 7 * a.toInt.toNat + b.toInt.toNat) 1) 120 (3440 + 49 * i.toInt.toNat + 7 * b.toInt.toNat + a.toInt.toNat) 1) 120 (3440 + 49 * i.toInt.toNat + t)) 49 / 2) ∧ (¬ spOk N i a b → x = -1000000001)) ∧ yTy M' ∧ (spOk N i a b → rdI M' = up2 (up2 g 120 (3440 + 49 * i.toInt.toNat + 7 * a.toInt.toNat + b.toInt.toNat) 1) 120 (3440 + 49 * i.toInt.toNat + 7 * b.toInt.toNat + a.toInt.toNat) 1) ∧ (¬ spOk N i a b → rdI M' = g)) := by
  have eN := i32n (k := N) (by omega)
  have e1 : (1 : Int32).toInt = 1 := rfl
  have hN1 : (Int32.ofNat N - 1).toInt = (N : Int) - 1 := by rw [i32_sub (by omega) (by omega), eN, e1]
  obtain ⟨K1, q1⟩ := isIn_i hT (M := M) (v := i) (l := Int64.ofNat 0) (h := (Int32.ofNat N - 1).toInt64) (d := 19) (by decide)
  rw [show (Int64.ofNat 0).toInt = 0 from rfl, Int32.toInt_toInt64, hN1] at q1
  have dA : Decidable (tgOk a) := Classical.propDecidable _
  have dB : Decidable (tgOk b) := Classical.propDecidable _
  obtain ⟨K2, q2⟩ := rtg_run hT (M := M) (a := a) (d := 19) (by decide)
  obtain ⟨K3, q3⟩ := rtg_run hT (M := M) (a := b) (d := 19) (by decide)
  by_cases c1 : 0 ≤ i.toInt ∧ i.toInt ≤ (N : Int) - 1
  · rw [gB_t c1] at q1
    by_cases c2 : tgOk a
    · rw [gB_t c2] at q2
      by_cases c3 : tgOk b
      · rw [gB_t c3] at q3
        by_cases c4 : a = b
        · skip
          refine e_then (e_il1 hT (y := 342) (pc := 0) (q := (yX12_speaks, cX12_speaks, 7, (some .int), 12)) rfl (show aTab 342 0 = some (.iload_n 1, 1, 0, 0, 0, 0, 0, 0) from rfl) rfl rfl) ?_
          refine e_then (e_st hT (y := 342) (pc := 1) (q := (yX12_speaks, cX12_speaks, 7, (some .int), 12)) rfl (show aTab 342 1 = some (.i2l, 1, 0, 0, 0, 0, 0, 0) from rfl) (fr' := (342, 2, (lv_args 0 [.ref 128, .int i, .int a, .int b]), [.long (i).toInt64])) (M' := M) rfl) ?_
          refine e_then (e_st hT (y := 342) (pc := 2) (q := (yX12_speaks, cX12_speaks, 7, (some .int), 12)) rfl (show aTab 342 2 = some (.lconst 0, 1, 0, 0, 0, 0, 0, 0) from rfl) (fr' := (342, 3, (lv_args 0 [.ref 128, .int i, .int a, .int b]), [.long (Int64.ofNat 0), .long (i).toInt64])) (M' := M) rfl) ?_
          refine e_then (e_al1 hT (y := 342) (pc := 3) (q := (yX12_speaks, cX12_speaks, 7, (some .int), 12)) rfl (show aTab 342 3 = some (.aload_n 0, 1, 0, 0, 0, 0, 0, 0) from rfl) rfl rfl) ?_
          refine e_then (e_getR hT (y := 342) (pc := 4) (q := (yX12_speaks, cX12_speaks, 7, (some .int), 12)) rfl (show aTab 342 4 = some (.getfield 7, 3, 0, 12, 0, 0, 0, 0) from rfl) rfl (by decide) (by decide) hM rfl rfl) ?_
          refine e_then (e_st hT (y := 342) (pc := 7) (q := (yX12_speaks, cX12_speaks, 7, (some .int), 12)) rfl (show aTab 342 7 = some (.bipush 9, 2, 0, 0, 0, 0, 0, 0) from rfl) (fr' := (342, 9, (lv_args 0 [.ref 128, .int i, .int a, .int b]), [.int 9, .ref 129, .long (Int64.ofNat 0), .long (i).toInt64])) (M' := M) rfl) ?_
          refine e_then (s_ald hT (y := 342) (pc := 9) (q := (yX12_speaks, cX12_speaks, 7, (some .int), 12)) rfl (show aTab 342 9 = some (.iaload, 1, 0, 0, 0, 0, 0, 0) from rfl) rfl hM hg 120 9 rfl rfl (by decide)) ?_
          rw [hN]
          refine e_then (e_st hT (y := 342) (pc := 10) (q := (yX12_speaks, cX12_speaks, 7, (some .int), 12)) rfl (show aTab 342 10 = some (.iconst 1, 1, 0, 0, 0, 0, 0, 0) from rfl) (fr' := (342, 11, (lv_args 0 [.ref 128, .int i, .int a, .int b]), [.int 1, .int (Int32.ofNat N), .long (Int64.ofNat 0), .long (i).toInt64])) (M' := M) rfl) ?_
          refine e_then (e_st hT (y := 342) (pc := 11) (q := (yX12_speaks, cX12_speaks, 7, (some .int), 12)) rfl (show aTab 342 11 = some (.isub, 1, 0, 0, 0, 0, 0, 0) from rfl) (fr' := (342, 12, (lv_args 0 [.ref 128, .int i, .int a, .int b]), [.int ((Int32.ofNat N) - 1), .long (Int64.ofNat 0), .long (i).toInt64])) (M' := M) rfl) ?_
          refine e_then (e_st hT (y := 342) (pc := 12) (q := (yX12_speaks, cX12_speaks, 7, (some .int), 12)) rfl (show aTab 342 12 = some (.i2l, 1, 0, 0, 0, 0, 0, 0) from rfl) (fr' := (342, 13, (lv_args 0 [.ref 128, .int i, .int a, .int b]), [.long (((Int32.ofNat N) - 1)).toInt64, .long (Int64.ofNat 0), .long (i).toInt64])) (M' := M) rfl) ?_
          refine e_then (e_calls hT (y := 342) (pc := 13) (q := (yX12_speaks, cX12_speaks, 7, (some .int), 12)) rfl (show aTab 342 13 = some (.invokestatic 65, 3, 2, 239, 0, 3, 6, 12) from rfl) (Nat.le_of_ble_eq_true rfl) (Nat.le_of_ble_eq_true rfl) (Nat.le_of_ble_eq_true rfl) ⟨by decide, by decide⟩ q1) ?_
          refine e_then (e_ifF hT (y := 342) (pc := 16) (q := (yX12_speaks, cX12_speaks, 7, (some .int), 12)) rfl (show aTab 342 16 = some (.ifCond .eq 22, 3, 0, 0, 0, 0, 0, 0) from rfl) rfl (t := 38) rfl (cdF (by show ¬ (1 : Int32).toInt = 0; decide))) ?_
          refine e_then (e_il1 hT (y := 342) (pc := 19) (q := (yX12_speaks, cX12_speaks, 7, (some .int), 12)) rfl (show aTab 342 19 = some (.iload_n 2, 1, 0, 0, 0, 0, 0, 0) from rfl) rfl rfl) ?_
          refine e_then (e_calls hT (y := 342) (pc := 20) (q := (yX12_speaks, cX12_speaks, 7, (some .int), 12)) rfl (show aTab 342 20 = some (.invokestatic 157, 3, 2, 252, 0, 1, 1, 12) from rfl) (Nat.le_of_ble_eq_true rfl) (Nat.le_of_ble_eq_true rfl) (Nat.le_of_ble_eq_true rfl) ⟨by decide, by decide⟩ q2) ?_
          refine e_then (e_ifF hT (y := 342) (pc := 23) (q := (yX12_speaks, cX12_speaks, 7, (some .int), 12)) rfl (show aTab 342 23 = some (.ifCond .eq 15, 3, 0, 0, 0, 0, 0, 0) from rfl) rfl (t := 38) rfl (cdF (by show ¬ (1 : Int32).toInt = 0; decide))) ?_
          refine e_then (e_il1 hT (y := 342) (pc := 26) (q := (yX12_speaks, cX12_speaks, 7, (some .int), 12)) rfl (show aTab 342 26 = some (.iload_n 3, 1, 0, 0, 0, 0, 0, 0) from rfl) rfl rfl) ?_
          refine e_then (e_calls hT (y := 342) (pc := 27) (q := (yX12_speaks, cX12_speaks, 7, (some .int), 12)) rfl (show aTab 342 27 = some (.invokestatic 157, 3, 2, 252, 0, 1, 1, 12) from rfl) (Nat.le_of_ble_eq_true rfl) (Nat.le_of_ble_eq_true rfl) (Nat.le_of_ble_eq_true rfl) ⟨by decide, by decide⟩ q3) ?_
          refine e_then (e_ifF hT (y := 342) (pc := 30) (q := (yX12_speaks, cX12_speaks, 7, (some .int), 12)) rfl (show aTab 342 30 = some (.ifCond .eq 8, 3, 0, 0, 0, 0, 0, 0) from rfl) rfl (t := 38) rfl (cdF (by show ¬ (1 : Int32).toInt = 0; decide))) ?_
          refine e_then (e_il1 hT (y := 342) (pc := 33) (q := (yX12_speaks, cX12_speaks, 7, (some .int), 12)) rfl (show aTab 342 33 = some (.iload_n 2, 1, 0, 0, 0, 0, 0, 0) from rfl) rfl rfl) ?_
          refine e_then (e_il1 hT (y := 342) (pc := 34) (q := (yX12_speaks, cX12_speaks, 7, (some .int), 12)) rfl (show aTab 342 34 = some (.iload_n 3, 1, 0, 0, 0, 0, 0, 0) from rfl) rfl rfl) ?_
          refine e_then (e_icF hT (y := 342) (pc := 35) (q := (yX12_speaks, cX12_speaks, 7, (some .int), 12)) rfl (show aTab 342 35 = some (.if_icmp .ne 6, 3, 0, 0, 0, 0, 0, 0) from rfl) rfl (t := 41) rfl (cdF (by show ¬ ¬ _ = _; rw [c4]; exact fun z => z rfl))) ?_
          refine e_then (e_st hT (y := 342) (pc := 38) (q := (yX12_speaks, cX12_speaks, 7, (some .int), 12)) rfl (show aTab 342 38 = some (.ldc 89, 2, 7, 0, (-1000000001), 0, 0, 0) from rfl) (fr' := (342, 40, (lv_args 0 [.ref 128, .int i, .int a, .int b]), [.int (-1000000001)])) (M' := M) rfl) ?_
          exact e_fin (e_iret hT (y := 342) (pc := 40) (q := (yX12_speaks, cX12_speaks, 7, (some .int), 12)) rfl (show aTab 342 40 = some (.ireturn, 1, 0, 0, 0, 0, 0, 0) from rfl) ⟨rfl, rfl⟩) ⟨⟨_, rfl, fun z => absurd z (fun z => z.2.2.2 c4), fun _ => rfl⟩, hM, fun z => absurd z (fun z => z.2.2.2 c4), fun _ => hg⟩
        · obtain ⟨ii, hi⟩ : ∃ n : Nat, (n : Int) = i.toInt := ⟨i.toInt.toNat, by omega⟩
          obtain ⟨aa, ha⟩ : ∃ n : Nat, (n : Int) = a.toInt := ⟨a.toInt.toNat, by have := c2.1; omega⟩
          obtain ⟨bb, hb⟩ : ∃ n : Nat, (n : Int) = b.toInt := ⟨b.toInt.toNat, by have := c3.1; omega⟩
          have c2' := c2.2
          have c3' := c3.2
          rw [show i.toInt.toNat = ii by omega, show a.toInt.toNat = aa by omega, show b.toInt.toNat = bb by omega]
          have hi' : i = Int32.ofNat ii := i32eq (by rw [i32n (by omega)]; omega)
          have ha' : a = Int32.ofNat aa := i32eq (by rw [i32n (by omega)]; omega)
          have hb' : b = Int32.ofNat bb := i32eq (by rw [i32n (by omega)]; omega)
          have x1 := rix3 (w := ii) (a := aa) (b := bb) (by omega) (by omega) (by omega)
          have x2 := rix3 (w := ii) (a := bb) (b := aa) (by omega) (by omega) (by omega)
          rw [← hi', ← ha', ← hb'] at x1 x2
          refine e_then (e_il1 hT (y := 342) (pc := 0) (q := (yX12_speaks, cX12_speaks, 7, (some .int), 12)) rfl (show aTab 342 0 = some (.iload_n 1, 1, 0, 0, 0, 0, 0, 0) from rfl) rfl rfl) ?_
          refine e_then (e_st hT (y := 342) (pc := 1) (q := (yX12_speaks, cX12_speaks, 7, (some .int), 12)) rfl (show aTab 342 1 = some (.i2l, 1, 0, 0, 0, 0, 0, 0) from rfl) (fr' := (342, 2, (lv_args 0 [.ref 128, .int i, .int a, .int b]), [.long (i).toInt64])) (M' := M) rfl) ?_
          refine e_then (e_st hT (y := 342) (pc := 2) (q := (yX12_speaks, cX12_speaks, 7, (some .int), 12)) rfl (show aTab 342 2 = some (.lconst 0, 1, 0, 0, 0, 0, 0, 0) from rfl) (fr' := (342, 3, (lv_args 0 [.ref 128, .int i, .int a, .int b]), [.long (Int64.ofNat 0), .long (i).toInt64])) (M' := M) rfl) ?_
          refine e_then (e_al1 hT (y := 342) (pc := 3) (q := (yX12_speaks, cX12_speaks, 7, (some .int), 12)) rfl (show aTab 342 3 = some (.aload_n 0, 1, 0, 0, 0, 0, 0, 0) from rfl) rfl rfl) ?_
          refine e_then (e_getR hT (y := 342) (pc := 4) (q := (yX12_speaks, cX12_speaks, 7, (some .int), 12)) rfl (show aTab 342 4 = some (.getfield 7, 3, 0, 12, 0, 0, 0, 0) from rfl) rfl (by decide) (by decide) hM rfl rfl) ?_
          refine e_then (e_st hT (y := 342) (pc := 7) (q := (yX12_speaks, cX12_speaks, 7, (some .int), 12)) rfl (show aTab 342 7 = some (.bipush 9, 2, 0, 0, 0, 0, 0, 0) from rfl) (fr' := (342, 9, (lv_args 0 [.ref 128, .int i, .int a, .int b]), [.int 9, .ref 129, .long (Int64.ofNat 0), .long (i).toInt64])) (M' := M) rfl) ?_
          refine e_then (s_ald hT (y := 342) (pc := 9) (q := (yX12_speaks, cX12_speaks, 7, (some .int), 12)) rfl (show aTab 342 9 = some (.iaload, 1, 0, 0, 0, 0, 0, 0) from rfl) rfl hM hg 120 9 rfl rfl (by decide)) ?_
          rw [hN]
          refine e_then (e_st hT (y := 342) (pc := 10) (q := (yX12_speaks, cX12_speaks, 7, (some .int), 12)) rfl (show aTab 342 10 = some (.iconst 1, 1, 0, 0, 0, 0, 0, 0) from rfl) (fr' := (342, 11, (lv_args 0 [.ref 128, .int i, .int a, .int b]), [.int 1, .int (Int32.ofNat N), .long (Int64.ofNat 0), .long (i).toInt64])) (M' := M) rfl) ?_
          refine e_then (e_st hT (y := 342) (pc := 11) (q := (yX12_speaks, cX12_speaks, 7, (some .int), 12)) rfl (show aTab 342 11 = some (.isub, 1, 0, 0, 0, 0, 0, 0) from rfl) (fr' := (342, 12, (lv_args 0 [.ref 128, .int i, .int a, .int b]), [.int ((Int32.ofNat N) - 1), .long (Int64.ofNat 0), .long (i).toInt64])) (M' := M) rfl) ?_
          refine e_then (e_st hT (y := 342) (pc := 12) (q := (yX12_speaks, cX12_speaks, 7, (some .int), 12)) rfl (show aTab 342 12 = some (.i2l, 1, 0, 0, 0, 0, 0, 0) from rfl) (fr' := (342, 13, (lv_args 0 [.ref 128, .int i, .int a, .int b]), [.long (((Int32.ofNat N) - 1)).toInt64, .long (Int64.ofNat 0), .long (i).toInt64])) (M' := M) rfl) ?_
          refine e_then (e_calls hT (y := 342) (pc := 13) (q := (yX12_speaks, cX12_speaks, 7, (some .int), 12)) rfl (show aTab 342 13 = some (.invokestatic 65, 3, 2, 239, 0, 3, 6, 12) from rfl) (Nat.le_of_ble_eq_true rfl) (Nat.le_of_ble_eq_true rfl) (Nat.le_of_ble_eq_true rfl) ⟨by decide, by decide⟩ q1) ?_
          refine e_then (e_ifF hT (y := 342) (pc := 16) (q := (yX12_speaks, cX12_speaks, 7, (some .int), 12)) rfl (show aTab 342 16 = some (.ifCond .eq 22, 3, 0, 0, 0, 0, 0, 0) from rfl) rfl (t := 38) rfl (cdF (by show ¬ (1 : Int32).toInt = 0; decide))) ?_
          refine e_then (e_il1 hT (y := 342) (pc := 19) (q := (yX12_speaks, cX12_speaks, 7, (some .int), 12)) rfl (show aTab 342 19 = some (.iload_n 2, 1, 0, 0, 0, 0, 0, 0) from rfl) rfl rfl) ?_
          refine e_then (e_calls hT (y := 342) (pc := 20) (q := (yX12_speaks, cX12_speaks, 7, (some .int), 12)) rfl (show aTab 342 20 = some (.invokestatic 157, 3, 2, 252, 0, 1, 1, 12) from rfl) (Nat.le_of_ble_eq_true rfl) (Nat.le_of_ble_eq_true rfl) (Nat.le_of_ble_eq_true rfl) ⟨by decide, by decide⟩ q2) ?_
          refine e_then (e_ifF hT (y := 342) (pc := 23) (q := (yX12_speaks, cX12_speaks, 7, (some .int), 12)) rfl (show aTab 342 23 = some (.ifCond .eq 15, 3, 0, 0, 0, 0, 0, 0) from rfl) rfl (t := 38) rfl (cdF (by show ¬ (1 : Int32).toInt = 0; decide))) ?_
          refine e_then (e_il1 hT (y := 342) (pc := 26) (q := (yX12_speaks, cX12_speaks, 7, (some .int), 12)) rfl (show aTab 342 26 = some (.iload_n 3, 1, 0, 0, 0, 0, 0, 0) from rfl) rfl rfl) ?_
          refine e_then (e_calls hT (y := 342) (pc := 27) (q := (yX12_speaks, cX12_speaks, 7, (some .int), 12)) rfl (show aTab 342 27 = some (.invokestatic 157, 3, 2, 252, 0, 1, 1, 12) from rfl) (Nat.le_of_ble_eq_true rfl) (Nat.le_of_ble_eq_true rfl) (Nat.le_of_ble_eq_true rfl) ⟨by decide, by decide⟩ q3) ?_
          refine e_then (e_ifF hT (y := 342) (pc := 30) (q := (yX12_speaks, cX12_speaks, 7, (some .int), 12)) rfl (show aTab 342 30 = some (.ifCond .eq 8, 3, 0, 0, 0, 0, 0, 0) from rfl) rfl (t := 38) rfl (cdF (by show ¬ (1 : Int32).toInt = 0; decide))) ?_
          refine e_then (e_il1 hT (y := 342) (pc := 33) (q := (yX12_speaks, cX12_speaks, 7, (some .int), 12)) rfl (show aTab 342 33 = some (.iload_n 2, 1, 0, 0, 0, 0, 0, 0) from rfl) rfl rfl) ?_
          refine e_then (e_il1 hT (y := 342) (pc := 34) (q := (yX12_speaks, cX12_speaks, 7, (some .int), 12)) rfl (show aTab 342 34 = some (.iload_n 3, 1, 0, 0, 0, 0, 0, 0) from rfl) rfl rfl) ?_
          refine e_then (e_icT hT (y := 342) (pc := 35) (q := (yX12_speaks, cX12_speaks, 7, (some .int), 12)) rfl (show aTab 342 35 = some (.if_icmp .ne 6, 3, 0, 0, 0, 0, 0, 0) from rfl) rfl (t := 41) rfl (cdT (by show ¬ _ = _; exact fun z => c4 (Int32.toInt_inj.mp z)))) ?_
          refine e_then (e_st hT (y := 342) (pc := 41) (q := (yX12_speaks, cX12_speaks, 7, (some .int), 12)) rfl (show aTab 342 41 = some (.sipush 3440, 3, 0, 0, 0, 0, 0, 0) from rfl) (fr' := (342, 44, (lv_args 0 [.ref 128, .int i, .int a, .int b]), [.int 3440])) (M' := M) rfl) ?_
          refine e_then (e_st hT (y := 342) (pc := 44) (q := (yX12_speaks, cX12_speaks, 7, (some .int), 12)) rfl (show aTab 342 44 = some (.bipush 49, 2, 0, 0, 0, 0, 0, 0) from rfl) (fr' := (342, 46, (lv_args 0 [.ref 128, .int i, .int a, .int b]), [.int 49, .int 3440])) (M' := M) rfl) ?_
          refine e_then (e_il1 hT (y := 342) (pc := 46) (q := (yX12_speaks, cX12_speaks, 7, (some .int), 12)) rfl (show aTab 342 46 = some (.iload_n 1, 1, 0, 0, 0, 0, 0, 0) from rfl) rfl rfl) ?_
          refine e_then (e_st hT (y := 342) (pc := 47) (q := (yX12_speaks, cX12_speaks, 7, (some .int), 12)) rfl (show aTab 342 47 = some (.imul, 1, 0, 0, 0, 0, 0, 0) from rfl) (fr' := (342, 48, (lv_args 0 [.ref 128, .int i, .int a, .int b]), [.int (49 * i), .int 3440])) (M' := M) rfl) ?_
          refine e_then (e_st hT (y := 342) (pc := 48) (q := (yX12_speaks, cX12_speaks, 7, (some .int), 12)) rfl (show aTab 342 48 = some (.iadd, 1, 0, 0, 0, 0, 0, 0) from rfl) (fr' := (342, 49, (lv_args 0 [.ref 128, .int i, .int a, .int b]), [.int (3440 + (49 * i))])) (M' := M) rfl) ?_
          refine e_then (e_is2 hT (y := 342) (pc := 49) (q := (yX12_speaks, cX12_speaks, 7, (some .int), 12)) rfl (show aTab 342 49 = some (.istore 4, 2, 0, 0, 0, 0, 0, 0) from rfl) ⟨rfl, by decide⟩) ?_
          refine e_then (e_al1 hT (y := 342) (pc := 51) (q := (yX12_speaks, cX12_speaks, 7, (some .int), 12)) rfl (show aTab 342 51 = some (.aload_n 0, 1, 0, 0, 0, 0, 0, 0) from rfl) rfl (mlg_r rfl (by decide))) ?_
          refine e_then (e_getR hT (y := 342) (pc := 52) (q := (yX12_speaks, cX12_speaks, 7, (some .int), 12)) rfl (show aTab 342 52 = some (.getfield 7, 3, 0, 12, 0, 0, 0, 0) from rfl) rfl (by decide) (by decide) hM rfl rfl) ?_
          refine e_then (e_il2 hT (y := 342) (pc := 55) (q := (yX12_speaks, cX12_speaks, 7, (some .int), 12)) rfl (show aTab 342 55 = some (.iload 4, 2, 0, 0, 0, 0, 0, 0) from rfl) rfl (mlg_eq 4 _ _)) ?_
          refine e_then (e_st hT (y := 342) (pc := 57) (q := (yX12_speaks, cX12_speaks, 7, (some .int), 12)) rfl (show aTab 342 57 = some (.bipush 7, 2, 0, 0, 0, 0, 0, 0) from rfl) (fr' := (342, 59, (mlp 4 (.int (3440 + (49 * i))) (lv_args 0 [.ref 128, .int i, .int a, .int b])), [.int 7, .int (3440 + (49 * i)), .ref 129])) (M' := M) rfl) ?_
          refine e_then (e_il1 hT (y := 342) (pc := 59) (q := (yX12_speaks, cX12_speaks, 7, (some .int), 12)) rfl (show aTab 342 59 = some (.iload_n 2, 1, 0, 0, 0, 0, 0, 0) from rfl) rfl (mlg_i rfl (by decide))) ?_
          refine e_then (e_st hT (y := 342) (pc := 60) (q := (yX12_speaks, cX12_speaks, 7, (some .int), 12)) rfl (show aTab 342 60 = some (.imul, 1, 0, 0, 0, 0, 0, 0) from rfl) (fr' := (342, 61, (mlp 4 (.int (3440 + (49 * i))) (lv_args 0 [.ref 128, .int i, .int a, .int b])), [.int (7 * a), .int (3440 + (49 * i)), .ref 129])) (M' := M) rfl) ?_
          refine e_then (e_st hT (y := 342) (pc := 61) (q := (yX12_speaks, cX12_speaks, 7, (some .int), 12)) rfl (show aTab 342 61 = some (.iadd, 1, 0, 0, 0, 0, 0, 0) from rfl) (fr' := (342, 62, (mlp 4 (.int (3440 + (49 * i))) (lv_args 0 [.ref 128, .int i, .int a, .int b])), [.int ((3440 + (49 * i)) + (7 * a)), .ref 129])) (M' := M) rfl) ?_
          refine e_then (e_il1 hT (y := 342) (pc := 62) (q := (yX12_speaks, cX12_speaks, 7, (some .int), 12)) rfl (show aTab 342 62 = some (.iload_n 3, 1, 0, 0, 0, 0, 0, 0) from rfl) rfl (mlg_i rfl (by decide))) ?_
          refine e_then (e_st hT (y := 342) (pc := 63) (q := (yX12_speaks, cX12_speaks, 7, (some .int), 12)) rfl (show aTab 342 63 = some (.iadd, 1, 0, 0, 0, 0, 0, 0) from rfl) (fr' := (342, 64, (mlp 4 (.int (3440 + (49 * i))) (lv_args 0 [.ref 128, .int i, .int a, .int b])), [.int (((3440 + (49 * i)) + (7 * a)) + b), .ref 129])) (M' := M) rfl) ?_
          refine e_then (e_st hT (y := 342) (pc := 64) (q := (yX12_speaks, cX12_speaks, 7, (some .int), 12)) rfl (show aTab 342 64 = some (.iconst 1, 1, 0, 0, 0, 0, 0, 0) from rfl) (fr' := (342, 65, (mlp 4 (.int (3440 + (49 * i))) (lv_args 0 [.ref 128, .int i, .int a, .int b])), [.int 1, .int (((3440 + (49 * i)) + (7 * a)) + b), .ref 129])) (M' := M) rfl) ?_
          obtain ⟨m1, sm1, tm1, em1⟩ := s_asb (sc := none) (d := _) (lv := (mlp 4 (.int (3440 + (49 * i))) (lv_args 0 [.ref 128, .int i, .int a, .int b]))) (st := []) (z := 1) (i := (((3440 + (49 * i)) + (7 * a)) + b)) (l := 3440) (h := 3733) (vl := 1) (vh := 1) hT (y := 342) (pc := 65) (q := (yX12_speaks, cX12_speaks, 7, (some .int), 12)) rfl (show aTab 342 65 = some (.iastore, 1, 0, 0, 0, 0, 0, 0) from rfl) rfl hM hg 120 (3440 + 49 * ii + 7 * aa + bb) rfl (by decide +kernel) x1 ⟨by omega, by omega⟩ ⟨by decide, by decide⟩
          refine e_then sm1 ?_
          refine e_then (e_al1 hT (y := 342) (pc := 66) (q := (yX12_speaks, cX12_speaks, 7, (some .int), 12)) rfl (show aTab 342 66 = some (.aload_n 0, 1, 0, 0, 0, 0, 0, 0) from rfl) rfl (mlg_r rfl (by decide))) ?_
          refine e_then (e_getR hT (y := 342) (pc := 67) (q := (yX12_speaks, cX12_speaks, 7, (some .int), 12)) rfl (show aTab 342 67 = some (.getfield 7, 3, 0, 12, 0, 0, 0, 0) from rfl) rfl (by decide) (by decide) tm1 rfl rfl) ?_
          refine e_then (e_il2 hT (y := 342) (pc := 70) (q := (yX12_speaks, cX12_speaks, 7, (some .int), 12)) rfl (show aTab 342 70 = some (.iload 4, 2, 0, 0, 0, 0, 0, 0) from rfl) rfl (mlg_eq 4 _ _)) ?_
          refine e_then (e_st hT (y := 342) (pc := 72) (q := (yX12_speaks, cX12_speaks, 7, (some .int), 12)) rfl (show aTab 342 72 = some (.bipush 7, 2, 0, 0, 0, 0, 0, 0) from rfl) (fr' := (342, 74, (mlp 4 (.int (3440 + (49 * i))) (lv_args 0 [.ref 128, .int i, .int a, .int b])), [.int 7, .int (3440 + (49 * i)), .ref 129])) (M' := m1) rfl) ?_
          refine e_then (e_il1 hT (y := 342) (pc := 74) (q := (yX12_speaks, cX12_speaks, 7, (some .int), 12)) rfl (show aTab 342 74 = some (.iload_n 3, 1, 0, 0, 0, 0, 0, 0) from rfl) rfl (mlg_i rfl (by decide))) ?_
          refine e_then (e_st hT (y := 342) (pc := 75) (q := (yX12_speaks, cX12_speaks, 7, (some .int), 12)) rfl (show aTab 342 75 = some (.imul, 1, 0, 0, 0, 0, 0, 0) from rfl) (fr' := (342, 76, (mlp 4 (.int (3440 + (49 * i))) (lv_args 0 [.ref 128, .int i, .int a, .int b])), [.int (7 * b), .int (3440 + (49 * i)), .ref 129])) (M' := m1) rfl) ?_
          refine e_then (e_st hT (y := 342) (pc := 76) (q := (yX12_speaks, cX12_speaks, 7, (some .int), 12)) rfl (show aTab 342 76 = some (.iadd, 1, 0, 0, 0, 0, 0, 0) from rfl) (fr' := (342, 77, (mlp 4 (.int (3440 + (49 * i))) (lv_args 0 [.ref 128, .int i, .int a, .int b])), [.int ((3440 + (49 * i)) + (7 * b)), .ref 129])) (M' := m1) rfl) ?_
          refine e_then (e_il1 hT (y := 342) (pc := 77) (q := (yX12_speaks, cX12_speaks, 7, (some .int), 12)) rfl (show aTab 342 77 = some (.iload_n 2, 1, 0, 0, 0, 0, 0, 0) from rfl) rfl (mlg_i rfl (by decide))) ?_
          refine e_then (e_st hT (y := 342) (pc := 78) (q := (yX12_speaks, cX12_speaks, 7, (some .int), 12)) rfl (show aTab 342 78 = some (.iadd, 1, 0, 0, 0, 0, 0, 0) from rfl) (fr' := (342, 79, (mlp 4 (.int (3440 + (49 * i))) (lv_args 0 [.ref 128, .int i, .int a, .int b])), [.int (((3440 + (49 * i)) + (7 * b)) + a), .ref 129])) (M' := m1) rfl) ?_
          refine e_then (e_st hT (y := 342) (pc := 79) (q := (yX12_speaks, cX12_speaks, 7, (some .int), 12)) rfl (show aTab 342 79 = some (.iconst 1, 1, 0, 0, 0, 0, 0, 0) from rfl) (fr' := (342, 80, (mlp 4 (.int (3440 + (49 * i))) (lv_args 0 [.ref 128, .int i, .int a, .int b])), [.int 1, .int (((3440 + (49 * i)) + (7 * b)) + a), .ref 129])) (M' := m1) rfl) ?_
          obtain ⟨m2, sm2, tm2, em2⟩ := s_asb (sc := none) (d := _) (lv := (mlp 4 (.int (3440 + (49 * i))) (lv_args 0 [.ref 128, .int i, .int a, .int b]))) (st := []) (z := 1) (i := (((3440 + (49 * i)) + (7 * b)) + a)) (l := 3440) (h := 3733) (vl := 1) (vh := 1) hT (y := 342) (pc := 80) (q := (yX12_speaks, cX12_speaks, 7, (some .int), 12)) rfl (show aTab 342 80 = some (.iastore, 1, 0, 0, 0, 0, 0, 0) from rfl) rfl tm1 em1 120 (3440 + 49 * ii + 7 * bb + aa) rfl (by decide +kernel) x2 ⟨by omega, by omega⟩ ⟨by decide, by decide⟩
          refine e_then sm2 ?_
          refine e_then (e_st hT (y := 342) (pc := 81) (q := (yX12_speaks, cX12_speaks, 7, (some .int), 12)) rfl (show aTab 342 81 = some (.iconst 0, 1, 0, 0, 0, 0, 0, 0) from rfl) (fr' := (342, 82, (mlp 4 (.int (3440 + (49 * i))) (lv_args 0 [.ref 128, .int i, .int a, .int b])), [.int 0])) (M' := m2) rfl) ?_
          refine e_then (e_is2 hT (y := 342) (pc := 82) (q := (yX12_speaks, cX12_speaks, 7, (some .int), 12)) rfl (show aTab 342 82 = some (.istore 5, 2, 0, 0, 0, 0, 0, 0) from rfl) ⟨rfl, by decide⟩) ?_
          refine e_then (e_st hT (y := 342) (pc := 84) (q := (yX12_speaks, cX12_speaks, 7, (some .int), 12)) rfl (show aTab 342 84 = some (.iconst 0, 1, 0, 0, 0, 0, 0, 0) from rfl) (fr' := (342, 85, (mlp 5 (.int 0) (mlp 4 (.int (3440 + (49 * i))) (lv_args 0 [.ref 128, .int i, .int a, .int b]))), [.int 0])) (M' := m2) rfl) ?_
          refine e_then (e_is2 hT (y := 342) (pc := 85) (q := (yX12_speaks, cX12_speaks, 7, (some .int), 12)) rfl (show aTab 342 85 = some (.istore 6, 2, 0, 0, 0, 0, 0, 0) from rfl) ⟨rfl, by decide⟩) ?_
          have er : ((3440 : Int32) + 49 * i).toInt = ((3440 + 49 * ii : Nat) : Int) := by
            have := rix7 (N := ii) (k := 0) (by omega) (by decide)
            rw [← hi', Nat.add_zero] at this
            rw [← this]
            congr 1
            exact (Int32.add_zero _).symm
          obtain ⟨K7, r7, M7, q7, rfl, rfl⟩ := rsk_loop hT tm2 er ⟨by omega, by omega⟩ 49 0 (mlp 6 (.int 0) (mlp 5 (.int 0) (mlp 4 (.int (3440 + (49 * i))) (lv_args 0 [.ref 128, .int i, .int a, .int b])))) (by omega) (mlg_r (mlg_r (mlg_r rfl (by decide)) (by decide)) (by decide)) (mlg_i (mlg_i (mlg_eq 4 _ _) (by decide)) (by decide)) (mlg_i (mlg_eq 5 _ _) (by decide)) (mlg_eq 6 _ _)
          exact ⟨K7, _, _, q7, ⟨_, rfl, fun _ => by rw [em2], fun z => absurd ⟨c1, c2, c3, c4⟩ z⟩, tm2, fun _ => em2, fun z => absurd ⟨c1, c2, c3, c4⟩ z⟩
      · rw [gB_f c3] at q3
        refine e_then (e_il1 hT (y := 342) (pc := 0) (q := (yX12_speaks, cX12_speaks, 7, (some .int), 12)) rfl (show aTab 342 0 = some (.iload_n 1, 1, 0, 0, 0, 0, 0, 0) from rfl) rfl rfl) ?_
        refine e_then (e_st hT (y := 342) (pc := 1) (q := (yX12_speaks, cX12_speaks, 7, (some .int), 12)) rfl (show aTab 342 1 = some (.i2l, 1, 0, 0, 0, 0, 0, 0) from rfl) (fr' := (342, 2, (lv_args 0 [.ref 128, .int i, .int a, .int b]), [.long (i).toInt64])) (M' := M) rfl) ?_
        refine e_then (e_st hT (y := 342) (pc := 2) (q := (yX12_speaks, cX12_speaks, 7, (some .int), 12)) rfl (show aTab 342 2 = some (.lconst 0, 1, 0, 0, 0, 0, 0, 0) from rfl) (fr' := (342, 3, (lv_args 0 [.ref 128, .int i, .int a, .int b]), [.long (Int64.ofNat 0), .long (i).toInt64])) (M' := M) rfl) ?_
        refine e_then (e_al1 hT (y := 342) (pc := 3) (q := (yX12_speaks, cX12_speaks, 7, (some .int), 12)) rfl (show aTab 342 3 = some (.aload_n 0, 1, 0, 0, 0, 0, 0, 0) from rfl) rfl rfl) ?_
        refine e_then (e_getR hT (y := 342) (pc := 4) (q := (yX12_speaks, cX12_speaks, 7, (some .int), 12)) rfl (show aTab 342 4 = some (.getfield 7, 3, 0, 12, 0, 0, 0, 0) from rfl) rfl (by decide) (by decide) hM rfl rfl) ?_
        refine e_then (e_st hT (y := 342) (pc := 7) (q := (yX12_speaks, cX12_speaks, 7, (some .int), 12)) rfl (show aTab 342 7 = some (.bipush 9, 2, 0, 0, 0, 0, 0, 0) from rfl) (fr' := (342, 9, (lv_args 0 [.ref 128, .int i, .int a, .int b]), [.int 9, .ref 129, .long (Int64.ofNat 0), .long (i).toInt64])) (M' := M) rfl) ?_
        refine e_then (s_ald hT (y := 342) (pc := 9) (q := (yX12_speaks, cX12_speaks, 7, (some .int), 12)) rfl (show aTab 342 9 = some (.iaload, 1, 0, 0, 0, 0, 0, 0) from rfl) rfl hM hg 120 9 rfl rfl (by decide)) ?_
        rw [hN]
        refine e_then (e_st hT (y := 342) (pc := 10) (q := (yX12_speaks, cX12_speaks, 7, (some .int), 12)) rfl (show aTab 342 10 = some (.iconst 1, 1, 0, 0, 0, 0, 0, 0) from rfl) (fr' := (342, 11, (lv_args 0 [.ref 128, .int i, .int a, .int b]), [.int 1, .int (Int32.ofNat N), .long (Int64.ofNat 0), .long (i).toInt64])) (M' := M) rfl) ?_
        refine e_then (e_st hT (y := 342) (pc := 11) (q := (yX12_speaks, cX12_speaks, 7, (some .int), 12)) rfl (show aTab 342 11 = some (.isub, 1, 0, 0, 0, 0, 0, 0) from rfl) (fr' := (342, 12, (lv_args 0 [.ref 128, .int i, .int a, .int b]), [.int ((Int32.ofNat N) - 1), .long (Int64.ofNat 0), .long (i).toInt64])) (M' := M) rfl) ?_
        refine e_then (e_st hT (y := 342) (pc := 12) (q := (yX12_speaks, cX12_speaks, 7, (some .int), 12)) rfl (show aTab 342 12 = some (.i2l, 1, 0, 0, 0, 0, 0, 0) from rfl) (fr' := (342, 13, (lv_args 0 [.ref 128, .int i, .int a, .int b]), [.long (((Int32.ofNat N) - 1)).toInt64, .long (Int64.ofNat 0), .long (i).toInt64])) (M' := M) rfl) ?_
        refine e_then (e_calls hT (y := 342) (pc := 13) (q := (yX12_speaks, cX12_speaks, 7, (some .int), 12)) rfl (show aTab 342 13 = some (.invokestatic 65, 3, 2, 239, 0, 3, 6, 12) from rfl) (Nat.le_of_ble_eq_true rfl) (Nat.le_of_ble_eq_true rfl) (Nat.le_of_ble_eq_true rfl) ⟨by decide, by decide⟩ q1) ?_
        refine e_then (e_ifF hT (y := 342) (pc := 16) (q := (yX12_speaks, cX12_speaks, 7, (some .int), 12)) rfl (show aTab 342 16 = some (.ifCond .eq 22, 3, 0, 0, 0, 0, 0, 0) from rfl) rfl (t := 38) rfl (cdF (by show ¬ (1 : Int32).toInt = 0; decide))) ?_
        refine e_then (e_il1 hT (y := 342) (pc := 19) (q := (yX12_speaks, cX12_speaks, 7, (some .int), 12)) rfl (show aTab 342 19 = some (.iload_n 2, 1, 0, 0, 0, 0, 0, 0) from rfl) rfl rfl) ?_
        refine e_then (e_calls hT (y := 342) (pc := 20) (q := (yX12_speaks, cX12_speaks, 7, (some .int), 12)) rfl (show aTab 342 20 = some (.invokestatic 157, 3, 2, 252, 0, 1, 1, 12) from rfl) (Nat.le_of_ble_eq_true rfl) (Nat.le_of_ble_eq_true rfl) (Nat.le_of_ble_eq_true rfl) ⟨by decide, by decide⟩ q2) ?_
        refine e_then (e_ifF hT (y := 342) (pc := 23) (q := (yX12_speaks, cX12_speaks, 7, (some .int), 12)) rfl (show aTab 342 23 = some (.ifCond .eq 15, 3, 0, 0, 0, 0, 0, 0) from rfl) rfl (t := 38) rfl (cdF (by show ¬ (1 : Int32).toInt = 0; decide))) ?_
        refine e_then (e_il1 hT (y := 342) (pc := 26) (q := (yX12_speaks, cX12_speaks, 7, (some .int), 12)) rfl (show aTab 342 26 = some (.iload_n 3, 1, 0, 0, 0, 0, 0, 0) from rfl) rfl rfl) ?_
        refine e_then (e_calls hT (y := 342) (pc := 27) (q := (yX12_speaks, cX12_speaks, 7, (some .int), 12)) rfl (show aTab 342 27 = some (.invokestatic 157, 3, 2, 252, 0, 1, 1, 12) from rfl) (Nat.le_of_ble_eq_true rfl) (Nat.le_of_ble_eq_true rfl) (Nat.le_of_ble_eq_true rfl) ⟨by decide, by decide⟩ q3) ?_
        refine e_then (e_ifT hT (y := 342) (pc := 30) (q := (yX12_speaks, cX12_speaks, 7, (some .int), 12)) rfl (show aTab 342 30 = some (.ifCond .eq 8, 3, 0, 0, 0, 0, 0, 0) from rfl) rfl (t := 38) rfl (cdT (by show (0 : Int32).toInt = 0; rfl))) ?_
        refine e_then (e_st hT (y := 342) (pc := 38) (q := (yX12_speaks, cX12_speaks, 7, (some .int), 12)) rfl (show aTab 342 38 = some (.ldc 89, 2, 7, 0, (-1000000001), 0, 0, 0) from rfl) (fr' := (342, 40, (lv_args 0 [.ref 128, .int i, .int a, .int b]), [.int (-1000000001)])) (M' := M) rfl) ?_
        exact e_fin (e_iret hT (y := 342) (pc := 40) (q := (yX12_speaks, cX12_speaks, 7, (some .int), 12)) rfl (show aTab 342 40 = some (.ireturn, 1, 0, 0, 0, 0, 0, 0) from rfl) ⟨rfl, rfl⟩) ⟨⟨_, rfl, fun z => absurd z (fun z => c3 z.2.2.1), fun _ => rfl⟩, hM, fun z => absurd z (fun z => c3 z.2.2.1), fun _ => hg⟩
    · rw [gB_f c2] at q2
      refine e_then (e_il1 hT (y := 342) (pc := 0) (q := (yX12_speaks, cX12_speaks, 7, (some .int), 12)) rfl (show aTab 342 0 = some (.iload_n 1, 1, 0, 0, 0, 0, 0, 0) from rfl) rfl rfl) ?_
      refine e_then (e_st hT (y := 342) (pc := 1) (q := (yX12_speaks, cX12_speaks, 7, (some .int), 12)) rfl (show aTab 342 1 = some (.i2l, 1, 0, 0, 0, 0, 0, 0) from rfl) (fr' := (342, 2, (lv_args 0 [.ref 128, .int i, .int a, .int b]), [.long (i).toInt64])) (M' := M) rfl) ?_
      refine e_then (e_st hT (y := 342) (pc := 2) (q := (yX12_speaks, cX12_speaks, 7, (some .int), 12)) rfl (show aTab 342 2 = some (.lconst 0, 1, 0, 0, 0, 0, 0, 0) from rfl) (fr' := (342, 3, (lv_args 0 [.ref 128, .int i, .int a, .int b]), [.long (Int64.ofNat 0), .long (i).toInt64])) (M' := M) rfl) ?_
      refine e_then (e_al1 hT (y := 342) (pc := 3) (q := (yX12_speaks, cX12_speaks, 7, (some .int), 12)) rfl (show aTab 342 3 = some (.aload_n 0, 1, 0, 0, 0, 0, 0, 0) from rfl) rfl rfl) ?_
      refine e_then (e_getR hT (y := 342) (pc := 4) (q := (yX12_speaks, cX12_speaks, 7, (some .int), 12)) rfl (show aTab 342 4 = some (.getfield 7, 3, 0, 12, 0, 0, 0, 0) from rfl) rfl (by decide) (by decide) hM rfl rfl) ?_
      refine e_then (e_st hT (y := 342) (pc := 7) (q := (yX12_speaks, cX12_speaks, 7, (some .int), 12)) rfl (show aTab 342 7 = some (.bipush 9, 2, 0, 0, 0, 0, 0, 0) from rfl) (fr' := (342, 9, (lv_args 0 [.ref 128, .int i, .int a, .int b]), [.int 9, .ref 129, .long (Int64.ofNat 0), .long (i).toInt64])) (M' := M) rfl) ?_
      refine e_then (s_ald hT (y := 342) (pc := 9) (q := (yX12_speaks, cX12_speaks, 7, (some .int), 12)) rfl (show aTab 342 9 = some (.iaload, 1, 0, 0, 0, 0, 0, 0) from rfl) rfl hM hg 120 9 rfl rfl (by decide)) ?_
      rw [hN]
      refine e_then (e_st hT (y := 342) (pc := 10) (q := (yX12_speaks, cX12_speaks, 7, (some .int), 12)) rfl (show aTab 342 10 = some (.iconst 1, 1, 0, 0, 0, 0, 0, 0) from rfl) (fr' := (342, 11, (lv_args 0 [.ref 128, .int i, .int a, .int b]), [.int 1, .int (Int32.ofNat N), .long (Int64.ofNat 0), .long (i).toInt64])) (M' := M) rfl) ?_
      refine e_then (e_st hT (y := 342) (pc := 11) (q := (yX12_speaks, cX12_speaks, 7, (some .int), 12)) rfl (show aTab 342 11 = some (.isub, 1, 0, 0, 0, 0, 0, 0) from rfl) (fr' := (342, 12, (lv_args 0 [.ref 128, .int i, .int a, .int b]), [.int ((Int32.ofNat N) - 1), .long (Int64.ofNat 0), .long (i).toInt64])) (M' := M) rfl) ?_
      refine e_then (e_st hT (y := 342) (pc := 12) (q := (yX12_speaks, cX12_speaks, 7, (some .int), 12)) rfl (show aTab 342 12 = some (.i2l, 1, 0, 0, 0, 0, 0, 0) from rfl) (fr' := (342, 13, (lv_args 0 [.ref 128, .int i, .int a, .int b]), [.long (((Int32.ofNat N) - 1)).toInt64, .long (Int64.ofNat 0), .long (i).toInt64])) (M' := M) rfl) ?_
      refine e_then (e_calls hT (y := 342) (pc := 13) (q := (yX12_speaks, cX12_speaks, 7, (some .int), 12)) rfl (show aTab 342 13 = some (.invokestatic 65, 3, 2, 239, 0, 3, 6, 12) from rfl) (Nat.le_of_ble_eq_true rfl) (Nat.le_of_ble_eq_true rfl) (Nat.le_of_ble_eq_true rfl) ⟨by decide, by decide⟩ q1) ?_
      refine e_then (e_ifF hT (y := 342) (pc := 16) (q := (yX12_speaks, cX12_speaks, 7, (some .int), 12)) rfl (show aTab 342 16 = some (.ifCond .eq 22, 3, 0, 0, 0, 0, 0, 0) from rfl) rfl (t := 38) rfl (cdF (by show ¬ (1 : Int32).toInt = 0; decide))) ?_
      refine e_then (e_il1 hT (y := 342) (pc := 19) (q := (yX12_speaks, cX12_speaks, 7, (some .int), 12)) rfl (show aTab 342 19 = some (.iload_n 2, 1, 0, 0, 0, 0, 0, 0) from rfl) rfl rfl) ?_
      refine e_then (e_calls hT (y := 342) (pc := 20) (q := (yX12_speaks, cX12_speaks, 7, (some .int), 12)) rfl (show aTab 342 20 = some (.invokestatic 157, 3, 2, 252, 0, 1, 1, 12) from rfl) (Nat.le_of_ble_eq_true rfl) (Nat.le_of_ble_eq_true rfl) (Nat.le_of_ble_eq_true rfl) ⟨by decide, by decide⟩ q2) ?_
      refine e_then (e_ifT hT (y := 342) (pc := 23) (q := (yX12_speaks, cX12_speaks, 7, (some .int), 12)) rfl (show aTab 342 23 = some (.ifCond .eq 15, 3, 0, 0, 0, 0, 0, 0) from rfl) rfl (t := 38) rfl (cdT (by show (0 : Int32).toInt = 0; rfl))) ?_
      refine e_then (e_st hT (y := 342) (pc := 38) (q := (yX12_speaks, cX12_speaks, 7, (some .int), 12)) rfl (show aTab 342 38 = some (.ldc 89, 2, 7, 0, (-1000000001), 0, 0, 0) from rfl) (fr' := (342, 40, (lv_args 0 [.ref 128, .int i, .int a, .int b]), [.int (-1000000001)])) (M' := M) rfl) ?_
      exact e_fin (e_iret hT (y := 342) (pc := 40) (q := (yX12_speaks, cX12_speaks, 7, (some .int), 12)) rfl (show aTab 342 40 = some (.ireturn, 1, 0, 0, 0, 0, 0, 0) from rfl) ⟨rfl, rfl⟩) ⟨⟨_, rfl, fun z => absurd z (fun z => c2 z.2.1), fun _ => rfl⟩, hM, fun z => absurd z (fun z => c2 z.2.1), fun _ => hg⟩
  · rw [gB_f c1] at q1
    refine e_then (e_il1 hT (y := 342) (pc := 0) (q := (yX12_speaks, cX12_speaks, 7, (some .int), 12)) rfl (show aTab 342 0 = some (.iload_n 1, 1, 0, 0, 0, 0, 0, 0) from rfl) rfl rfl) ?_
    refine e_then (e_st hT (y := 342) (pc := 1) (q := (yX12_speaks, cX12_speaks, 7, (some .int), 12)) rfl (show aTab 342 1 = some (.i2l, 1, 0, 0, 0, 0, 0, 0) from rfl) (fr' := (342, 2, (lv_args 0 [.ref 128, .int i, .int a, .int b]), [.long (i).toInt64])) (M' := M) rfl) ?_
    refine e_then (e_st hT (y := 342) (pc := 2) (q := (yX12_speaks, cX12_speaks, 7, (some .int), 12)) rfl (show aTab 342 2 = some (.lconst 0, 1, 0, 0, 0, 0, 0, 0) from rfl) (fr' := (342, 3, (lv_args 0 [.ref 128, .int i, .int a, .int b]), [.long (Int64.ofNat 0), .long (i).toInt64])) (M' := M) rfl) ?_
    refine e_then (e_al1 hT (y := 342) (pc := 3) (q := (yX12_speaks, cX12_speaks, 7, (some .int), 12)) rfl (show aTab 342 3 = some (.aload_n 0, 1, 0, 0, 0, 0, 0, 0) from rfl) rfl rfl) ?_
    refine e_then (e_getR hT (y := 342) (pc := 4) (q := (yX12_speaks, cX12_speaks, 7, (some .int), 12)) rfl (show aTab 342 4 = some (.getfield 7, 3, 0, 12, 0, 0, 0, 0) from rfl) rfl (by decide) (by decide) hM rfl rfl) ?_
    refine e_then (e_st hT (y := 342) (pc := 7) (q := (yX12_speaks, cX12_speaks, 7, (some .int), 12)) rfl (show aTab 342 7 = some (.bipush 9, 2, 0, 0, 0, 0, 0, 0) from rfl) (fr' := (342, 9, (lv_args 0 [.ref 128, .int i, .int a, .int b]), [.int 9, .ref 129, .long (Int64.ofNat 0), .long (i).toInt64])) (M' := M) rfl) ?_
    refine e_then (s_ald hT (y := 342) (pc := 9) (q := (yX12_speaks, cX12_speaks, 7, (some .int), 12)) rfl (show aTab 342 9 = some (.iaload, 1, 0, 0, 0, 0, 0, 0) from rfl) rfl hM hg 120 9 rfl rfl (by decide)) ?_
    rw [hN]
    refine e_then (e_st hT (y := 342) (pc := 10) (q := (yX12_speaks, cX12_speaks, 7, (some .int), 12)) rfl (show aTab 342 10 = some (.iconst 1, 1, 0, 0, 0, 0, 0, 0) from rfl) (fr' := (342, 11, (lv_args 0 [.ref 128, .int i, .int a, .int b]), [.int 1, .int (Int32.ofNat N), .long (Int64.ofNat 0), .long (i).toInt64])) (M' := M) rfl) ?_
    refine e_then (e_st hT (y := 342) (pc := 11) (q := (yX12_speaks, cX12_speaks, 7, (some .int), 12)) rfl (show aTab 342 11 = some (.isub, 1, 0, 0, 0, 0, 0, 0) from rfl) (fr' := (342, 12, (lv_args 0 [.ref 128, .int i, .int a, .int b]), [.int ((Int32.ofNat N) - 1), .long (Int64.ofNat 0), .long (i).toInt64])) (M' := M) rfl) ?_
    refine e_then (e_st hT (y := 342) (pc := 12) (q := (yX12_speaks, cX12_speaks, 7, (some .int), 12)) rfl (show aTab 342 12 = some (.i2l, 1, 0, 0, 0, 0, 0, 0) from rfl) (fr' := (342, 13, (lv_args 0 [.ref 128, .int i, .int a, .int b]), [.long (((Int32.ofNat N) - 1)).toInt64, .long (Int64.ofNat 0), .long (i).toInt64])) (M' := M) rfl) ?_
    refine e_then (e_calls hT (y := 342) (pc := 13) (q := (yX12_speaks, cX12_speaks, 7, (some .int), 12)) rfl (show aTab 342 13 = some (.invokestatic 65, 3, 2, 239, 0, 3, 6, 12) from rfl) (Nat.le_of_ble_eq_true rfl) (Nat.le_of_ble_eq_true rfl) (Nat.le_of_ble_eq_true rfl) ⟨by decide, by decide⟩ q1) ?_
    refine e_then (e_ifT hT (y := 342) (pc := 16) (q := (yX12_speaks, cX12_speaks, 7, (some .int), 12)) rfl (show aTab 342 16 = some (.ifCond .eq 22, 3, 0, 0, 0, 0, 0, 0) from rfl) rfl (t := 38) rfl (cdT (by show (0 : Int32).toInt = 0; rfl))) ?_
    refine e_then (e_st hT (y := 342) (pc := 38) (q := (yX12_speaks, cX12_speaks, 7, (some .int), 12)) rfl (show aTab 342 38 = some (.ldc 89, 2, 7, 0, (-1000000001), 0, 0, 0) from rfl) (fr' := (342, 40, (lv_args 0 [.ref 128, .int i, .int a, .int b]), [.int (-1000000001)])) (M' := M) rfl) ?_
    exact e_fin (e_iret hT (y := 342) (pc := 40) (q := (yX12_speaks, cX12_speaks, 7, (some .int), 12)) rfl (show aTab 342 40 = some (.ireturn, 1, 0, 0, 0, 0, 0, 0) from rfl) ⟨rfl, rfl⟩) ⟨⟨_, rfl, fun z => absurd z (fun z => c1 z.1), fun _ => rfl⟩, hM, fun z => absurd z (fun z => c1 z.1), fun _ => hg⟩
/-! SPEECH: what comes of it: 0: refused, 1: none, 2: one -/
def shN (a b : Int32) : Prop := a = -1000000005 ∨ b = -1000000005
def seOk (h a b : Int32) : Nat → Prop
  | 0 => ¬ (0 ≤ h.toInt ∧ h.toInt ≤ 7) ∨ (¬ shN a b ∧ ¬ (tgOk a ∧ tgOk b ∧ a ≠ b))
  | 1 => (0 ≤ h.toInt ∧ h.toInt ≤ 7) ∧ shN a b
  | _ => (0 ≤ h.toInt ∧ h.toInt ≤ 7) ∧ ¬ shN a b ∧ tgOk a ∧ tgOk b ∧ a ≠ b
def xseG (g : Nat → Nat → Int32) (h a b : Int32) : Nat → (Nat → Nat → Int32)
  | 0 => g
  | 1 => up2 g 42 h.toInt.toNat 0
  | _ => up2 g 42 h.toInt.toNat (hBit a.toInt.toNat b.toInt.toNat)
def rseG (g : Nat → Nat → Int32) (h a b : Int32) : Nat → (Nat → Nat → Int32)
  | 0 => g
  | 1 => up2 (up2 g 120 (3740 + 2 * h.toInt.toNat) (-1)) 120 (3740 + 2 * h.toInt.toNat + 1) (-1)
  | _ => up2 (up2 g 120 (3740 + 2 * h.toInt.toNat) a) 120 (3740 + 2 * h.toInt.toNat + 1) b
theorem xse_run (hT : aTabOk) {M : mHe} (hM : yTy M) {g : Nat → Nat → Int32} (hg : rdI M = g) {h a b : Int32} : mEv none 30 (223, 0, lv_args 0 [.ref 9, .int h, .int a, .int b], []) M (fun r M' => (∃ x, r = some (.int x)) ∧ yTy M' ∧ ∃ s, s < 3 ∧ seOk h a b s ∧ rdI M' = xseG g h a b s) := by
  have kN : (-1000000005 : Int32).toInt = -1000000005 := rfl
  obtain ⟨K1, q1⟩ := within_i hT (M := M) (v := h) (l := 0) (h := 7) (d := 19) (by decide)
  rw [show (0 : Int32).toInt = 0 from rfl, show (7 : Int32).toInt = 7 from rfl] at q1
  have dA : Decidable (tgOk a) := Classical.propDecidable _
  have dB : Decidable (tgOk b) := Classical.propDecidable _
  obtain ⟨K2, q2⟩ := xtg_run hT hM (a := a) (d := 19) (by decide)
  obtain ⟨K3, q3⟩ := xtg_run hT hM (a := b) (d := 19) (by decide)
  have go : mEv none 20 (141, 0, lv_args 0 [.ref 49, .int h, .int a, .int b], []) M (fun r M' => (∃ x, r = some (.int x)) ∧ yTy M' ∧ ∃ s, s < 3 ∧ seOk h a b s ∧ rdI M' = xseG g h a b s) := by
    by_cases c1 : 0 ≤ h.toInt ∧ h.toInt ≤ 7
    · rw [gB_t c1] at q1
      obtain ⟨hh, hhe⟩ : ∃ n : Nat, (n : Int) = h.toInt := ⟨h.toInt.toNat, by omega⟩
      have e0 : h.toInt.toNat = hh := by omega
      by_cases a1 : a = -1000000005
      · skip
        refine e_then (e_il1 hT (y := 141) (pc := 0) (q := (yX7_setSpeech, cX7_setSpeech, 4, (some .int), 7)) rfl (show aTab 141 0 = some (.iload_n 1, 1, 0, 0, 0, 0, 0, 0) from rfl) rfl rfl) ?_
        refine e_then (e_st hT (y := 141) (pc := 1) (q := (yX7_setSpeech, cX7_setSpeech, 4, (some .int), 7)) rfl (show aTab 141 1 = some (.iconst 0, 1, 0, 0, 0, 0, 0, 0) from rfl) (fr' := (141, 2, (lv_args 0 [.ref 49, .int h, .int a, .int b]), [.int 0, .int h])) (M' := M) rfl) ?_
        refine e_then (e_st hT (y := 141) (pc := 2) (q := (yX7_setSpeech, cX7_setSpeech, 4, (some .int), 7)) rfl (show aTab 141 2 = some (.bipush 7, 2, 0, 0, 0, 0, 0, 0) from rfl) (fr' := (141, 4, (lv_args 0 [.ref 49, .int h, .int a, .int b]), [.int 7, .int 0, .int h])) (M' := M) rfl) ?_
        refine e_then (e_callsN hT (y := 141) (pc := 4) (q := (yX7_setSpeech, cX7_setSpeech, 4, (some .int), 7)) rfl (show aTab 141 4 = some (.invokestatic 30, 3, 3, 234, 0, 3, 3, 11) from rfl) (Nat.le_of_ble_eq_true rfl) (Nat.le_of_ble_eq_true rfl) (Nat.le_of_ble_eq_true rfl) ⟨by decide, by decide⟩ q1) ?_
        refine e_then (e_ifT hT (y := 141) (pc := 7) (q := (yX7_setSpeech, cX7_setSpeech, 4, (some .int), 7)) rfl (show aTab 141 7 = some (.ifCond .ne 6, 3, 0, 0, 0, 0, 0, 0) from rfl) rfl (t := 13) rfl (cdT (by show ¬ (1 : Int32).toInt = 0; decide))) ?_
        refine e_then (e_il1 hT (y := 141) (pc := 13) (q := (yX7_setSpeech, cX7_setSpeech, 4, (some .int), 7)) rfl (show aTab 141 13 = some (.iload_n 2, 1, 0, 0, 0, 0, 0, 0) from rfl) rfl rfl) ?_
        refine e_then (e_st hT (y := 141) (pc := 14) (q := (yX7_setSpeech, cX7_setSpeech, 4, (some .int), 7)) rfl (show aTab 141 14 = some (.ldc 57, 2, 7, 0, (-1000000005), 0, 0, 0) from rfl) (fr' := (141, 16, (lv_args 0 [.ref 49, .int h, .int a, .int b]), [.int (-1000000005), .int a])) (M' := M) rfl) ?_
        refine e_then (e_icT hT (y := 141) (pc := 16) (q := (yX7_setSpeech, cX7_setSpeech, 4, (some .int), 7)) rfl (show aTab 141 16 = some (.if_icmp .eq 9, 3, 0, 0, 0, 0, 0, 0) from rfl) rfl (t := 25) rfl (cdT (by show _ = _; rw [a1]))) ?_
        refine e_then (e_al1 hT (y := 141) (pc := 25) (q := (yX7_setSpeech, cX7_setSpeech, 4, (some .int), 7)) rfl (show aTab 141 25 = some (.aload_n 0, 1, 0, 0, 0, 0, 0, 0) from rfl) rfl rfl) ?_
        refine e_then (e_getR hT (y := 141) (pc := 26) (q := (yX7_setSpeech, cX7_setSpeech, 4, (some .int), 7)) rfl (show aTab 141 26 = some (.getfield 15, 3, 0, 7, 2, 0, 0, 0) from rfl) rfl (by decide) (by decide) hM rfl rfl) ?_
        refine e_then (e_il1 hT (y := 141) (pc := 29) (q := (yX7_setSpeech, cX7_setSpeech, 4, (some .int), 7)) rfl (show aTab 141 29 = some (.iload_n 1, 1, 0, 0, 0, 0, 0, 0) from rfl) rfl rfl) ?_
        refine e_then (e_st hT (y := 141) (pc := 30) (q := (yX7_setSpeech, cX7_setSpeech, 4, (some .int), 7)) rfl (show aTab 141 30 = some (.iconst 0, 1, 0, 0, 0, 0, 0, 0) from rfl) (fr' := (141, 31, (lv_args 0 [.ref 49, .int h, .int a, .int b]), [.int 0, .int h, .ref 51])) (M' := M) rfl) ?_
        obtain ⟨m1, sm1, tm1, em1⟩ := s_ast (sc := none) (d := _) (lv := (lv_args 0 [.ref 49, .int h, .int a, .int b])) (st := []) (z := 0) (i := h) hT (y := 141) (pc := 31) (q := (yX7_setSpeech, cX7_setSpeech, 4, (some .int), 7)) rfl (show aTab 141 31 = some (.iastore, 1, 0, 0, 0, 0, 0, 0) from rfl) rfl hM hg 42 hh rfl hhe.symm (by omega)
        refine e_then sm1 ?_
        refine e_then (e_st hT (y := 141) (pc := 32) (q := (yX7_setSpeech, cX7_setSpeech, 4, (some .int), 7)) rfl (show aTab 141 32 = some (.iconst 1, 1, 0, 0, 0, 0, 0, 0) from rfl) (fr' := (141, 33, (lv_args 0 [.ref 49, .int h, .int a, .int b]), [.int 1])) (M' := m1) rfl) ?_
        exact e_fin (e_iret hT (y := 141) (pc := 33) (q := (yX7_setSpeech, cX7_setSpeech, 4, (some .int), 7)) rfl (show aTab 141 33 = some (.ireturn, 1, 0, 0, 0, 0, 0, 0) from rfl) ⟨rfl, rfl⟩) ⟨⟨_, rfl⟩, tm1, 1, by decide, ⟨c1, Or.inl a1⟩, by show _ = up2 g 42 _ _; rw [e0]; exact em1⟩
      by_cases b1 : b = -1000000005
      · skip
        refine e_then (e_il1 hT (y := 141) (pc := 0) (q := (yX7_setSpeech, cX7_setSpeech, 4, (some .int), 7)) rfl (show aTab 141 0 = some (.iload_n 1, 1, 0, 0, 0, 0, 0, 0) from rfl) rfl rfl) ?_
        refine e_then (e_st hT (y := 141) (pc := 1) (q := (yX7_setSpeech, cX7_setSpeech, 4, (some .int), 7)) rfl (show aTab 141 1 = some (.iconst 0, 1, 0, 0, 0, 0, 0, 0) from rfl) (fr' := (141, 2, (lv_args 0 [.ref 49, .int h, .int a, .int b]), [.int 0, .int h])) (M' := M) rfl) ?_
        refine e_then (e_st hT (y := 141) (pc := 2) (q := (yX7_setSpeech, cX7_setSpeech, 4, (some .int), 7)) rfl (show aTab 141 2 = some (.bipush 7, 2, 0, 0, 0, 0, 0, 0) from rfl) (fr' := (141, 4, (lv_args 0 [.ref 49, .int h, .int a, .int b]), [.int 7, .int 0, .int h])) (M' := M) rfl) ?_
        refine e_then (e_callsN hT (y := 141) (pc := 4) (q := (yX7_setSpeech, cX7_setSpeech, 4, (some .int), 7)) rfl (show aTab 141 4 = some (.invokestatic 30, 3, 3, 234, 0, 3, 3, 11) from rfl) (Nat.le_of_ble_eq_true rfl) (Nat.le_of_ble_eq_true rfl) (Nat.le_of_ble_eq_true rfl) ⟨by decide, by decide⟩ q1) ?_
        refine e_then (e_ifT hT (y := 141) (pc := 7) (q := (yX7_setSpeech, cX7_setSpeech, 4, (some .int), 7)) rfl (show aTab 141 7 = some (.ifCond .ne 6, 3, 0, 0, 0, 0, 0, 0) from rfl) rfl (t := 13) rfl (cdT (by show ¬ (1 : Int32).toInt = 0; decide))) ?_
        refine e_then (e_il1 hT (y := 141) (pc := 13) (q := (yX7_setSpeech, cX7_setSpeech, 4, (some .int), 7)) rfl (show aTab 141 13 = some (.iload_n 2, 1, 0, 0, 0, 0, 0, 0) from rfl) rfl rfl) ?_
        refine e_then (e_st hT (y := 141) (pc := 14) (q := (yX7_setSpeech, cX7_setSpeech, 4, (some .int), 7)) rfl (show aTab 141 14 = some (.ldc 57, 2, 7, 0, (-1000000005), 0, 0, 0) from rfl) (fr' := (141, 16, (lv_args 0 [.ref 49, .int h, .int a, .int b]), [.int (-1000000005), .int a])) (M' := M) rfl) ?_
        refine e_then (e_icF hT (y := 141) (pc := 16) (q := (yX7_setSpeech, cX7_setSpeech, 4, (some .int), 7)) rfl (show aTab 141 16 = some (.if_icmp .eq 9, 3, 0, 0, 0, 0, 0, 0) from rfl) rfl (t := 25) rfl (cdF (by show ¬ _ = _; exact fun z => a1 (Int32.toInt_inj.mp z)))) ?_
        refine e_then (e_il1 hT (y := 141) (pc := 19) (q := (yX7_setSpeech, cX7_setSpeech, 4, (some .int), 7)) rfl (show aTab 141 19 = some (.iload_n 3, 1, 0, 0, 0, 0, 0, 0) from rfl) rfl rfl) ?_
        refine e_then (e_st hT (y := 141) (pc := 20) (q := (yX7_setSpeech, cX7_setSpeech, 4, (some .int), 7)) rfl (show aTab 141 20 = some (.ldc 57, 2, 7, 0, (-1000000005), 0, 0, 0) from rfl) (fr' := (141, 22, (lv_args 0 [.ref 49, .int h, .int a, .int b]), [.int (-1000000005), .int b])) (M' := M) rfl) ?_
        refine e_then (e_icF hT (y := 141) (pc := 22) (q := (yX7_setSpeech, cX7_setSpeech, 4, (some .int), 7)) rfl (show aTab 141 22 = some (.if_icmp .ne 12, 3, 0, 0, 0, 0, 0, 0) from rfl) rfl (t := 34) rfl (cdF (by show ¬ ¬ _ = _; rw [b1]; exact fun z => z rfl))) ?_
        refine e_then (e_al1 hT (y := 141) (pc := 25) (q := (yX7_setSpeech, cX7_setSpeech, 4, (some .int), 7)) rfl (show aTab 141 25 = some (.aload_n 0, 1, 0, 0, 0, 0, 0, 0) from rfl) rfl rfl) ?_
        refine e_then (e_getR hT (y := 141) (pc := 26) (q := (yX7_setSpeech, cX7_setSpeech, 4, (some .int), 7)) rfl (show aTab 141 26 = some (.getfield 15, 3, 0, 7, 2, 0, 0, 0) from rfl) rfl (by decide) (by decide) hM rfl rfl) ?_
        refine e_then (e_il1 hT (y := 141) (pc := 29) (q := (yX7_setSpeech, cX7_setSpeech, 4, (some .int), 7)) rfl (show aTab 141 29 = some (.iload_n 1, 1, 0, 0, 0, 0, 0, 0) from rfl) rfl rfl) ?_
        refine e_then (e_st hT (y := 141) (pc := 30) (q := (yX7_setSpeech, cX7_setSpeech, 4, (some .int), 7)) rfl (show aTab 141 30 = some (.iconst 0, 1, 0, 0, 0, 0, 0, 0) from rfl) (fr' := (141, 31, (lv_args 0 [.ref 49, .int h, .int a, .int b]), [.int 0, .int h, .ref 51])) (M' := M) rfl) ?_
        obtain ⟨m1, sm1, tm1, em1⟩ := s_ast (sc := none) (d := _) (lv := (lv_args 0 [.ref 49, .int h, .int a, .int b])) (st := []) (z := 0) (i := h) hT (y := 141) (pc := 31) (q := (yX7_setSpeech, cX7_setSpeech, 4, (some .int), 7)) rfl (show aTab 141 31 = some (.iastore, 1, 0, 0, 0, 0, 0, 0) from rfl) rfl hM hg 42 hh rfl hhe.symm (by omega)
        refine e_then sm1 ?_
        refine e_then (e_st hT (y := 141) (pc := 32) (q := (yX7_setSpeech, cX7_setSpeech, 4, (some .int), 7)) rfl (show aTab 141 32 = some (.iconst 1, 1, 0, 0, 0, 0, 0, 0) from rfl) (fr' := (141, 33, (lv_args 0 [.ref 49, .int h, .int a, .int b]), [.int 1])) (M' := m1) rfl) ?_
        exact e_fin (e_iret hT (y := 141) (pc := 33) (q := (yX7_setSpeech, cX7_setSpeech, 4, (some .int), 7)) rfl (show aTab 141 33 = some (.ireturn, 1, 0, 0, 0, 0, 0, 0) from rfl) ⟨rfl, rfl⟩) ⟨⟨_, rfl⟩, tm1, 1, by decide, ⟨c1, Or.inr b1⟩, by show _ = up2 g 42 _ _; rw [e0]; exact em1⟩
      have hno : ¬ shN a b := fun z => z.elim a1 b1
      by_cases c2 : tgOk a
      · rw [gB_t c2] at q2
        by_cases c3 : tgOk b
        · rw [gB_t c3] at q3
          by_cases c4 : a = b
          · skip
            refine e_then (e_il1 hT (y := 141) (pc := 0) (q := (yX7_setSpeech, cX7_setSpeech, 4, (some .int), 7)) rfl (show aTab 141 0 = some (.iload_n 1, 1, 0, 0, 0, 0, 0, 0) from rfl) rfl rfl) ?_
            refine e_then (e_st hT (y := 141) (pc := 1) (q := (yX7_setSpeech, cX7_setSpeech, 4, (some .int), 7)) rfl (show aTab 141 1 = some (.iconst 0, 1, 0, 0, 0, 0, 0, 0) from rfl) (fr' := (141, 2, (lv_args 0 [.ref 49, .int h, .int a, .int b]), [.int 0, .int h])) (M' := M) rfl) ?_
            refine e_then (e_st hT (y := 141) (pc := 2) (q := (yX7_setSpeech, cX7_setSpeech, 4, (some .int), 7)) rfl (show aTab 141 2 = some (.bipush 7, 2, 0, 0, 0, 0, 0, 0) from rfl) (fr' := (141, 4, (lv_args 0 [.ref 49, .int h, .int a, .int b]), [.int 7, .int 0, .int h])) (M' := M) rfl) ?_
            refine e_then (e_callsN hT (y := 141) (pc := 4) (q := (yX7_setSpeech, cX7_setSpeech, 4, (some .int), 7)) rfl (show aTab 141 4 = some (.invokestatic 30, 3, 3, 234, 0, 3, 3, 11) from rfl) (Nat.le_of_ble_eq_true rfl) (Nat.le_of_ble_eq_true rfl) (Nat.le_of_ble_eq_true rfl) ⟨by decide, by decide⟩ q1) ?_
            refine e_then (e_ifT hT (y := 141) (pc := 7) (q := (yX7_setSpeech, cX7_setSpeech, 4, (some .int), 7)) rfl (show aTab 141 7 = some (.ifCond .ne 6, 3, 0, 0, 0, 0, 0, 0) from rfl) rfl (t := 13) rfl (cdT (by show ¬ (1 : Int32).toInt = 0; decide))) ?_
            refine e_then (e_il1 hT (y := 141) (pc := 13) (q := (yX7_setSpeech, cX7_setSpeech, 4, (some .int), 7)) rfl (show aTab 141 13 = some (.iload_n 2, 1, 0, 0, 0, 0, 0, 0) from rfl) rfl rfl) ?_
            refine e_then (e_st hT (y := 141) (pc := 14) (q := (yX7_setSpeech, cX7_setSpeech, 4, (some .int), 7)) rfl (show aTab 141 14 = some (.ldc 57, 2, 7, 0, (-1000000005), 0, 0, 0) from rfl) (fr' := (141, 16, (lv_args 0 [.ref 49, .int h, .int a, .int b]), [.int (-1000000005), .int a])) (M' := M) rfl) ?_
            refine e_then (e_icF hT (y := 141) (pc := 16) (q := (yX7_setSpeech, cX7_setSpeech, 4, (some .int), 7)) rfl (show aTab 141 16 = some (.if_icmp .eq 9, 3, 0, 0, 0, 0, 0, 0) from rfl) rfl (t := 25) rfl (cdF (by show ¬ _ = _; exact fun z => a1 (Int32.toInt_inj.mp z)))) ?_
            refine e_then (e_il1 hT (y := 141) (pc := 19) (q := (yX7_setSpeech, cX7_setSpeech, 4, (some .int), 7)) rfl (show aTab 141 19 = some (.iload_n 3, 1, 0, 0, 0, 0, 0, 0) from rfl) rfl rfl) ?_
            refine e_then (e_st hT (y := 141) (pc := 20) (q := (yX7_setSpeech, cX7_setSpeech, 4, (some .int), 7)) rfl (show aTab 141 20 = some (.ldc 57, 2, 7, 0, (-1000000005), 0, 0, 0) from rfl) (fr' := (141, 22, (lv_args 0 [.ref 49, .int h, .int a, .int b]), [.int (-1000000005), .int b])) (M' := M) rfl) ?_
            refine e_then (e_icT hT (y := 141) (pc := 22) (q := (yX7_setSpeech, cX7_setSpeech, 4, (some .int), 7)) rfl (show aTab 141 22 = some (.if_icmp .ne 12, 3, 0, 0, 0, 0, 0, 0) from rfl) rfl (t := 34) rfl (cdT (by show ¬ _ = _; exact fun z => b1 (Int32.toInt_inj.mp z)))) ?_
            refine e_then (e_al1 hT (y := 141) (pc := 34) (q := (yX7_setSpeech, cX7_setSpeech, 4, (some .int), 7)) rfl (show aTab 141 34 = some (.aload_n 0, 1, 0, 0, 0, 0, 0, 0) from rfl) rfl rfl) ?_
            refine e_then (e_il1 hT (y := 141) (pc := 35) (q := (yX7_setSpeech, cX7_setSpeech, 4, (some .int), 7)) rfl (show aTab 141 35 = some (.iload_n 2, 1, 0, 0, 0, 0, 0, 0) from rfl) rfl rfl) ?_
            refine e_then (e_call hT (y := 141) (pc := 36) (q := (yX7_setSpeech, cX7_setSpeech, 4, (some .int), 7)) rfl (show aTab 141 36 = some (.invokevirtual 43, 3, 1, 138, 0, 1, 2, 7) from rfl) rfl ⟨by decide, Nat.le_of_ble_eq_true rfl⟩ (ob_at hM (rfl : tTy 40 = some (.inr (7, _)))).choose_spec (Nat.le_of_ble_eq_true rfl) (Nat.le_of_ble_eq_true rfl) ⟨by decide, by decide⟩ q2) ?_
            refine e_then (e_ifF hT (y := 141) (pc := 39) (q := (yX7_setSpeech, cX7_setSpeech, 4, (some .int), 7)) rfl (show aTab 141 39 = some (.ifCond .eq 16, 3, 0, 0, 0, 0, 0, 0) from rfl) rfl (t := 55) rfl (cdF (by show ¬ (1 : Int32).toInt = 0; decide))) ?_
            refine e_then (e_al1 hT (y := 141) (pc := 42) (q := (yX7_setSpeech, cX7_setSpeech, 4, (some .int), 7)) rfl (show aTab 141 42 = some (.aload_n 0, 1, 0, 0, 0, 0, 0, 0) from rfl) rfl rfl) ?_
            refine e_then (e_il1 hT (y := 141) (pc := 43) (q := (yX7_setSpeech, cX7_setSpeech, 4, (some .int), 7)) rfl (show aTab 141 43 = some (.iload_n 3, 1, 0, 0, 0, 0, 0, 0) from rfl) rfl rfl) ?_
            refine e_then (e_call hT (y := 141) (pc := 44) (q := (yX7_setSpeech, cX7_setSpeech, 4, (some .int), 7)) rfl (show aTab 141 44 = some (.invokevirtual 43, 3, 1, 138, 0, 1, 2, 7) from rfl) rfl ⟨by decide, Nat.le_of_ble_eq_true rfl⟩ (ob_at hM (rfl : tTy 40 = some (.inr (7, _)))).choose_spec (Nat.le_of_ble_eq_true rfl) (Nat.le_of_ble_eq_true rfl) ⟨by decide, by decide⟩ q3) ?_
            refine e_then (e_ifF hT (y := 141) (pc := 47) (q := (yX7_setSpeech, cX7_setSpeech, 4, (some .int), 7)) rfl (show aTab 141 47 = some (.ifCond .eq 8, 3, 0, 0, 0, 0, 0, 0) from rfl) rfl (t := 55) rfl (cdF (by show ¬ (1 : Int32).toInt = 0; decide))) ?_
            refine e_then (e_il1 hT (y := 141) (pc := 50) (q := (yX7_setSpeech, cX7_setSpeech, 4, (some .int), 7)) rfl (show aTab 141 50 = some (.iload_n 2, 1, 0, 0, 0, 0, 0, 0) from rfl) rfl rfl) ?_
            refine e_then (e_il1 hT (y := 141) (pc := 51) (q := (yX7_setSpeech, cX7_setSpeech, 4, (some .int), 7)) rfl (show aTab 141 51 = some (.iload_n 3, 1, 0, 0, 0, 0, 0, 0) from rfl) rfl rfl) ?_
            refine e_then (e_icF hT (y := 141) (pc := 52) (q := (yX7_setSpeech, cX7_setSpeech, 4, (some .int), 7)) rfl (show aTab 141 52 = some (.if_icmp .ne 6, 3, 0, 0, 0, 0, 0, 0) from rfl) rfl (t := 58) rfl (cdF (by show ¬ ¬ _ = _; rw [c4]; exact fun z => z rfl))) ?_
            refine e_then (e_st hT (y := 141) (pc := 55) (q := (yX7_setSpeech, cX7_setSpeech, 4, (some .int), 7)) rfl (show aTab 141 55 = some (.ldc 47, 2, 7, 0, (-1000000001), 0, 0, 0) from rfl) (fr' := (141, 57, (lv_args 0 [.ref 49, .int h, .int a, .int b]), [.int (-1000000001)])) (M' := M) rfl) ?_
            exact e_fin (e_iret hT (y := 141) (pc := 57) (q := (yX7_setSpeech, cX7_setSpeech, 4, (some .int), 7)) rfl (show aTab 141 57 = some (.ireturn, 1, 0, 0, 0, 0, 0, 0) from rfl) ⟨rfl, rfl⟩) ⟨⟨_, rfl⟩, hM, 0, by decide, Or.inr ⟨hno, fun z => z.2.2 c4⟩, hg⟩
          · obtain ⟨aa, ha⟩ : ∃ n : Nat, (n : Int) = a.toInt := ⟨a.toInt.toNat, by have := c2.1; omega⟩
            obtain ⟨bb, hb⟩ : ∃ n : Nat, (n : Int) = b.toInt := ⟨b.toInt.toNat, by have := c3.1; omega⟩
            have c2' := c2.2
            have c3' := c3.2
            have ha' : a = Int32.ofNat aa := i32eq (by rw [i32n (by omega)]; omega)
            have hb' : b = Int32.ofNat bb := i32eq (by rw [i32n (by omega)]; omega)
            obtain ⟨K4, q4⟩ := xbo_run hT (M := M) (a := aa) (b := bb) (by omega) (by omega) (d := 19) (by decide)
            rw [← ha', ← hb'] at q4
            refine e_then (e_il1 hT (y := 141) (pc := 0) (q := (yX7_setSpeech, cX7_setSpeech, 4, (some .int), 7)) rfl (show aTab 141 0 = some (.iload_n 1, 1, 0, 0, 0, 0, 0, 0) from rfl) rfl rfl) ?_
            refine e_then (e_st hT (y := 141) (pc := 1) (q := (yX7_setSpeech, cX7_setSpeech, 4, (some .int), 7)) rfl (show aTab 141 1 = some (.iconst 0, 1, 0, 0, 0, 0, 0, 0) from rfl) (fr' := (141, 2, (lv_args 0 [.ref 49, .int h, .int a, .int b]), [.int 0, .int h])) (M' := M) rfl) ?_
            refine e_then (e_st hT (y := 141) (pc := 2) (q := (yX7_setSpeech, cX7_setSpeech, 4, (some .int), 7)) rfl (show aTab 141 2 = some (.bipush 7, 2, 0, 0, 0, 0, 0, 0) from rfl) (fr' := (141, 4, (lv_args 0 [.ref 49, .int h, .int a, .int b]), [.int 7, .int 0, .int h])) (M' := M) rfl) ?_
            refine e_then (e_callsN hT (y := 141) (pc := 4) (q := (yX7_setSpeech, cX7_setSpeech, 4, (some .int), 7)) rfl (show aTab 141 4 = some (.invokestatic 30, 3, 3, 234, 0, 3, 3, 11) from rfl) (Nat.le_of_ble_eq_true rfl) (Nat.le_of_ble_eq_true rfl) (Nat.le_of_ble_eq_true rfl) ⟨by decide, by decide⟩ q1) ?_
            refine e_then (e_ifT hT (y := 141) (pc := 7) (q := (yX7_setSpeech, cX7_setSpeech, 4, (some .int), 7)) rfl (show aTab 141 7 = some (.ifCond .ne 6, 3, 0, 0, 0, 0, 0, 0) from rfl) rfl (t := 13) rfl (cdT (by show ¬ (1 : Int32).toInt = 0; decide))) ?_
            refine e_then (e_il1 hT (y := 141) (pc := 13) (q := (yX7_setSpeech, cX7_setSpeech, 4, (some .int), 7)) rfl (show aTab 141 13 = some (.iload_n 2, 1, 0, 0, 0, 0, 0, 0) from rfl) rfl rfl) ?_
            refine e_then (e_st hT (y := 141) (pc := 14) (q := (yX7_setSpeech, cX7_setSpeech, 4, (some .int), 7)) rfl (show aTab 141 14 = some (.ldc 57, 2, 7, 0, (-1000000005), 0, 0, 0) from rfl) (fr' := (141, 16, (lv_args 0 [.ref 49, .int h, .int a, .int b]), [.int (-1000000005), .int a])) (M' := M) rfl) ?_
            refine e_then (e_icF hT (y := 141) (pc := 16) (q := (yX7_setSpeech, cX7_setSpeech, 4, (some .int), 7)) rfl (show aTab 141 16 = some (.if_icmp .eq 9, 3, 0, 0, 0, 0, 0, 0) from rfl) rfl (t := 25) rfl (cdF (by show ¬ _ = _; exact fun z => a1 (Int32.toInt_inj.mp z)))) ?_
            refine e_then (e_il1 hT (y := 141) (pc := 19) (q := (yX7_setSpeech, cX7_setSpeech, 4, (some .int), 7)) rfl (show aTab 141 19 = some (.iload_n 3, 1, 0, 0, 0, 0, 0, 0) from rfl) rfl rfl) ?_
            refine e_then (e_st hT (y := 141) (pc := 20) (q := (yX7_setSpeech, cX7_setSpeech, 4, (some .int), 7)) rfl (show aTab 141 20 = some (.ldc 57, 2, 7, 0, (-1000000005), 0, 0, 0) from rfl) (fr' := (141, 22, (lv_args 0 [.ref 49, .int h, .int a, .int b]), [.int (-1000000005), .int b])) (M' := M) rfl) ?_
            refine e_then (e_icT hT (y := 141) (pc := 22) (q := (yX7_setSpeech, cX7_setSpeech, 4, (some .int), 7)) rfl (show aTab 141 22 = some (.if_icmp .ne 12, 3, 0, 0, 0, 0, 0, 0) from rfl) rfl (t := 34) rfl (cdT (by show ¬ _ = _; exact fun z => b1 (Int32.toInt_inj.mp z)))) ?_
            refine e_then (e_al1 hT (y := 141) (pc := 34) (q := (yX7_setSpeech, cX7_setSpeech, 4, (some .int), 7)) rfl (show aTab 141 34 = some (.aload_n 0, 1, 0, 0, 0, 0, 0, 0) from rfl) rfl rfl) ?_
            refine e_then (e_il1 hT (y := 141) (pc := 35) (q := (yX7_setSpeech, cX7_setSpeech, 4, (some .int), 7)) rfl (show aTab 141 35 = some (.iload_n 2, 1, 0, 0, 0, 0, 0, 0) from rfl) rfl rfl) ?_
            refine e_then (e_call hT (y := 141) (pc := 36) (q := (yX7_setSpeech, cX7_setSpeech, 4, (some .int), 7)) rfl (show aTab 141 36 = some (.invokevirtual 43, 3, 1, 138, 0, 1, 2, 7) from rfl) rfl ⟨by decide, Nat.le_of_ble_eq_true rfl⟩ (ob_at hM (rfl : tTy 40 = some (.inr (7, _)))).choose_spec (Nat.le_of_ble_eq_true rfl) (Nat.le_of_ble_eq_true rfl) ⟨by decide, by decide⟩ q2) ?_
            refine e_then (e_ifF hT (y := 141) (pc := 39) (q := (yX7_setSpeech, cX7_setSpeech, 4, (some .int), 7)) rfl (show aTab 141 39 = some (.ifCond .eq 16, 3, 0, 0, 0, 0, 0, 0) from rfl) rfl (t := 55) rfl (cdF (by show ¬ (1 : Int32).toInt = 0; decide))) ?_
            refine e_then (e_al1 hT (y := 141) (pc := 42) (q := (yX7_setSpeech, cX7_setSpeech, 4, (some .int), 7)) rfl (show aTab 141 42 = some (.aload_n 0, 1, 0, 0, 0, 0, 0, 0) from rfl) rfl rfl) ?_
            refine e_then (e_il1 hT (y := 141) (pc := 43) (q := (yX7_setSpeech, cX7_setSpeech, 4, (some .int), 7)) rfl (show aTab 141 43 = some (.iload_n 3, 1, 0, 0, 0, 0, 0, 0) from rfl) rfl rfl) ?_
            refine e_then (e_call hT (y := 141) (pc := 44) (q := (yX7_setSpeech, cX7_setSpeech, 4, (some .int), 7)) rfl (show aTab 141 44 = some (.invokevirtual 43, 3, 1, 138, 0, 1, 2, 7) from rfl) rfl ⟨by decide, Nat.le_of_ble_eq_true rfl⟩ (ob_at hM (rfl : tTy 40 = some (.inr (7, _)))).choose_spec (Nat.le_of_ble_eq_true rfl) (Nat.le_of_ble_eq_true rfl) ⟨by decide, by decide⟩ q3) ?_
            refine e_then (e_ifF hT (y := 141) (pc := 47) (q := (yX7_setSpeech, cX7_setSpeech, 4, (some .int), 7)) rfl (show aTab 141 47 = some (.ifCond .eq 8, 3, 0, 0, 0, 0, 0, 0) from rfl) rfl (t := 55) rfl (cdF (by show ¬ (1 : Int32).toInt = 0; decide))) ?_
            refine e_then (e_il1 hT (y := 141) (pc := 50) (q := (yX7_setSpeech, cX7_setSpeech, 4, (some .int), 7)) rfl (show aTab 141 50 = some (.iload_n 2, 1, 0, 0, 0, 0, 0, 0) from rfl) rfl rfl) ?_
            refine e_then (e_il1 hT (y := 141) (pc := 51) (q := (yX7_setSpeech, cX7_setSpeech, 4, (some .int), 7)) rfl (show aTab 141 51 = some (.iload_n 3, 1, 0, 0, 0, 0, 0, 0) from rfl) rfl rfl) ?_
            refine e_then (e_icT hT (y := 141) (pc := 52) (q := (yX7_setSpeech, cX7_setSpeech, 4, (some .int), 7)) rfl (show aTab 141 52 = some (.if_icmp .ne 6, 3, 0, 0, 0, 0, 0, 0) from rfl) rfl (t := 58) rfl (cdT (by show ¬ _ = _; exact fun z => c4 (Int32.toInt_inj.mp z)))) ?_
            refine e_then (e_al1 hT (y := 141) (pc := 58) (q := (yX7_setSpeech, cX7_setSpeech, 4, (some .int), 7)) rfl (show aTab 141 58 = some (.aload_n 0, 1, 0, 0, 0, 0, 0, 0) from rfl) rfl rfl) ?_
            refine e_then (e_getR hT (y := 141) (pc := 59) (q := (yX7_setSpeech, cX7_setSpeech, 4, (some .int), 7)) rfl (show aTab 141 59 = some (.getfield 15, 3, 0, 7, 2, 0, 0, 0) from rfl) rfl (by decide) (by decide) hM rfl rfl) ?_
            refine e_then (e_il1 hT (y := 141) (pc := 62) (q := (yX7_setSpeech, cX7_setSpeech, 4, (some .int), 7)) rfl (show aTab 141 62 = some (.iload_n 1, 1, 0, 0, 0, 0, 0, 0) from rfl) rfl rfl) ?_
            refine e_then (e_al1 hT (y := 141) (pc := 63) (q := (yX7_setSpeech, cX7_setSpeech, 4, (some .int), 7)) rfl (show aTab 141 63 = some (.aload_n 0, 1, 0, 0, 0, 0, 0, 0) from rfl) rfl rfl) ?_
            refine e_then (e_il1 hT (y := 141) (pc := 64) (q := (yX7_setSpeech, cX7_setSpeech, 4, (some .int), 7)) rfl (show aTab 141 64 = some (.iload_n 2, 1, 0, 0, 0, 0, 0, 0) from rfl) rfl rfl) ?_
            refine e_then (e_il1 hT (y := 141) (pc := 65) (q := (yX7_setSpeech, cX7_setSpeech, 4, (some .int), 7)) rfl (show aTab 141 65 = some (.iload_n 3, 1, 0, 0, 0, 0, 0, 0) from rfl) rfl rfl) ?_
            refine e_then (e_call hT (y := 141) (pc := 66) (q := (yX7_setSpeech, cX7_setSpeech, 4, (some .int), 7)) rfl (show aTab 141 66 = some (.invokevirtual 48, 3, 1, 139, 0, 2, 4, 7) from rfl) rfl ⟨by decide, Nat.le_of_ble_eq_true rfl⟩ (ob_at hM (rfl : tTy 40 = some (.inr (7, _)))).choose_spec (Nat.le_of_ble_eq_true rfl) (Nat.le_of_ble_eq_true rfl) ⟨by decide, by decide⟩ q4) ?_
            obtain ⟨m1, sm1, tm1, em1⟩ := s_ast (sc := none) (d := _) (lv := (lv_args 0 [.ref 49, .int h, .int a, .int b])) (st := []) (z := (hBit aa bb)) (i := h) hT (y := 141) (pc := 69) (q := (yX7_setSpeech, cX7_setSpeech, 4, (some .int), 7)) rfl (show aTab 141 69 = some (.iastore, 1, 0, 0, 0, 0, 0, 0) from rfl) rfl hM hg 42 hh rfl hhe.symm (by omega)
            refine e_then sm1 ?_
            refine e_then (e_st hT (y := 141) (pc := 70) (q := (yX7_setSpeech, cX7_setSpeech, 4, (some .int), 7)) rfl (show aTab 141 70 = some (.iconst 1, 1, 0, 0, 0, 0, 0, 0) from rfl) (fr' := (141, 71, (lv_args 0 [.ref 49, .int h, .int a, .int b]), [.int 1])) (M' := m1) rfl) ?_
            exact e_fin (e_iret hT (y := 141) (pc := 71) (q := (yX7_setSpeech, cX7_setSpeech, 4, (some .int), 7)) rfl (show aTab 141 71 = some (.ireturn, 1, 0, 0, 0, 0, 0, 0) from rfl) ⟨rfl, rfl⟩) ⟨⟨_, rfl⟩, tm1, 2, by decide, ⟨c1, hno, c2, c3, c4⟩, by show _ = up2 g 42 _ (hBit _ _); rw [e0, show a.toInt.toNat = aa by omega, show b.toInt.toNat = bb by omega]; exact em1⟩
        · rw [gB_f c3] at q3
          refine e_then (e_il1 hT (y := 141) (pc := 0) (q := (yX7_setSpeech, cX7_setSpeech, 4, (some .int), 7)) rfl (show aTab 141 0 = some (.iload_n 1, 1, 0, 0, 0, 0, 0, 0) from rfl) rfl rfl) ?_
          refine e_then (e_st hT (y := 141) (pc := 1) (q := (yX7_setSpeech, cX7_setSpeech, 4, (some .int), 7)) rfl (show aTab 141 1 = some (.iconst 0, 1, 0, 0, 0, 0, 0, 0) from rfl) (fr' := (141, 2, (lv_args 0 [.ref 49, .int h, .int a, .int b]), [.int 0, .int h])) (M' := M) rfl) ?_
          refine e_then (e_st hT (y := 141) (pc := 2) (q := (yX7_setSpeech, cX7_setSpeech, 4, (some .int), 7)) rfl (show aTab 141 2 = some (.bipush 7, 2, 0, 0, 0, 0, 0, 0) from rfl) (fr' := (141, 4, (lv_args 0 [.ref 49, .int h, .int a, .int b]), [.int 7, .int 0, .int h])) (M' := M) rfl) ?_
          refine e_then (e_callsN hT (y := 141) (pc := 4) (q := (yX7_setSpeech, cX7_setSpeech, 4, (some .int), 7)) rfl (show aTab 141 4 = some (.invokestatic 30, 3, 3, 234, 0, 3, 3, 11) from rfl) (Nat.le_of_ble_eq_true rfl) (Nat.le_of_ble_eq_true rfl) (Nat.le_of_ble_eq_true rfl) ⟨by decide, by decide⟩ q1) ?_
          refine e_then (e_ifT hT (y := 141) (pc := 7) (q := (yX7_setSpeech, cX7_setSpeech, 4, (some .int), 7)) rfl (show aTab 141 7 = some (.ifCond .ne 6, 3, 0, 0, 0, 0, 0, 0) from rfl) rfl (t := 13) rfl (cdT (by show ¬ (1 : Int32).toInt = 0; decide))) ?_
          refine e_then (e_il1 hT (y := 141) (pc := 13) (q := (yX7_setSpeech, cX7_setSpeech, 4, (some .int), 7)) rfl (show aTab 141 13 = some (.iload_n 2, 1, 0, 0, 0, 0, 0, 0) from rfl) rfl rfl) ?_
          refine e_then (e_st hT (y := 141) (pc := 14) (q := (yX7_setSpeech, cX7_setSpeech, 4, (some .int), 7)) rfl (show aTab 141 14 = some (.ldc 57, 2, 7, 0, (-1000000005), 0, 0, 0) from rfl) (fr' := (141, 16, (lv_args 0 [.ref 49, .int h, .int a, .int b]), [.int (-1000000005), .int a])) (M' := M) rfl) ?_
          refine e_then (e_icF hT (y := 141) (pc := 16) (q := (yX7_setSpeech, cX7_setSpeech, 4, (some .int), 7)) rfl (show aTab 141 16 = some (.if_icmp .eq 9, 3, 0, 0, 0, 0, 0, 0) from rfl) rfl (t := 25) rfl (cdF (by show ¬ _ = _; exact fun z => a1 (Int32.toInt_inj.mp z)))) ?_
          refine e_then (e_il1 hT (y := 141) (pc := 19) (q := (yX7_setSpeech, cX7_setSpeech, 4, (some .int), 7)) rfl (show aTab 141 19 = some (.iload_n 3, 1, 0, 0, 0, 0, 0, 0) from rfl) rfl rfl) ?_
          refine e_then (e_st hT (y := 141) (pc := 20) (q := (yX7_setSpeech, cX7_setSpeech, 4, (some .int), 7)) rfl (show aTab 141 20 = some (.ldc 57, 2, 7, 0, (-1000000005), 0, 0, 0) from rfl) (fr' := (141, 22, (lv_args 0 [.ref 49, .int h, .int a, .int b]), [.int (-1000000005), .int b])) (M' := M) rfl) ?_
          refine e_then (e_icT hT (y := 141) (pc := 22) (q := (yX7_setSpeech, cX7_setSpeech, 4, (some .int), 7)) rfl (show aTab 141 22 = some (.if_icmp .ne 12, 3, 0, 0, 0, 0, 0, 0) from rfl) rfl (t := 34) rfl (cdT (by show ¬ _ = _; exact fun z => b1 (Int32.toInt_inj.mp z)))) ?_
          refine e_then (e_al1 hT (y := 141) (pc := 34) (q := (yX7_setSpeech, cX7_setSpeech, 4, (some .int), 7)) rfl (show aTab 141 34 = some (.aload_n 0, 1, 0, 0, 0, 0, 0, 0) from rfl) rfl rfl) ?_
          refine e_then (e_il1 hT (y := 141) (pc := 35) (q := (yX7_setSpeech, cX7_setSpeech, 4, (some .int), 7)) rfl (show aTab 141 35 = some (.iload_n 2, 1, 0, 0, 0, 0, 0, 0) from rfl) rfl rfl) ?_
          refine e_then (e_call hT (y := 141) (pc := 36) (q := (yX7_setSpeech, cX7_setSpeech, 4, (some .int), 7)) rfl (show aTab 141 36 = some (.invokevirtual 43, 3, 1, 138, 0, 1, 2, 7) from rfl) rfl ⟨by decide, Nat.le_of_ble_eq_true rfl⟩ (ob_at hM (rfl : tTy 40 = some (.inr (7, _)))).choose_spec (Nat.le_of_ble_eq_true rfl) (Nat.le_of_ble_eq_true rfl) ⟨by decide, by decide⟩ q2) ?_
          refine e_then (e_ifF hT (y := 141) (pc := 39) (q := (yX7_setSpeech, cX7_setSpeech, 4, (some .int), 7)) rfl (show aTab 141 39 = some (.ifCond .eq 16, 3, 0, 0, 0, 0, 0, 0) from rfl) rfl (t := 55) rfl (cdF (by show ¬ (1 : Int32).toInt = 0; decide))) ?_
          refine e_then (e_al1 hT (y := 141) (pc := 42) (q := (yX7_setSpeech, cX7_setSpeech, 4, (some .int), 7)) rfl (show aTab 141 42 = some (.aload_n 0, 1, 0, 0, 0, 0, 0, 0) from rfl) rfl rfl) ?_
          refine e_then (e_il1 hT (y := 141) (pc := 43) (q := (yX7_setSpeech, cX7_setSpeech, 4, (some .int), 7)) rfl (show aTab 141 43 = some (.iload_n 3, 1, 0, 0, 0, 0, 0, 0) from rfl) rfl rfl) ?_
          refine e_then (e_call hT (y := 141) (pc := 44) (q := (yX7_setSpeech, cX7_setSpeech, 4, (some .int), 7)) rfl (show aTab 141 44 = some (.invokevirtual 43, 3, 1, 138, 0, 1, 2, 7) from rfl) rfl ⟨by decide, Nat.le_of_ble_eq_true rfl⟩ (ob_at hM (rfl : tTy 40 = some (.inr (7, _)))).choose_spec (Nat.le_of_ble_eq_true rfl) (Nat.le_of_ble_eq_true rfl) ⟨by decide, by decide⟩ q3) ?_
          refine e_then (e_ifT hT (y := 141) (pc := 47) (q := (yX7_setSpeech, cX7_setSpeech, 4, (some .int), 7)) rfl (show aTab 141 47 = some (.ifCond .eq 8, 3, 0, 0, 0, 0, 0, 0) from rfl) rfl (t := 55) rfl (cdT (by show (0 : Int32).toInt = 0; rfl))) ?_
          refine e_then (e_st hT (y := 141) (pc := 55) (q := (yX7_setSpeech, cX7_setSpeech, 4, (some .int), 7)) rfl (show aTab 141 55 = some (.ldc 47, 2, 7, 0, (-1000000001), 0, 0, 0) from rfl) (fr' := (141, 57, (lv_args 0 [.ref 49, .int h, .int a, .int b]), [.int (-1000000001)])) (M' := M) rfl) ?_
          exact e_fin (e_iret hT (y := 141) (pc := 57) (q := (yX7_setSpeech, cX7_setSpeech, 4, (some .int), 7)) rfl (show aTab 141 57 = some (.ireturn, 1, 0, 0, 0, 0, 0, 0) from rfl) ⟨rfl, rfl⟩) ⟨⟨_, rfl⟩, hM, 0, by decide, Or.inr ⟨hno, fun z => c3 z.2.1⟩, hg⟩
      · rw [gB_f c2] at q2
        refine e_then (e_il1 hT (y := 141) (pc := 0) (q := (yX7_setSpeech, cX7_setSpeech, 4, (some .int), 7)) rfl (show aTab 141 0 = some (.iload_n 1, 1, 0, 0, 0, 0, 0, 0) from rfl) rfl rfl) ?_
        refine e_then (e_st hT (y := 141) (pc := 1) (q := (yX7_setSpeech, cX7_setSpeech, 4, (some .int), 7)) rfl (show aTab 141 1 = some (.iconst 0, 1, 0, 0, 0, 0, 0, 0) from rfl) (fr' := (141, 2, (lv_args 0 [.ref 49, .int h, .int a, .int b]), [.int 0, .int h])) (M' := M) rfl) ?_
        refine e_then (e_st hT (y := 141) (pc := 2) (q := (yX7_setSpeech, cX7_setSpeech, 4, (some .int), 7)) rfl (show aTab 141 2 = some (.bipush 7, 2, 0, 0, 0, 0, 0, 0) from rfl) (fr' := (141, 4, (lv_args 0 [.ref 49, .int h, .int a, .int b]), [.int 7, .int 0, .int h])) (M' := M) rfl) ?_
        refine e_then (e_callsN hT (y := 141) (pc := 4) (q := (yX7_setSpeech, cX7_setSpeech, 4, (some .int), 7)) rfl (show aTab 141 4 = some (.invokestatic 30, 3, 3, 234, 0, 3, 3, 11) from rfl) (Nat.le_of_ble_eq_true rfl) (Nat.le_of_ble_eq_true rfl) (Nat.le_of_ble_eq_true rfl) ⟨by decide, by decide⟩ q1) ?_
        refine e_then (e_ifT hT (y := 141) (pc := 7) (q := (yX7_setSpeech, cX7_setSpeech, 4, (some .int), 7)) rfl (show aTab 141 7 = some (.ifCond .ne 6, 3, 0, 0, 0, 0, 0, 0) from rfl) rfl (t := 13) rfl (cdT (by show ¬ (1 : Int32).toInt = 0; decide))) ?_
        refine e_then (e_il1 hT (y := 141) (pc := 13) (q := (yX7_setSpeech, cX7_setSpeech, 4, (some .int), 7)) rfl (show aTab 141 13 = some (.iload_n 2, 1, 0, 0, 0, 0, 0, 0) from rfl) rfl rfl) ?_
        refine e_then (e_st hT (y := 141) (pc := 14) (q := (yX7_setSpeech, cX7_setSpeech, 4, (some .int), 7)) rfl (show aTab 141 14 = some (.ldc 57, 2, 7, 0, (-1000000005), 0, 0, 0) from rfl) (fr' := (141, 16, (lv_args 0 [.ref 49, .int h, .int a, .int b]), [.int (-1000000005), .int a])) (M' := M) rfl) ?_
        refine e_then (e_icF hT (y := 141) (pc := 16) (q := (yX7_setSpeech, cX7_setSpeech, 4, (some .int), 7)) rfl (show aTab 141 16 = some (.if_icmp .eq 9, 3, 0, 0, 0, 0, 0, 0) from rfl) rfl (t := 25) rfl (cdF (by show ¬ _ = _; exact fun z => a1 (Int32.toInt_inj.mp z)))) ?_
        refine e_then (e_il1 hT (y := 141) (pc := 19) (q := (yX7_setSpeech, cX7_setSpeech, 4, (some .int), 7)) rfl (show aTab 141 19 = some (.iload_n 3, 1, 0, 0, 0, 0, 0, 0) from rfl) rfl rfl) ?_
        refine e_then (e_st hT (y := 141) (pc := 20) (q := (yX7_setSpeech, cX7_setSpeech, 4, (some .int), 7)) rfl (show aTab 141 20 = some (.ldc 57, 2, 7, 0, (-1000000005), 0, 0, 0) from rfl) (fr' := (141, 22, (lv_args 0 [.ref 49, .int h, .int a, .int b]), [.int (-1000000005), .int b])) (M' := M) rfl) ?_
        refine e_then (e_icT hT (y := 141) (pc := 22) (q := (yX7_setSpeech, cX7_setSpeech, 4, (some .int), 7)) rfl (show aTab 141 22 = some (.if_icmp .ne 12, 3, 0, 0, 0, 0, 0, 0) from rfl) rfl (t := 34) rfl (cdT (by show ¬ _ = _; exact fun z => b1 (Int32.toInt_inj.mp z)))) ?_
        refine e_then (e_al1 hT (y := 141) (pc := 34) (q := (yX7_setSpeech, cX7_setSpeech, 4, (some .int), 7)) rfl (show aTab 141 34 = some (.aload_n 0, 1, 0, 0, 0, 0, 0, 0) from rfl) rfl rfl) ?_
        refine e_then (e_il1 hT (y := 141) (pc := 35) (q := (yX7_setSpeech, cX7_setSpeech, 4, (some .int), 7)) rfl (show aTab 141 35 = some (.iload_n 2, 1, 0, 0, 0, 0, 0, 0) from rfl) rfl rfl) ?_
        refine e_then (e_call hT (y := 141) (pc := 36) (q := (yX7_setSpeech, cX7_setSpeech, 4, (some .int), 7)) rfl (show aTab 141 36 = some (.invokevirtual 43, 3, 1, 138, 0, 1, 2, 7) from rfl) rfl ⟨by decide, Nat.le_of_ble_eq_true rfl⟩ (ob_at hM (rfl : tTy 40 = some (.inr (7, _)))).choose_spec (Nat.le_of_ble_eq_true rfl) (Nat.le_of_ble_eq_true rfl) ⟨by decide, by decide⟩ q2) ?_
        refine e_then (e_ifT hT (y := 141) (pc := 39) (q := (yX7_setSpeech, cX7_setSpeech, 4, (some .int), 7)) rfl (show aTab 141 39 = some (.ifCond .eq 16, 3, 0, 0, 0, 0, 0, 0) from rfl) rfl (t := 55) rfl (cdT (by show (0 : Int32).toInt = 0; rfl))) ?_
        refine e_then (e_st hT (y := 141) (pc := 55) (q := (yX7_setSpeech, cX7_setSpeech, 4, (some .int), 7)) rfl (show aTab 141 55 = some (.ldc 47, 2, 7, 0, (-1000000001), 0, 0, 0) from rfl) (fr' := (141, 57, (lv_args 0 [.ref 49, .int h, .int a, .int b]), [.int (-1000000001)])) (M' := M) rfl) ?_
        exact e_fin (e_iret hT (y := 141) (pc := 57) (q := (yX7_setSpeech, cX7_setSpeech, 4, (some .int), 7)) rfl (show aTab 141 57 = some (.ireturn, 1, 0, 0, 0, 0, 0, 0) from rfl) ⟨rfl, rfl⟩) ⟨⟨_, rfl⟩, hM, 0, by decide, Or.inr ⟨hno, fun z => c2 z.1⟩, hg⟩
    · rw [gB_f c1] at q1
      refine e_then (e_il1 hT (y := 141) (pc := 0) (q := (yX7_setSpeech, cX7_setSpeech, 4, (some .int), 7)) rfl (show aTab 141 0 = some (.iload_n 1, 1, 0, 0, 0, 0, 0, 0) from rfl) rfl rfl) ?_
      refine e_then (e_st hT (y := 141) (pc := 1) (q := (yX7_setSpeech, cX7_setSpeech, 4, (some .int), 7)) rfl (show aTab 141 1 = some (.iconst 0, 1, 0, 0, 0, 0, 0, 0) from rfl) (fr' := (141, 2, (lv_args 0 [.ref 49, .int h, .int a, .int b]), [.int 0, .int h])) (M' := M) rfl) ?_
      refine e_then (e_st hT (y := 141) (pc := 2) (q := (yX7_setSpeech, cX7_setSpeech, 4, (some .int), 7)) rfl (show aTab 141 2 = some (.bipush 7, 2, 0, 0, 0, 0, 0, 0) from rfl) (fr' := (141, 4, (lv_args 0 [.ref 49, .int h, .int a, .int b]), [.int 7, .int 0, .int h])) (M' := M) rfl) ?_
      refine e_then (e_callsN hT (y := 141) (pc := 4) (q := (yX7_setSpeech, cX7_setSpeech, 4, (some .int), 7)) rfl (show aTab 141 4 = some (.invokestatic 30, 3, 3, 234, 0, 3, 3, 11) from rfl) (Nat.le_of_ble_eq_true rfl) (Nat.le_of_ble_eq_true rfl) (Nat.le_of_ble_eq_true rfl) ⟨by decide, by decide⟩ q1) ?_
      refine e_then (e_ifF hT (y := 141) (pc := 7) (q := (yX7_setSpeech, cX7_setSpeech, 4, (some .int), 7)) rfl (show aTab 141 7 = some (.ifCond .ne 6, 3, 0, 0, 0, 0, 0, 0) from rfl) rfl (t := 13) rfl (cdF (by show ¬ ¬ (0 : Int32).toInt = 0; decide))) ?_
      refine e_then (e_st hT (y := 141) (pc := 10) (q := (yX7_setSpeech, cX7_setSpeech, 4, (some .int), 7)) rfl (show aTab 141 10 = some (.ldc 47, 2, 7, 0, (-1000000001), 0, 0, 0) from rfl) (fr' := (141, 12, (lv_args 0 [.ref 49, .int h, .int a, .int b]), [.int (-1000000001)])) (M' := M) rfl) ?_
      exact e_fin (e_iret hT (y := 141) (pc := 12) (q := (yX7_setSpeech, cX7_setSpeech, 4, (some .int), 7)) rfl (show aTab 141 12 = some (.ireturn, 1, 0, 0, 0, 0, 0, 0) from rfl) ⟨rfl, rfl⟩) ⟨⟨_, rfl⟩, hM, 0, by decide, Or.inl c1, hg⟩
  obtain ⟨K6, r6, M6, q6, ⟨x, rfl⟩, t6, f6⟩ := go
  have q6 := mRun_dm q6 (show 20 ≤ 29 by decide)
  refine e_then (e_al1 hT (y := 223) (pc := 0) (q := (yX11_speech, cX11_speech, 4, (some .int), 11)) rfl (show aTab 223 0 = some (.aload_n 0, 1, 0, 0, 0, 0, 0, 0) from rfl) rfl rfl) ?_
  refine e_then (e_getR hT (y := 223) (pc := 1) (q := (yX11_speech, cX11_speech, 4, (some .int), 11)) rfl (show aTab 223 1 = some (.getfield 12, 3, 0, 11, 0, 0, 0, 0) from rfl) rfl (by decide) (by decide) hM rfl rfl) ?_
  refine e_then (e_getR hT (y := 223) (pc := 4) (q := (yX11_speech, cX11_speech, 4, (some .int), 11)) rfl (show aTab 223 4 = some (.getfield 220, 3, 0, 1, 8, 0, 0, 0) from rfl) rfl (by decide) (by decide) hM rfl rfl) ?_
  refine e_then (e_il1 hT (y := 223) (pc := 7) (q := (yX11_speech, cX11_speech, 4, (some .int), 11)) rfl (show aTab 223 7 = some (.iload_n 1, 1, 0, 0, 0, 0, 0, 0) from rfl) rfl rfl) ?_
  refine e_then (e_il1 hT (y := 223) (pc := 8) (q := (yX11_speech, cX11_speech, 4, (some .int), 11)) rfl (show aTab 223 8 = some (.iload_n 2, 1, 0, 0, 0, 0, 0, 0) from rfl) rfl rfl) ?_
  refine e_then (e_il1 hT (y := 223) (pc := 9) (q := (yX11_speech, cX11_speech, 4, (some .int), 11)) rfl (show aTab 223 9 = some (.iload_n 3, 1, 0, 0, 0, 0, 0, 0) from rfl) rfl rfl) ?_
  refine e_then (e_call hT (y := 223) (pc := 10) (q := (yX11_speech, cX11_speech, 4, (some .int), 11)) rfl (show aTab 223 10 = some (.invokevirtual 231, 3, 1, 141, 0, 3, 4, 7) from rfl) rfl ⟨by decide, Nat.le_of_ble_eq_true rfl⟩ (ob_at hM (rfl : tTy 40 = some (.inr (7, _)))).choose_spec (Nat.le_of_ble_eq_true rfl) (Nat.le_of_ble_eq_true rfl) ⟨by decide, by decide⟩ q6) ?_
  exact e_fin (e_iret hT (y := 223) (pc := 13) (q := (yX11_speech, cX11_speech, 4, (some .int), 11)) rfl (show aTab 223 13 = some (.ireturn, 1, 0, 0, 0, 0, 0, 0) from rfl) ⟨rfl, rfl⟩) ⟨⟨_, rfl⟩, t6, f6⟩
theorem rse_run (hT : aTabOk) {M : mHe} (hM : yTy M) {g : Nat → Nat → Int32} (hg : rdI M = g) {h a b : Int32} : mEv none 20 (343, 0, lv_args 0 [.ref 128, .int h, .int a, .int b], []) M (fun r M' => (∃ x, r = some (.int x)) ∧ yTy M' ∧ ∃ s, s < 3 ∧ seOk h a b s ∧ rdI M' = rseG g h a b s) := by
  have km : (-1 : Int32).toInt = -1 := rfl
  obtain ⟨K1, q1⟩ := isIn_i hT (M := M) (v := h) (l := Int64.ofNat 0) (h := Int64.ofInt 7) (d := 19) (by decide)
  rw [show (Int64.ofNat 0).toInt = 0 from rfl, show (Int64.ofInt 7).toInt = 7 from rfl] at q1
  have dA : Decidable (tgOk a) := Classical.propDecidable _
  have dB : Decidable (tgOk b) := Classical.propDecidable _
  obtain ⟨K2, q2⟩ := rtg_run hT (M := M) (a := a) (d := 19) (by decide)
  obtain ⟨K3, q3⟩ := rtg_run hT (M := M) (a := b) (d := 19) (by decide)
  have go : ∀ (z : Int32) (lv : List (Nat × Value)), (z = 0 ∨ z = 1) → (z = 1 ↔ shN a b) → mlg 0 lv = some (.ref 128) → mlg 1 lv = some (.int h) → mlg 2 lv = some (.int a) → mlg 3 lv = some (.int b) → mlg 4 lv = some (.int z) → mEv none 20 (343, 19, lv, []) M (fun r M' => (∃ x, r = some (.int x)) ∧ yTy M' ∧ ∃ s, s < 3 ∧ seOk h a b s ∧ rdI M' = rseG g h a b s) := fun z lv hz hzn h0 h1 h2 h3 h4 => by
    by_cases c1 : 0 ≤ h.toInt ∧ h.toInt ≤ 7
    · rw [gB_t c1] at q1
      obtain ⟨hh, hhe⟩ : ∃ n : Nat, (n : Int) = h.toInt := ⟨h.toInt.toNat, by omega⟩
      have e0 : h.toInt.toNat = hh := by omega
      have hh' : h = Int32.ofNat hh := i32eq (by rw [i32n (by omega)]; omega)
      have x1 := rix1 (h := hh) (by omega)
      have x2 := rix2 (h := hh) (by omega)
      rw [← hh'] at x1 x2
      rcases hz with rfl | rfl
      · have hno : ¬ shN a b := fun z => absurd (hzn.mpr z) (by decide)
        by_cases c2 : tgOk a
        · rw [gB_t c2] at q2
          by_cases c3 : tgOk b
          · rw [gB_t c3] at q3
            by_cases c4 : a = b
            · skip
              refine e_then (e_il1 hT (y := 343) (pc := 19) (q := (yX12_speech, cX12_speech, 5, (some .int), 12)) rfl (show aTab 343 19 = some (.iload_n 1, 1, 0, 0, 0, 0, 0, 0) from rfl) rfl h1) ?_
              refine e_then (e_st hT (y := 343) (pc := 20) (q := (yX12_speech, cX12_speech, 5, (some .int), 12)) rfl (show aTab 343 20 = some (.i2l, 1, 0, 0, 0, 0, 0, 0) from rfl) (fr' := (343, 21, lv, [.long (h).toInt64])) (M' := M) rfl) ?_
              refine e_then (e_st hT (y := 343) (pc := 21) (q := (yX12_speech, cX12_speech, 5, (some .int), 12)) rfl (show aTab 343 21 = some (.lconst 0, 1, 0, 0, 0, 0, 0, 0) from rfl) (fr' := (343, 22, lv, [.long (Int64.ofNat 0), .long (h).toInt64])) (M' := M) rfl) ?_
              refine e_then (e_st hT (y := 343) (pc := 22) (q := (yX12_speech, cX12_speech, 5, (some .int), 12)) rfl (show aTab 343 22 = some (.ldc2_w 152, 3, 8, 0, 7, 0, 0, 0) from rfl) (fr' := (343, 25, lv, [.long (Int64.ofInt 7), .long (Int64.ofNat 0), .long (h).toInt64])) (M' := M) rfl) ?_
              refine e_then (e_calls hT (y := 343) (pc := 25) (q := (yX12_speech, cX12_speech, 5, (some .int), 12)) rfl (show aTab 343 25 = some (.invokestatic 65, 3, 2, 239, 0, 3, 6, 12) from rfl) (Nat.le_of_ble_eq_true rfl) (Nat.le_of_ble_eq_true rfl) (Nat.le_of_ble_eq_true rfl) ⟨by decide, by decide⟩ q1) ?_
              refine e_then (e_ifF hT (y := 343) (pc := 28) (q := (yX12_speech, cX12_speech, 5, (some .int), 12)) rfl (show aTab 343 28 = some (.ifCond .eq 27, 3, 0, 0, 0, 0, 0, 0) from rfl) rfl (t := 55) rfl (cdF (by show ¬ (1 : Int32).toInt = 0; decide))) ?_
              refine e_then (e_il2 hT (y := 343) (pc := 31) (q := (yX12_speech, cX12_speech, 5, (some .int), 12)) rfl (show aTab 343 31 = some (.iload 4, 2, 0, 0, 0, 0, 0, 0) from rfl) rfl h4) ?_
              refine e_then (e_ifF hT (y := 343) (pc := 33) (q := (yX12_speech, cX12_speech, 5, (some .int), 12)) rfl (show aTab 343 33 = some (.ifCond .ne 25, 3, 0, 0, 0, 0, 0, 0) from rfl) rfl (t := 58) rfl (cdF (by show ¬ ¬ (0 : Int32).toInt = 0; decide))) ?_
              refine e_then (e_il1 hT (y := 343) (pc := 36) (q := (yX12_speech, cX12_speech, 5, (some .int), 12)) rfl (show aTab 343 36 = some (.iload_n 2, 1, 0, 0, 0, 0, 0, 0) from rfl) rfl h2) ?_
              refine e_then (e_calls hT (y := 343) (pc := 37) (q := (yX12_speech, cX12_speech, 5, (some .int), 12)) rfl (show aTab 343 37 = some (.invokestatic 157, 3, 2, 252, 0, 1, 1, 12) from rfl) (Nat.le_of_ble_eq_true rfl) (Nat.le_of_ble_eq_true rfl) (Nat.le_of_ble_eq_true rfl) ⟨by decide, by decide⟩ q2) ?_
              refine e_then (e_ifF hT (y := 343) (pc := 40) (q := (yX12_speech, cX12_speech, 5, (some .int), 12)) rfl (show aTab 343 40 = some (.ifCond .eq 15, 3, 0, 0, 0, 0, 0, 0) from rfl) rfl (t := 55) rfl (cdF (by show ¬ (1 : Int32).toInt = 0; decide))) ?_
              refine e_then (e_il1 hT (y := 343) (pc := 43) (q := (yX12_speech, cX12_speech, 5, (some .int), 12)) rfl (show aTab 343 43 = some (.iload_n 3, 1, 0, 0, 0, 0, 0, 0) from rfl) rfl h3) ?_
              refine e_then (e_calls hT (y := 343) (pc := 44) (q := (yX12_speech, cX12_speech, 5, (some .int), 12)) rfl (show aTab 343 44 = some (.invokestatic 157, 3, 2, 252, 0, 1, 1, 12) from rfl) (Nat.le_of_ble_eq_true rfl) (Nat.le_of_ble_eq_true rfl) (Nat.le_of_ble_eq_true rfl) ⟨by decide, by decide⟩ q3) ?_
              refine e_then (e_ifF hT (y := 343) (pc := 47) (q := (yX12_speech, cX12_speech, 5, (some .int), 12)) rfl (show aTab 343 47 = some (.ifCond .eq 8, 3, 0, 0, 0, 0, 0, 0) from rfl) rfl (t := 55) rfl (cdF (by show ¬ (1 : Int32).toInt = 0; decide))) ?_
              refine e_then (e_il1 hT (y := 343) (pc := 50) (q := (yX12_speech, cX12_speech, 5, (some .int), 12)) rfl (show aTab 343 50 = some (.iload_n 2, 1, 0, 0, 0, 0, 0, 0) from rfl) rfl h2) ?_
              refine e_then (e_il1 hT (y := 343) (pc := 51) (q := (yX12_speech, cX12_speech, 5, (some .int), 12)) rfl (show aTab 343 51 = some (.iload_n 3, 1, 0, 0, 0, 0, 0, 0) from rfl) rfl h3) ?_
              refine e_then (e_icF hT (y := 343) (pc := 52) (q := (yX12_speech, cX12_speech, 5, (some .int), 12)) rfl (show aTab 343 52 = some (.if_icmp .ne 6, 3, 0, 0, 0, 0, 0, 0) from rfl) rfl (t := 58) rfl (cdF (by show ¬ ¬ _ = _; rw [c4]; exact fun z => z rfl))) ?_
              refine e_then (e_st hT (y := 343) (pc := 55) (q := (yX12_speech, cX12_speech, 5, (some .int), 12)) rfl (show aTab 343 55 = some (.ldc 89, 2, 7, 0, (-1000000001), 0, 0, 0) from rfl) (fr' := (343, 57, lv, [.int (-1000000001)])) (M' := M) rfl) ?_
              exact e_fin (e_iret hT (y := 343) (pc := 57) (q := (yX12_speech, cX12_speech, 5, (some .int), 12)) rfl (show aTab 343 57 = some (.ireturn, 1, 0, 0, 0, 0, 0, 0) from rfl) ⟨rfl, rfl⟩) ⟨⟨_, rfl⟩, hM, 0, by decide, Or.inr ⟨hno, fun z => z.2.2 c4⟩, hg⟩
            · have ca := c2
              have cb := c3
              unfold tgOk at ca cb
              refine e_then (e_il1 hT (y := 343) (pc := 19) (q := (yX12_speech, cX12_speech, 5, (some .int), 12)) rfl (show aTab 343 19 = some (.iload_n 1, 1, 0, 0, 0, 0, 0, 0) from rfl) rfl h1) ?_
              refine e_then (e_st hT (y := 343) (pc := 20) (q := (yX12_speech, cX12_speech, 5, (some .int), 12)) rfl (show aTab 343 20 = some (.i2l, 1, 0, 0, 0, 0, 0, 0) from rfl) (fr' := (343, 21, lv, [.long (h).toInt64])) (M' := M) rfl) ?_
              refine e_then (e_st hT (y := 343) (pc := 21) (q := (yX12_speech, cX12_speech, 5, (some .int), 12)) rfl (show aTab 343 21 = some (.lconst 0, 1, 0, 0, 0, 0, 0, 0) from rfl) (fr' := (343, 22, lv, [.long (Int64.ofNat 0), .long (h).toInt64])) (M' := M) rfl) ?_
              refine e_then (e_st hT (y := 343) (pc := 22) (q := (yX12_speech, cX12_speech, 5, (some .int), 12)) rfl (show aTab 343 22 = some (.ldc2_w 152, 3, 8, 0, 7, 0, 0, 0) from rfl) (fr' := (343, 25, lv, [.long (Int64.ofInt 7), .long (Int64.ofNat 0), .long (h).toInt64])) (M' := M) rfl) ?_
              refine e_then (e_calls hT (y := 343) (pc := 25) (q := (yX12_speech, cX12_speech, 5, (some .int), 12)) rfl (show aTab 343 25 = some (.invokestatic 65, 3, 2, 239, 0, 3, 6, 12) from rfl) (Nat.le_of_ble_eq_true rfl) (Nat.le_of_ble_eq_true rfl) (Nat.le_of_ble_eq_true rfl) ⟨by decide, by decide⟩ q1) ?_
              refine e_then (e_ifF hT (y := 343) (pc := 28) (q := (yX12_speech, cX12_speech, 5, (some .int), 12)) rfl (show aTab 343 28 = some (.ifCond .eq 27, 3, 0, 0, 0, 0, 0, 0) from rfl) rfl (t := 55) rfl (cdF (by show ¬ (1 : Int32).toInt = 0; decide))) ?_
              refine e_then (e_il2 hT (y := 343) (pc := 31) (q := (yX12_speech, cX12_speech, 5, (some .int), 12)) rfl (show aTab 343 31 = some (.iload 4, 2, 0, 0, 0, 0, 0, 0) from rfl) rfl h4) ?_
              refine e_then (e_ifF hT (y := 343) (pc := 33) (q := (yX12_speech, cX12_speech, 5, (some .int), 12)) rfl (show aTab 343 33 = some (.ifCond .ne 25, 3, 0, 0, 0, 0, 0, 0) from rfl) rfl (t := 58) rfl (cdF (by show ¬ ¬ (0 : Int32).toInt = 0; decide))) ?_
              refine e_then (e_il1 hT (y := 343) (pc := 36) (q := (yX12_speech, cX12_speech, 5, (some .int), 12)) rfl (show aTab 343 36 = some (.iload_n 2, 1, 0, 0, 0, 0, 0, 0) from rfl) rfl h2) ?_
              refine e_then (e_calls hT (y := 343) (pc := 37) (q := (yX12_speech, cX12_speech, 5, (some .int), 12)) rfl (show aTab 343 37 = some (.invokestatic 157, 3, 2, 252, 0, 1, 1, 12) from rfl) (Nat.le_of_ble_eq_true rfl) (Nat.le_of_ble_eq_true rfl) (Nat.le_of_ble_eq_true rfl) ⟨by decide, by decide⟩ q2) ?_
              refine e_then (e_ifF hT (y := 343) (pc := 40) (q := (yX12_speech, cX12_speech, 5, (some .int), 12)) rfl (show aTab 343 40 = some (.ifCond .eq 15, 3, 0, 0, 0, 0, 0, 0) from rfl) rfl (t := 55) rfl (cdF (by show ¬ (1 : Int32).toInt = 0; decide))) ?_
              refine e_then (e_il1 hT (y := 343) (pc := 43) (q := (yX12_speech, cX12_speech, 5, (some .int), 12)) rfl (show aTab 343 43 = some (.iload_n 3, 1, 0, 0, 0, 0, 0, 0) from rfl) rfl h3) ?_
              refine e_then (e_calls hT (y := 343) (pc := 44) (q := (yX12_speech, cX12_speech, 5, (some .int), 12)) rfl (show aTab 343 44 = some (.invokestatic 157, 3, 2, 252, 0, 1, 1, 12) from rfl) (Nat.le_of_ble_eq_true rfl) (Nat.le_of_ble_eq_true rfl) (Nat.le_of_ble_eq_true rfl) ⟨by decide, by decide⟩ q3) ?_
              refine e_then (e_ifF hT (y := 343) (pc := 47) (q := (yX12_speech, cX12_speech, 5, (some .int), 12)) rfl (show aTab 343 47 = some (.ifCond .eq 8, 3, 0, 0, 0, 0, 0, 0) from rfl) rfl (t := 55) rfl (cdF (by show ¬ (1 : Int32).toInt = 0; decide))) ?_
              refine e_then (e_il1 hT (y := 343) (pc := 50) (q := (yX12_speech, cX12_speech, 5, (some .int), 12)) rfl (show aTab 343 50 = some (.iload_n 2, 1, 0, 0, 0, 0, 0, 0) from rfl) rfl h2) ?_
              refine e_then (e_il1 hT (y := 343) (pc := 51) (q := (yX12_speech, cX12_speech, 5, (some .int), 12)) rfl (show aTab 343 51 = some (.iload_n 3, 1, 0, 0, 0, 0, 0, 0) from rfl) rfl h3) ?_
              refine e_then (e_icT hT (y := 343) (pc := 52) (q := (yX12_speech, cX12_speech, 5, (some .int), 12)) rfl (show aTab 343 52 = some (.if_icmp .ne 6, 3, 0, 0, 0, 0, 0, 0) from rfl) rfl (t := 58) rfl (cdT (by show ¬ _ = _; exact fun z => c4 (Int32.toInt_inj.mp z)))) ?_
              refine e_then (e_al1 hT (y := 343) (pc := 58) (q := (yX12_speech, cX12_speech, 5, (some .int), 12)) rfl (show aTab 343 58 = some (.aload_n 0, 1, 0, 0, 0, 0, 0, 0) from rfl) rfl h0) ?_
              refine e_then (e_getR hT (y := 343) (pc := 59) (q := (yX12_speech, cX12_speech, 5, (some .int), 12)) rfl (show aTab 343 59 = some (.getfield 7, 3, 0, 12, 0, 0, 0, 0) from rfl) rfl (by decide) (by decide) hM rfl rfl) ?_
              refine e_then (e_st hT (y := 343) (pc := 62) (q := (yX12_speech, cX12_speech, 5, (some .int), 12)) rfl (show aTab 343 62 = some (.sipush 3740, 3, 0, 0, 0, 0, 0, 0) from rfl) (fr' := (343, 65, lv, [.int 3740, .ref 129])) (M' := M) rfl) ?_
              refine e_then (e_st hT (y := 343) (pc := 65) (q := (yX12_speech, cX12_speech, 5, (some .int), 12)) rfl (show aTab 343 65 = some (.iconst 2, 1, 0, 0, 0, 0, 0, 0) from rfl) (fr' := (343, 66, lv, [.int 2, .int 3740, .ref 129])) (M' := M) rfl) ?_
              refine e_then (e_il1 hT (y := 343) (pc := 66) (q := (yX12_speech, cX12_speech, 5, (some .int), 12)) rfl (show aTab 343 66 = some (.iload_n 1, 1, 0, 0, 0, 0, 0, 0) from rfl) rfl h1) ?_
              refine e_then (e_st hT (y := 343) (pc := 67) (q := (yX12_speech, cX12_speech, 5, (some .int), 12)) rfl (show aTab 343 67 = some (.imul, 1, 0, 0, 0, 0, 0, 0) from rfl) (fr' := (343, 68, lv, [.int (2 * h), .int 3740, .ref 129])) (M' := M) rfl) ?_
              refine e_then (e_st hT (y := 343) (pc := 68) (q := (yX12_speech, cX12_speech, 5, (some .int), 12)) rfl (show aTab 343 68 = some (.iadd, 1, 0, 0, 0, 0, 0, 0) from rfl) (fr' := (343, 69, lv, [.int (3740 + (2 * h)), .ref 129])) (M' := M) rfl) ?_
              refine e_then (e_il2 hT (y := 343) (pc := 69) (q := (yX12_speech, cX12_speech, 5, (some .int), 12)) rfl (show aTab 343 69 = some (.iload 4, 2, 0, 0, 0, 0, 0, 0) from rfl) rfl h4) ?_
              refine e_then (e_ifT hT (y := 343) (pc := 71) (q := (yX12_speech, cX12_speech, 5, (some .int), 12)) rfl (show aTab 343 71 = some (.ifCond .eq 7, 3, 0, 0, 0, 0, 0, 0) from rfl) rfl (t := 78) rfl (cdT (by show (0 : Int32).toInt = 0; rfl))) ?_
              refine e_then (e_il1 hT (y := 343) (pc := 78) (q := (yX12_speech, cX12_speech, 5, (some .int), 12)) rfl (show aTab 343 78 = some (.iload_n 2, 1, 0, 0, 0, 0, 0, 0) from rfl) rfl h2) ?_
              obtain ⟨m1, sm1, tm1, em1⟩ := s_asb (sc := none) (d := _) (lv := lv) (st := []) (z := a) (i := (3740 + (2 * h))) (l := 3740) (h := 3755) (vl := 0) (vh := 6) hT (y := 343) (pc := 79) (q := (yX12_speech, cX12_speech, 5, (some .int), 12)) rfl (show aTab 343 79 = some (.iastore, 1, 0, 0, 0, 0, 0, 0) from rfl) rfl hM hg 120 (3740 + 2 * hh) rfl (by decide +kernel) x1 ⟨by omega, by omega⟩ ca
              refine e_then sm1 ?_
              refine e_then (e_al1 hT (y := 343) (pc := 80) (q := (yX12_speech, cX12_speech, 5, (some .int), 12)) rfl (show aTab 343 80 = some (.aload_n 0, 1, 0, 0, 0, 0, 0, 0) from rfl) rfl h0) ?_
              refine e_then (e_getR hT (y := 343) (pc := 81) (q := (yX12_speech, cX12_speech, 5, (some .int), 12)) rfl (show aTab 343 81 = some (.getfield 7, 3, 0, 12, 0, 0, 0, 0) from rfl) rfl (by decide) (by decide) tm1 rfl rfl) ?_
              refine e_then (e_st hT (y := 343) (pc := 84) (q := (yX12_speech, cX12_speech, 5, (some .int), 12)) rfl (show aTab 343 84 = some (.sipush 3740, 3, 0, 0, 0, 0, 0, 0) from rfl) (fr' := (343, 87, lv, [.int 3740, .ref 129])) (M' := m1) rfl) ?_
              refine e_then (e_st hT (y := 343) (pc := 87) (q := (yX12_speech, cX12_speech, 5, (some .int), 12)) rfl (show aTab 343 87 = some (.iconst 2, 1, 0, 0, 0, 0, 0, 0) from rfl) (fr' := (343, 88, lv, [.int 2, .int 3740, .ref 129])) (M' := m1) rfl) ?_
              refine e_then (e_il1 hT (y := 343) (pc := 88) (q := (yX12_speech, cX12_speech, 5, (some .int), 12)) rfl (show aTab 343 88 = some (.iload_n 1, 1, 0, 0, 0, 0, 0, 0) from rfl) rfl h1) ?_
              refine e_then (e_st hT (y := 343) (pc := 89) (q := (yX12_speech, cX12_speech, 5, (some .int), 12)) rfl (show aTab 343 89 = some (.imul, 1, 0, 0, 0, 0, 0, 0) from rfl) (fr' := (343, 90, lv, [.int (2 * h), .int 3740, .ref 129])) (M' := m1) rfl) ?_
              refine e_then (e_st hT (y := 343) (pc := 90) (q := (yX12_speech, cX12_speech, 5, (some .int), 12)) rfl (show aTab 343 90 = some (.iadd, 1, 0, 0, 0, 0, 0, 0) from rfl) (fr' := (343, 91, lv, [.int (3740 + (2 * h)), .ref 129])) (M' := m1) rfl) ?_
              refine e_then (e_st hT (y := 343) (pc := 91) (q := (yX12_speech, cX12_speech, 5, (some .int), 12)) rfl (show aTab 343 91 = some (.iconst 1, 1, 0, 0, 0, 0, 0, 0) from rfl) (fr' := (343, 92, lv, [.int 1, .int (3740 + (2 * h)), .ref 129])) (M' := m1) rfl) ?_
              refine e_then (e_st hT (y := 343) (pc := 92) (q := (yX12_speech, cX12_speech, 5, (some .int), 12)) rfl (show aTab 343 92 = some (.iadd, 1, 0, 0, 0, 0, 0, 0) from rfl) (fr' := (343, 93, lv, [.int ((3740 + (2 * h)) + 1), .ref 129])) (M' := m1) rfl) ?_
              refine e_then (e_il2 hT (y := 343) (pc := 93) (q := (yX12_speech, cX12_speech, 5, (some .int), 12)) rfl (show aTab 343 93 = some (.iload 4, 2, 0, 0, 0, 0, 0, 0) from rfl) rfl h4) ?_
              refine e_then (e_ifT hT (y := 343) (pc := 95) (q := (yX12_speech, cX12_speech, 5, (some .int), 12)) rfl (show aTab 343 95 = some (.ifCond .eq 7, 3, 0, 0, 0, 0, 0, 0) from rfl) rfl (t := 102) rfl (cdT (by show (0 : Int32).toInt = 0; rfl))) ?_
              refine e_then (e_il1 hT (y := 343) (pc := 102) (q := (yX12_speech, cX12_speech, 5, (some .int), 12)) rfl (show aTab 343 102 = some (.iload_n 3, 1, 0, 0, 0, 0, 0, 0) from rfl) rfl h3) ?_
              obtain ⟨m2, sm2, tm2, em2⟩ := s_asb (sc := none) (d := _) (lv := lv) (st := []) (z := b) (i := ((3740 + (2 * h)) + 1)) (l := 3740) (h := 3755) (vl := 0) (vh := 6) hT (y := 343) (pc := 103) (q := (yX12_speech, cX12_speech, 5, (some .int), 12)) rfl (show aTab 343 103 = some (.iastore, 1, 0, 0, 0, 0, 0, 0) from rfl) rfl tm1 em1 120 (3740 + 2 * hh + 1) rfl (by decide +kernel) x2 ⟨by omega, by omega⟩ cb
              refine e_then sm2 ?_
              refine e_then (e_st hT (y := 343) (pc := 104) (q := (yX12_speech, cX12_speech, 5, (some .int), 12)) rfl (show aTab 343 104 = some (.iconst 1, 1, 0, 0, 0, 0, 0, 0) from rfl) (fr' := (343, 105, lv, [.int 1])) (M' := m2) rfl) ?_
              exact e_fin (e_iret hT (y := 343) (pc := 105) (q := (yX12_speech, cX12_speech, 5, (some .int), 12)) rfl (show aTab 343 105 = some (.ireturn, 1, 0, 0, 0, 0, 0, 0) from rfl) ⟨rfl, rfl⟩) ⟨⟨_, rfl⟩, tm2, 2, by decide, ⟨c1, hno, c2, c3, c4⟩, by show _ = up2 (up2 g 120 _ a) 120 _ b; rw [e0]; exact em2⟩
          · rw [gB_f c3] at q3
            refine e_then (e_il1 hT (y := 343) (pc := 19) (q := (yX12_speech, cX12_speech, 5, (some .int), 12)) rfl (show aTab 343 19 = some (.iload_n 1, 1, 0, 0, 0, 0, 0, 0) from rfl) rfl h1) ?_
            refine e_then (e_st hT (y := 343) (pc := 20) (q := (yX12_speech, cX12_speech, 5, (some .int), 12)) rfl (show aTab 343 20 = some (.i2l, 1, 0, 0, 0, 0, 0, 0) from rfl) (fr' := (343, 21, lv, [.long (h).toInt64])) (M' := M) rfl) ?_
            refine e_then (e_st hT (y := 343) (pc := 21) (q := (yX12_speech, cX12_speech, 5, (some .int), 12)) rfl (show aTab 343 21 = some (.lconst 0, 1, 0, 0, 0, 0, 0, 0) from rfl) (fr' := (343, 22, lv, [.long (Int64.ofNat 0), .long (h).toInt64])) (M' := M) rfl) ?_
            refine e_then (e_st hT (y := 343) (pc := 22) (q := (yX12_speech, cX12_speech, 5, (some .int), 12)) rfl (show aTab 343 22 = some (.ldc2_w 152, 3, 8, 0, 7, 0, 0, 0) from rfl) (fr' := (343, 25, lv, [.long (Int64.ofInt 7), .long (Int64.ofNat 0), .long (h).toInt64])) (M' := M) rfl) ?_
            refine e_then (e_calls hT (y := 343) (pc := 25) (q := (yX12_speech, cX12_speech, 5, (some .int), 12)) rfl (show aTab 343 25 = some (.invokestatic 65, 3, 2, 239, 0, 3, 6, 12) from rfl) (Nat.le_of_ble_eq_true rfl) (Nat.le_of_ble_eq_true rfl) (Nat.le_of_ble_eq_true rfl) ⟨by decide, by decide⟩ q1) ?_
            refine e_then (e_ifF hT (y := 343) (pc := 28) (q := (yX12_speech, cX12_speech, 5, (some .int), 12)) rfl (show aTab 343 28 = some (.ifCond .eq 27, 3, 0, 0, 0, 0, 0, 0) from rfl) rfl (t := 55) rfl (cdF (by show ¬ (1 : Int32).toInt = 0; decide))) ?_
            refine e_then (e_il2 hT (y := 343) (pc := 31) (q := (yX12_speech, cX12_speech, 5, (some .int), 12)) rfl (show aTab 343 31 = some (.iload 4, 2, 0, 0, 0, 0, 0, 0) from rfl) rfl h4) ?_
            refine e_then (e_ifF hT (y := 343) (pc := 33) (q := (yX12_speech, cX12_speech, 5, (some .int), 12)) rfl (show aTab 343 33 = some (.ifCond .ne 25, 3, 0, 0, 0, 0, 0, 0) from rfl) rfl (t := 58) rfl (cdF (by show ¬ ¬ (0 : Int32).toInt = 0; decide))) ?_
            refine e_then (e_il1 hT (y := 343) (pc := 36) (q := (yX12_speech, cX12_speech, 5, (some .int), 12)) rfl (show aTab 343 36 = some (.iload_n 2, 1, 0, 0, 0, 0, 0, 0) from rfl) rfl h2) ?_
            refine e_then (e_calls hT (y := 343) (pc := 37) (q := (yX12_speech, cX12_speech, 5, (some .int), 12)) rfl (show aTab 343 37 = some (.invokestatic 157, 3, 2, 252, 0, 1, 1, 12) from rfl) (Nat.le_of_ble_eq_true rfl) (Nat.le_of_ble_eq_true rfl) (Nat.le_of_ble_eq_true rfl) ⟨by decide, by decide⟩ q2) ?_
            refine e_then (e_ifF hT (y := 343) (pc := 40) (q := (yX12_speech, cX12_speech, 5, (some .int), 12)) rfl (show aTab 343 40 = some (.ifCond .eq 15, 3, 0, 0, 0, 0, 0, 0) from rfl) rfl (t := 55) rfl (cdF (by show ¬ (1 : Int32).toInt = 0; decide))) ?_
            refine e_then (e_il1 hT (y := 343) (pc := 43) (q := (yX12_speech, cX12_speech, 5, (some .int), 12)) rfl (show aTab 343 43 = some (.iload_n 3, 1, 0, 0, 0, 0, 0, 0) from rfl) rfl h3) ?_
            refine e_then (e_calls hT (y := 343) (pc := 44) (q := (yX12_speech, cX12_speech, 5, (some .int), 12)) rfl (show aTab 343 44 = some (.invokestatic 157, 3, 2, 252, 0, 1, 1, 12) from rfl) (Nat.le_of_ble_eq_true rfl) (Nat.le_of_ble_eq_true rfl) (Nat.le_of_ble_eq_true rfl) ⟨by decide, by decide⟩ q3) ?_
            refine e_then (e_ifT hT (y := 343) (pc := 47) (q := (yX12_speech, cX12_speech, 5, (some .int), 12)) rfl (show aTab 343 47 = some (.ifCond .eq 8, 3, 0, 0, 0, 0, 0, 0) from rfl) rfl (t := 55) rfl (cdT (by show (0 : Int32).toInt = 0; rfl))) ?_
            refine e_then (e_st hT (y := 343) (pc := 55) (q := (yX12_speech, cX12_speech, 5, (some .int), 12)) rfl (show aTab 343 55 = some (.ldc 89, 2, 7, 0, (-1000000001), 0, 0, 0) from rfl) (fr' := (343, 57, lv, [.int (-1000000001)])) (M' := M) rfl) ?_
            exact e_fin (e_iret hT (y := 343) (pc := 57) (q := (yX12_speech, cX12_speech, 5, (some .int), 12)) rfl (show aTab 343 57 = some (.ireturn, 1, 0, 0, 0, 0, 0, 0) from rfl) ⟨rfl, rfl⟩) ⟨⟨_, rfl⟩, hM, 0, by decide, Or.inr ⟨hno, fun z => c3 z.2.1⟩, hg⟩
        · rw [gB_f c2] at q2
          refine e_then (e_il1 hT (y := 343) (pc := 19) (q := (yX12_speech, cX12_speech, 5, (some .int), 12)) rfl (show aTab 343 19 = some (.iload_n 1, 1, 0, 0, 0, 0, 0, 0) from rfl) rfl h1) ?_
          refine e_then (e_st hT (y := 343) (pc := 20) (q := (yX12_speech, cX12_speech, 5, (some .int), 12)) rfl (show aTab 343 20 = some (.i2l, 1, 0, 0, 0, 0, 0, 0) from rfl) (fr' := (343, 21, lv, [.long (h).toInt64])) (M' := M) rfl) ?_
          refine e_then (e_st hT (y := 343) (pc := 21) (q := (yX12_speech, cX12_speech, 5, (some .int), 12)) rfl (show aTab 343 21 = some (.lconst 0, 1, 0, 0, 0, 0, 0, 0) from rfl) (fr' := (343, 22, lv, [.long (Int64.ofNat 0), .long (h).toInt64])) (M' := M) rfl) ?_
          refine e_then (e_st hT (y := 343) (pc := 22) (q := (yX12_speech, cX12_speech, 5, (some .int), 12)) rfl (show aTab 343 22 = some (.ldc2_w 152, 3, 8, 0, 7, 0, 0, 0) from rfl) (fr' := (343, 25, lv, [.long (Int64.ofInt 7), .long (Int64.ofNat 0), .long (h).toInt64])) (M' := M) rfl) ?_
          refine e_then (e_calls hT (y := 343) (pc := 25) (q := (yX12_speech, cX12_speech, 5, (some .int), 12)) rfl (show aTab 343 25 = some (.invokestatic 65, 3, 2, 239, 0, 3, 6, 12) from rfl) (Nat.le_of_ble_eq_true rfl) (Nat.le_of_ble_eq_true rfl) (Nat.le_of_ble_eq_true rfl) ⟨by decide, by decide⟩ q1) ?_
          refine e_then (e_ifF hT (y := 343) (pc := 28) (q := (yX12_speech, cX12_speech, 5, (some .int), 12)) rfl (show aTab 343 28 = some (.ifCond .eq 27, 3, 0, 0, 0, 0, 0, 0) from rfl) rfl (t := 55) rfl (cdF (by show ¬ (1 : Int32).toInt = 0; decide))) ?_
          refine e_then (e_il2 hT (y := 343) (pc := 31) (q := (yX12_speech, cX12_speech, 5, (some .int), 12)) rfl (show aTab 343 31 = some (.iload 4, 2, 0, 0, 0, 0, 0, 0) from rfl) rfl h4) ?_
          refine e_then (e_ifF hT (y := 343) (pc := 33) (q := (yX12_speech, cX12_speech, 5, (some .int), 12)) rfl (show aTab 343 33 = some (.ifCond .ne 25, 3, 0, 0, 0, 0, 0, 0) from rfl) rfl (t := 58) rfl (cdF (by show ¬ ¬ (0 : Int32).toInt = 0; decide))) ?_
          refine e_then (e_il1 hT (y := 343) (pc := 36) (q := (yX12_speech, cX12_speech, 5, (some .int), 12)) rfl (show aTab 343 36 = some (.iload_n 2, 1, 0, 0, 0, 0, 0, 0) from rfl) rfl h2) ?_
          refine e_then (e_calls hT (y := 343) (pc := 37) (q := (yX12_speech, cX12_speech, 5, (some .int), 12)) rfl (show aTab 343 37 = some (.invokestatic 157, 3, 2, 252, 0, 1, 1, 12) from rfl) (Nat.le_of_ble_eq_true rfl) (Nat.le_of_ble_eq_true rfl) (Nat.le_of_ble_eq_true rfl) ⟨by decide, by decide⟩ q2) ?_
          refine e_then (e_ifT hT (y := 343) (pc := 40) (q := (yX12_speech, cX12_speech, 5, (some .int), 12)) rfl (show aTab 343 40 = some (.ifCond .eq 15, 3, 0, 0, 0, 0, 0, 0) from rfl) rfl (t := 55) rfl (cdT (by show (0 : Int32).toInt = 0; rfl))) ?_
          refine e_then (e_st hT (y := 343) (pc := 55) (q := (yX12_speech, cX12_speech, 5, (some .int), 12)) rfl (show aTab 343 55 = some (.ldc 89, 2, 7, 0, (-1000000001), 0, 0, 0) from rfl) (fr' := (343, 57, lv, [.int (-1000000001)])) (M' := M) rfl) ?_
          exact e_fin (e_iret hT (y := 343) (pc := 57) (q := (yX12_speech, cX12_speech, 5, (some .int), 12)) rfl (show aTab 343 57 = some (.ireturn, 1, 0, 0, 0, 0, 0, 0) from rfl) ⟨rfl, rfl⟩) ⟨⟨_, rfl⟩, hM, 0, by decide, Or.inr ⟨hno, fun z => c2 z.1⟩, hg⟩
      · have hno : shN a b := hzn.mp rfl
        refine e_then (e_il1 hT (y := 343) (pc := 19) (q := (yX12_speech, cX12_speech, 5, (some .int), 12)) rfl (show aTab 343 19 = some (.iload_n 1, 1, 0, 0, 0, 0, 0, 0) from rfl) rfl h1) ?_
        refine e_then (e_st hT (y := 343) (pc := 20) (q := (yX12_speech, cX12_speech, 5, (some .int), 12)) rfl (show aTab 343 20 = some (.i2l, 1, 0, 0, 0, 0, 0, 0) from rfl) (fr' := (343, 21, lv, [.long (h).toInt64])) (M' := M) rfl) ?_
        refine e_then (e_st hT (y := 343) (pc := 21) (q := (yX12_speech, cX12_speech, 5, (some .int), 12)) rfl (show aTab 343 21 = some (.lconst 0, 1, 0, 0, 0, 0, 0, 0) from rfl) (fr' := (343, 22, lv, [.long (Int64.ofNat 0), .long (h).toInt64])) (M' := M) rfl) ?_
        refine e_then (e_st hT (y := 343) (pc := 22) (q := (yX12_speech, cX12_speech, 5, (some .int), 12)) rfl (show aTab 343 22 = some (.ldc2_w 152, 3, 8, 0, 7, 0, 0, 0) from rfl) (fr' := (343, 25, lv, [.long (Int64.ofInt 7), .long (Int64.ofNat 0), .long (h).toInt64])) (M' := M) rfl) ?_
        refine e_then (e_calls hT (y := 343) (pc := 25) (q := (yX12_speech, cX12_speech, 5, (some .int), 12)) rfl (show aTab 343 25 = some (.invokestatic 65, 3, 2, 239, 0, 3, 6, 12) from rfl) (Nat.le_of_ble_eq_true rfl) (Nat.le_of_ble_eq_true rfl) (Nat.le_of_ble_eq_true rfl) ⟨by decide, by decide⟩ q1) ?_
        refine e_then (e_ifF hT (y := 343) (pc := 28) (q := (yX12_speech, cX12_speech, 5, (some .int), 12)) rfl (show aTab 343 28 = some (.ifCond .eq 27, 3, 0, 0, 0, 0, 0, 0) from rfl) rfl (t := 55) rfl (cdF (by show ¬ (1 : Int32).toInt = 0; decide))) ?_
        refine e_then (e_il2 hT (y := 343) (pc := 31) (q := (yX12_speech, cX12_speech, 5, (some .int), 12)) rfl (show aTab 343 31 = some (.iload 4, 2, 0, 0, 0, 0, 0, 0) from rfl) rfl h4) ?_
        refine e_then (e_ifT hT (y := 343) (pc := 33) (q := (yX12_speech, cX12_speech, 5, (some .int), 12)) rfl (show aTab 343 33 = some (.ifCond .ne 25, 3, 0, 0, 0, 0, 0, 0) from rfl) rfl (t := 58) rfl (cdT (by show ¬ (1 : Int32).toInt = 0; decide))) ?_
        refine e_then (e_al1 hT (y := 343) (pc := 58) (q := (yX12_speech, cX12_speech, 5, (some .int), 12)) rfl (show aTab 343 58 = some (.aload_n 0, 1, 0, 0, 0, 0, 0, 0) from rfl) rfl h0) ?_
        refine e_then (e_getR hT (y := 343) (pc := 59) (q := (yX12_speech, cX12_speech, 5, (some .int), 12)) rfl (show aTab 343 59 = some (.getfield 7, 3, 0, 12, 0, 0, 0, 0) from rfl) rfl (by decide) (by decide) hM rfl rfl) ?_
        refine e_then (e_st hT (y := 343) (pc := 62) (q := (yX12_speech, cX12_speech, 5, (some .int), 12)) rfl (show aTab 343 62 = some (.sipush 3740, 3, 0, 0, 0, 0, 0, 0) from rfl) (fr' := (343, 65, lv, [.int 3740, .ref 129])) (M' := M) rfl) ?_
        refine e_then (e_st hT (y := 343) (pc := 65) (q := (yX12_speech, cX12_speech, 5, (some .int), 12)) rfl (show aTab 343 65 = some (.iconst 2, 1, 0, 0, 0, 0, 0, 0) from rfl) (fr' := (343, 66, lv, [.int 2, .int 3740, .ref 129])) (M' := M) rfl) ?_
        refine e_then (e_il1 hT (y := 343) (pc := 66) (q := (yX12_speech, cX12_speech, 5, (some .int), 12)) rfl (show aTab 343 66 = some (.iload_n 1, 1, 0, 0, 0, 0, 0, 0) from rfl) rfl h1) ?_
        refine e_then (e_st hT (y := 343) (pc := 67) (q := (yX12_speech, cX12_speech, 5, (some .int), 12)) rfl (show aTab 343 67 = some (.imul, 1, 0, 0, 0, 0, 0, 0) from rfl) (fr' := (343, 68, lv, [.int (2 * h), .int 3740, .ref 129])) (M' := M) rfl) ?_
        refine e_then (e_st hT (y := 343) (pc := 68) (q := (yX12_speech, cX12_speech, 5, (some .int), 12)) rfl (show aTab 343 68 = some (.iadd, 1, 0, 0, 0, 0, 0, 0) from rfl) (fr' := (343, 69, lv, [.int (3740 + (2 * h)), .ref 129])) (M' := M) rfl) ?_
        refine e_then (e_il2 hT (y := 343) (pc := 69) (q := (yX12_speech, cX12_speech, 5, (some .int), 12)) rfl (show aTab 343 69 = some (.iload 4, 2, 0, 0, 0, 0, 0, 0) from rfl) rfl h4) ?_
        refine e_then (e_ifF hT (y := 343) (pc := 71) (q := (yX12_speech, cX12_speech, 5, (some .int), 12)) rfl (show aTab 343 71 = some (.ifCond .eq 7, 3, 0, 0, 0, 0, 0, 0) from rfl) rfl (t := 78) rfl (cdF (by show ¬ (1 : Int32).toInt = 0; decide))) ?_
        refine e_then (e_st hT (y := 343) (pc := 74) (q := (yX12_speech, cX12_speech, 5, (some .int), 12)) rfl (show aTab 343 74 = some (.iconst (-1), 1, 0, 0, 0, 0, 0, 0) from rfl) (fr' := (343, 75, lv, [.int (-1), .int (3740 + (2 * h)), .ref 129])) (M' := M) rfl) ?_
        refine e_then (e_st hT (y := 343) (pc := 75) (q := (yX12_speech, cX12_speech, 5, (some .int), 12)) rfl (show aTab 343 75 = some (.goto 4, 3, 0, 0, 0, 0, 0, 0) from rfl) (fr' := (343, 79, lv, [.int (-1), .int (3740 + (2 * h)), .ref 129])) (M' := M) rfl) ?_
        obtain ⟨m1, sm1, tm1, em1⟩ := s_asb (sc := none) (d := _) (lv := lv) (st := []) (z := (-1)) (i := (3740 + (2 * h))) (l := 3740) (h := 3755) (vl := (-1)) (vh := (-1)) hT (y := 343) (pc := 79) (q := (yX12_speech, cX12_speech, 5, (some .int), 12)) rfl (show aTab 343 79 = some (.iastore, 1, 0, 0, 0, 0, 0, 0) from rfl) rfl hM hg 120 (3740 + 2 * hh) rfl (by decide +kernel) x1 ⟨by omega, by omega⟩ ⟨by decide, by decide⟩
        refine e_then sm1 ?_
        refine e_then (e_al1 hT (y := 343) (pc := 80) (q := (yX12_speech, cX12_speech, 5, (some .int), 12)) rfl (show aTab 343 80 = some (.aload_n 0, 1, 0, 0, 0, 0, 0, 0) from rfl) rfl h0) ?_
        refine e_then (e_getR hT (y := 343) (pc := 81) (q := (yX12_speech, cX12_speech, 5, (some .int), 12)) rfl (show aTab 343 81 = some (.getfield 7, 3, 0, 12, 0, 0, 0, 0) from rfl) rfl (by decide) (by decide) tm1 rfl rfl) ?_
        refine e_then (e_st hT (y := 343) (pc := 84) (q := (yX12_speech, cX12_speech, 5, (some .int), 12)) rfl (show aTab 343 84 = some (.sipush 3740, 3, 0, 0, 0, 0, 0, 0) from rfl) (fr' := (343, 87, lv, [.int 3740, .ref 129])) (M' := m1) rfl) ?_
        refine e_then (e_st hT (y := 343) (pc := 87) (q := (yX12_speech, cX12_speech, 5, (some .int), 12)) rfl (show aTab 343 87 = some (.iconst 2, 1, 0, 0, 0, 0, 0, 0) from rfl) (fr' := (343, 88, lv, [.int 2, .int 3740, .ref 129])) (M' := m1) rfl) ?_
        refine e_then (e_il1 hT (y := 343) (pc := 88) (q := (yX12_speech, cX12_speech, 5, (some .int), 12)) rfl (show aTab 343 88 = some (.iload_n 1, 1, 0, 0, 0, 0, 0, 0) from rfl) rfl h1) ?_
        refine e_then (e_st hT (y := 343) (pc := 89) (q := (yX12_speech, cX12_speech, 5, (some .int), 12)) rfl (show aTab 343 89 = some (.imul, 1, 0, 0, 0, 0, 0, 0) from rfl) (fr' := (343, 90, lv, [.int (2 * h), .int 3740, .ref 129])) (M' := m1) rfl) ?_
        refine e_then (e_st hT (y := 343) (pc := 90) (q := (yX12_speech, cX12_speech, 5, (some .int), 12)) rfl (show aTab 343 90 = some (.iadd, 1, 0, 0, 0, 0, 0, 0) from rfl) (fr' := (343, 91, lv, [.int (3740 + (2 * h)), .ref 129])) (M' := m1) rfl) ?_
        refine e_then (e_st hT (y := 343) (pc := 91) (q := (yX12_speech, cX12_speech, 5, (some .int), 12)) rfl (show aTab 343 91 = some (.iconst 1, 1, 0, 0, 0, 0, 0, 0) from rfl) (fr' := (343, 92, lv, [.int 1, .int (3740 + (2 * h)), .ref 129])) (M' := m1) rfl) ?_
        refine e_then (e_st hT (y := 343) (pc := 92) (q := (yX12_speech, cX12_speech, 5, (some .int), 12)) rfl (show aTab 343 92 = some (.iadd, 1, 0, 0, 0, 0, 0, 0) from rfl) (fr' := (343, 93, lv, [.int ((3740 + (2 * h)) + 1), .ref 129])) (M' := m1) rfl) ?_
        refine e_then (e_il2 hT (y := 343) (pc := 93) (q := (yX12_speech, cX12_speech, 5, (some .int), 12)) rfl (show aTab 343 93 = some (.iload 4, 2, 0, 0, 0, 0, 0, 0) from rfl) rfl h4) ?_
        refine e_then (e_ifF hT (y := 343) (pc := 95) (q := (yX12_speech, cX12_speech, 5, (some .int), 12)) rfl (show aTab 343 95 = some (.ifCond .eq 7, 3, 0, 0, 0, 0, 0, 0) from rfl) rfl (t := 102) rfl (cdF (by show ¬ (1 : Int32).toInt = 0; decide))) ?_
        refine e_then (e_st hT (y := 343) (pc := 98) (q := (yX12_speech, cX12_speech, 5, (some .int), 12)) rfl (show aTab 343 98 = some (.iconst (-1), 1, 0, 0, 0, 0, 0, 0) from rfl) (fr' := (343, 99, lv, [.int (-1), .int ((3740 + (2 * h)) + 1), .ref 129])) (M' := m1) rfl) ?_
        refine e_then (e_st hT (y := 343) (pc := 99) (q := (yX12_speech, cX12_speech, 5, (some .int), 12)) rfl (show aTab 343 99 = some (.goto 4, 3, 0, 0, 0, 0, 0, 0) from rfl) (fr' := (343, 103, lv, [.int (-1), .int ((3740 + (2 * h)) + 1), .ref 129])) (M' := m1) rfl) ?_
        obtain ⟨m2, sm2, tm2, em2⟩ := s_asb (sc := none) (d := _) (lv := lv) (st := []) (z := (-1)) (i := ((3740 + (2 * h)) + 1)) (l := 3740) (h := 3755) (vl := (-1)) (vh := (-1)) hT (y := 343) (pc := 103) (q := (yX12_speech, cX12_speech, 5, (some .int), 12)) rfl (show aTab 343 103 = some (.iastore, 1, 0, 0, 0, 0, 0, 0) from rfl) rfl tm1 em1 120 (3740 + 2 * hh + 1) rfl (by decide +kernel) x2 ⟨by omega, by omega⟩ ⟨by decide, by decide⟩
        refine e_then sm2 ?_
        refine e_then (e_st hT (y := 343) (pc := 104) (q := (yX12_speech, cX12_speech, 5, (some .int), 12)) rfl (show aTab 343 104 = some (.iconst 1, 1, 0, 0, 0, 0, 0, 0) from rfl) (fr' := (343, 105, lv, [.int 1])) (M' := m2) rfl) ?_
        exact e_fin (e_iret hT (y := 343) (pc := 105) (q := (yX12_speech, cX12_speech, 5, (some .int), 12)) rfl (show aTab 343 105 = some (.ireturn, 1, 0, 0, 0, 0, 0, 0) from rfl) ⟨rfl, rfl⟩) ⟨⟨_, rfl⟩, tm2, 1, by decide, ⟨c1, hno⟩, by show _ = up2 (up2 g 120 _ (-1)) 120 _ (-1); rw [e0]; exact em2⟩
    · rw [gB_f c1] at q1
      refine e_then (e_il1 hT (y := 343) (pc := 19) (q := (yX12_speech, cX12_speech, 5, (some .int), 12)) rfl (show aTab 343 19 = some (.iload_n 1, 1, 0, 0, 0, 0, 0, 0) from rfl) rfl h1) ?_
      refine e_then (e_st hT (y := 343) (pc := 20) (q := (yX12_speech, cX12_speech, 5, (some .int), 12)) rfl (show aTab 343 20 = some (.i2l, 1, 0, 0, 0, 0, 0, 0) from rfl) (fr' := (343, 21, lv, [.long (h).toInt64])) (M' := M) rfl) ?_
      refine e_then (e_st hT (y := 343) (pc := 21) (q := (yX12_speech, cX12_speech, 5, (some .int), 12)) rfl (show aTab 343 21 = some (.lconst 0, 1, 0, 0, 0, 0, 0, 0) from rfl) (fr' := (343, 22, lv, [.long (Int64.ofNat 0), .long (h).toInt64])) (M' := M) rfl) ?_
      refine e_then (e_st hT (y := 343) (pc := 22) (q := (yX12_speech, cX12_speech, 5, (some .int), 12)) rfl (show aTab 343 22 = some (.ldc2_w 152, 3, 8, 0, 7, 0, 0, 0) from rfl) (fr' := (343, 25, lv, [.long (Int64.ofInt 7), .long (Int64.ofNat 0), .long (h).toInt64])) (M' := M) rfl) ?_
      refine e_then (e_calls hT (y := 343) (pc := 25) (q := (yX12_speech, cX12_speech, 5, (some .int), 12)) rfl (show aTab 343 25 = some (.invokestatic 65, 3, 2, 239, 0, 3, 6, 12) from rfl) (Nat.le_of_ble_eq_true rfl) (Nat.le_of_ble_eq_true rfl) (Nat.le_of_ble_eq_true rfl) ⟨by decide, by decide⟩ q1) ?_
      refine e_then (e_ifT hT (y := 343) (pc := 28) (q := (yX12_speech, cX12_speech, 5, (some .int), 12)) rfl (show aTab 343 28 = some (.ifCond .eq 27, 3, 0, 0, 0, 0, 0, 0) from rfl) rfl (t := 55) rfl (cdT (by show (0 : Int32).toInt = 0; rfl))) ?_
      refine e_then (e_st hT (y := 343) (pc := 55) (q := (yX12_speech, cX12_speech, 5, (some .int), 12)) rfl (show aTab 343 55 = some (.ldc 89, 2, 7, 0, (-1000000001), 0, 0, 0) from rfl) (fr' := (343, 57, lv, [.int (-1000000001)])) (M' := M) rfl) ?_
      exact e_fin (e_iret hT (y := 343) (pc := 57) (q := (yX12_speech, cX12_speech, 5, (some .int), 12)) rfl (show aTab 343 57 = some (.ireturn, 1, 0, 0, 0, 0, 0, 0) from rfl) ⟨rfl, rfl⟩) ⟨⟨_, rfl⟩, hM, 0, by decide, Or.inl c1, hg⟩
  by_cases a1 : a = -1000000005
  · skip
    refine e_then (e_il1 hT (y := 343) (pc := 0) (q := (yX12_speech, cX12_speech, 5, (some .int), 12)) rfl (show aTab 343 0 = some (.iload_n 2, 1, 0, 0, 0, 0, 0, 0) from rfl) rfl rfl) ?_
    refine e_then (e_st hT (y := 343) (pc := 1) (q := (yX12_speech, cX12_speech, 5, (some .int), 12)) rfl (show aTab 343 1 = some (.ldc 64, 2, 7, 0, (-1000000005), 0, 0, 0) from rfl) (fr' := (343, 3, (lv_args 0 [.ref 128, .int h, .int a, .int b]), [.int (-1000000005), .int a])) (M' := M) rfl) ?_
    refine e_then (e_icT hT (y := 343) (pc := 3) (q := (yX12_speech, cX12_speech, 5, (some .int), 12)) rfl (show aTab 343 3 = some (.if_icmp .eq 9, 3, 0, 0, 0, 0, 0, 0) from rfl) rfl (t := 12) rfl (cdT (by show _ = _; rw [a1]))) ?_
    refine e_then (e_st hT (y := 343) (pc := 12) (q := (yX12_speech, cX12_speech, 5, (some .int), 12)) rfl (show aTab 343 12 = some (.iconst 1, 1, 0, 0, 0, 0, 0, 0) from rfl) (fr' := (343, 13, (lv_args 0 [.ref 128, .int h, .int a, .int b]), [.int 1])) (M' := M) rfl) ?_
    refine e_then (e_st hT (y := 343) (pc := 13) (q := (yX12_speech, cX12_speech, 5, (some .int), 12)) rfl (show aTab 343 13 = some (.goto 4, 3, 0, 0, 0, 0, 0, 0) from rfl) (fr' := (343, 17, (lv_args 0 [.ref 128, .int h, .int a, .int b]), [.int 1])) (M' := M) rfl) ?_
    refine e_then (e_is2 hT (y := 343) (pc := 17) (q := (yX12_speech, cX12_speech, 5, (some .int), 12)) rfl (show aTab 343 17 = some (.istore 4, 2, 0, 0, 0, 0, 0, 0) from rfl) ⟨rfl, by decide⟩) ?_
    exact go 1 _ (by decide) ⟨fun _ => Or.inl a1, fun _ => rfl⟩ (mlg_r rfl (by decide)) (mlg_i rfl (by decide)) (mlg_i rfl (by decide)) (mlg_i rfl (by decide)) (mlg_eq 4 _ _)
  by_cases b1 : b = -1000000005
  · skip
    refine e_then (e_il1 hT (y := 343) (pc := 0) (q := (yX12_speech, cX12_speech, 5, (some .int), 12)) rfl (show aTab 343 0 = some (.iload_n 2, 1, 0, 0, 0, 0, 0, 0) from rfl) rfl rfl) ?_
    refine e_then (e_st hT (y := 343) (pc := 1) (q := (yX12_speech, cX12_speech, 5, (some .int), 12)) rfl (show aTab 343 1 = some (.ldc 64, 2, 7, 0, (-1000000005), 0, 0, 0) from rfl) (fr' := (343, 3, (lv_args 0 [.ref 128, .int h, .int a, .int b]), [.int (-1000000005), .int a])) (M' := M) rfl) ?_
    refine e_then (e_icF hT (y := 343) (pc := 3) (q := (yX12_speech, cX12_speech, 5, (some .int), 12)) rfl (show aTab 343 3 = some (.if_icmp .eq 9, 3, 0, 0, 0, 0, 0, 0) from rfl) rfl (t := 12) rfl (cdF (by show ¬ _ = _; exact fun z => a1 (Int32.toInt_inj.mp z)))) ?_
    refine e_then (e_il1 hT (y := 343) (pc := 6) (q := (yX12_speech, cX12_speech, 5, (some .int), 12)) rfl (show aTab 343 6 = some (.iload_n 3, 1, 0, 0, 0, 0, 0, 0) from rfl) rfl rfl) ?_
    refine e_then (e_st hT (y := 343) (pc := 7) (q := (yX12_speech, cX12_speech, 5, (some .int), 12)) rfl (show aTab 343 7 = some (.ldc 64, 2, 7, 0, (-1000000005), 0, 0, 0) from rfl) (fr' := (343, 9, (lv_args 0 [.ref 128, .int h, .int a, .int b]), [.int (-1000000005), .int b])) (M' := M) rfl) ?_
    refine e_then (e_icF hT (y := 343) (pc := 9) (q := (yX12_speech, cX12_speech, 5, (some .int), 12)) rfl (show aTab 343 9 = some (.if_icmp .ne 7, 3, 0, 0, 0, 0, 0, 0) from rfl) rfl (t := 16) rfl (cdF (by show ¬ ¬ _ = _; rw [b1]; exact fun z => z rfl))) ?_
    refine e_then (e_st hT (y := 343) (pc := 12) (q := (yX12_speech, cX12_speech, 5, (some .int), 12)) rfl (show aTab 343 12 = some (.iconst 1, 1, 0, 0, 0, 0, 0, 0) from rfl) (fr' := (343, 13, (lv_args 0 [.ref 128, .int h, .int a, .int b]), [.int 1])) (M' := M) rfl) ?_
    refine e_then (e_st hT (y := 343) (pc := 13) (q := (yX12_speech, cX12_speech, 5, (some .int), 12)) rfl (show aTab 343 13 = some (.goto 4, 3, 0, 0, 0, 0, 0, 0) from rfl) (fr' := (343, 17, (lv_args 0 [.ref 128, .int h, .int a, .int b]), [.int 1])) (M' := M) rfl) ?_
    refine e_then (e_is2 hT (y := 343) (pc := 17) (q := (yX12_speech, cX12_speech, 5, (some .int), 12)) rfl (show aTab 343 17 = some (.istore 4, 2, 0, 0, 0, 0, 0, 0) from rfl) ⟨rfl, by decide⟩) ?_
    exact go 1 _ (by decide) ⟨fun _ => Or.inr b1, fun _ => rfl⟩ (mlg_r rfl (by decide)) (mlg_i rfl (by decide)) (mlg_i rfl (by decide)) (mlg_i rfl (by decide)) (mlg_eq 4 _ _)
  refine e_then (e_il1 hT (y := 343) (pc := 0) (q := (yX12_speech, cX12_speech, 5, (some .int), 12)) rfl (show aTab 343 0 = some (.iload_n 2, 1, 0, 0, 0, 0, 0, 0) from rfl) rfl rfl) ?_
  refine e_then (e_st hT (y := 343) (pc := 1) (q := (yX12_speech, cX12_speech, 5, (some .int), 12)) rfl (show aTab 343 1 = some (.ldc 64, 2, 7, 0, (-1000000005), 0, 0, 0) from rfl) (fr' := (343, 3, (lv_args 0 [.ref 128, .int h, .int a, .int b]), [.int (-1000000005), .int a])) (M' := M) rfl) ?_
  refine e_then (e_icF hT (y := 343) (pc := 3) (q := (yX12_speech, cX12_speech, 5, (some .int), 12)) rfl (show aTab 343 3 = some (.if_icmp .eq 9, 3, 0, 0, 0, 0, 0, 0) from rfl) rfl (t := 12) rfl (cdF (by show ¬ _ = _; exact fun z => a1 (Int32.toInt_inj.mp z)))) ?_
  refine e_then (e_il1 hT (y := 343) (pc := 6) (q := (yX12_speech, cX12_speech, 5, (some .int), 12)) rfl (show aTab 343 6 = some (.iload_n 3, 1, 0, 0, 0, 0, 0, 0) from rfl) rfl rfl) ?_
  refine e_then (e_st hT (y := 343) (pc := 7) (q := (yX12_speech, cX12_speech, 5, (some .int), 12)) rfl (show aTab 343 7 = some (.ldc 64, 2, 7, 0, (-1000000005), 0, 0, 0) from rfl) (fr' := (343, 9, (lv_args 0 [.ref 128, .int h, .int a, .int b]), [.int (-1000000005), .int b])) (M' := M) rfl) ?_
  refine e_then (e_icT hT (y := 343) (pc := 9) (q := (yX12_speech, cX12_speech, 5, (some .int), 12)) rfl (show aTab 343 9 = some (.if_icmp .ne 7, 3, 0, 0, 0, 0, 0, 0) from rfl) rfl (t := 16) rfl (cdT (by show ¬ _ = _; exact fun z => b1 (Int32.toInt_inj.mp z)))) ?_
  refine e_then (e_st hT (y := 343) (pc := 16) (q := (yX12_speech, cX12_speech, 5, (some .int), 12)) rfl (show aTab 343 16 = some (.iconst 0, 1, 0, 0, 0, 0, 0, 0) from rfl) (fr' := (343, 17, (lv_args 0 [.ref 128, .int h, .int a, .int b]), [.int 0])) (M' := M) rfl) ?_
  refine e_then (e_is2 hT (y := 343) (pc := 17) (q := (yX12_speech, cX12_speech, 5, (some .int), 12)) rfl (show aTab 343 17 = some (.istore 4, 2, 0, 0, 0, 0, 0, 0) from rfl) ⟨rfl, by decide⟩) ?_
  exact go 0 _ (by decide) ⟨fun z => absurd z (by decide), fun z => absurd z (fun z => z.elim a1 b1)⟩ (mlg_r rfl (by decide)) (mlg_i rfl (by decide)) (mlg_i rfl (by decide)) (mlg_i rfl (by decide)) (mlg_eq 4 _ _)
theorem seOk_1 {h a b : Int32} {s s' : Nat} (hs : s < 3) (hs' : s' < 3) (h1 : seOk h a b s) (h2 : seOk h a b s') : s = s' := by
  match s, s', hs, hs', h1, h2 with
  | 0, 0, _, _, _, _ => rfl
  | 1, 1, _, _, _, _ => rfl
  | 2, 2, _, _, _, _ => rfl
  | 0, 1, _, _, h1, h2 => exact absurd h1 (by rintro (z | z); exact z h2.1; exact z.1 h2.2)
  | 0, 2, _, _, h1, h2 => exact absurd h1 (by rintro (z | z); exact z h2.1; exact z.2 h2.2.2)
  | 1, 0, _, _, h1, h2 => exact absurd h2 (by rintro (z | z); exact z h1.1; exact z.1 h1.2)
  | 2, 0, _, _, h1, h2 => exact absurd h2 (by rintro (z | z); exact z h1.1; exact z.2 h1.2.2)
  | 1, 2, _, _, h1, h2 => exact absurd h1.2 h2.2.1
  | 2, 1, _, _, h1, h2 => exact absurd h2.2 h1.2.1
