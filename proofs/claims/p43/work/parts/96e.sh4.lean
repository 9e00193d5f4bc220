/-! ARRIVE THERE -/
def rfP (g : Nat → Nat → Int32) (c i : Nat) : Int32 := g 120 (c + 3 * i)
def rcmI (g : Nat → Nat → Int32) (Z : Nat) (m : Int) (i : Nat) (g1 : Nat → Nat → Int32) : Prop := (∀ c k, c ≠ 120 → g1 c k = g c k) ∧ (∀ k, (∀ p, p < 40 → k ≠ 166 + 10 * p) → (k < 920 ∨ 1009 < k) → g1 120 k = g 120 k) ∧ (∀ (j : Nat) (e : shE), (((shL (rfP g 920) (rfP g 921) (rfP g 922) Z).take i).filter (shQ m))[j]? = some e → g1 120 (920 + 3 * j) = e.1 ∧ g1 120 (921 + 3 * j) = e.2.1 ∧ g1 120 (922 + 3 * j) = e.2.2) ∧ (∀ j, i ≤ j → j < 30 → g1 120 (920 + 3 * j) = g 120 (920 + 3 * j) ∧ g1 120 (921 + 3 * j) = g 120 (921 + 3 * j) ∧ g1 120 (922 + 3 * j) = g 120 (922 + 3 * j)) ∧ ∀ p, p < 40 → g1 120 (166 + 10 * p) = g 120 (166 + 10 * p) ||| cmO (((shL (rfP g 920) (rfP g 921) (rfP g 922) Z).take i).filter (shD m)) p
theorem fil_at {f : shE → Bool} {tk : List shE} {n j : Nat} {e : shE} (hn : n = (tk.filter f).length) (he : (tk.filter f)[j]? = some e) : j < n := by
  have := (List.getElem?_eq_some_iff.mp he).1
  omega
theorem rcm_loop (hT : aTabOk) {g : Nat → Nat → Int32} {Z : Nat} (hZ : g 120 7 = Int32.ofNat Z) (hZ2 : Z ≤ 30) (hs : ∀ i, i < Z → (0 ≤ (g 120 (920 + 3 * i)).toInt ∧ (g 120 (920 + 3 * i)).toInt ≤ 39) ∧ (0 ≤ (g 120 (921 + 3 * i)).toInt ∧ (g 120 (921 + 3 * i)).toInt ≤ 6)) {m : Int32} (hm : g 120 0 = m) : ∀ (d i : Nat) (lv : List (Nat × Value)) (M1 : mHe), i + d = Z → yTy M1 → rcmI g Z m.toInt i (rdI M1) → mlg 0 lv = some (.ref 128) → mlg 1 lv = some (.int (Int32.ofNat (((shL (rfP g 920) (rfP g 921) (rfP g 922) Z).take i).filter (shQ m.toInt)).length)) → mlg 2 lv = some (.int (Int32.ofNat i)) → mEv none 20 (266, 4, lv, []) M1 (fun r M' => r = none ∧ yTy M' ∧ ∃ g1, rcmI g Z m.toInt Z g1 ∧ rdI M' = up2 g1 120 7 (Int32.ofNat ((shL (rfP g 920) (rfP g 921) (rfP g 922) Z).filter (shQ m.toInt)).length)) := by
  have eZ := i32n (k := Z) (by omega)
  intro d
  induction d with
  | zero =>
    intro i lv M1 hd hM hI h0 h1 h2
    have hd : i = Z := by omega
    subst hd
    rw [shL_all] at h1
    have hl := List.length_filter_le (shQ m.toInt) (shL (rfP g 920) (rfP g 921) (rfP g 922) i)
    rw [show (shL (rfP g 920) (rfP g 921) (rfP g 922) i).length = i by simp [shL]] at hl
    obtain ⟨n, hn⟩ : ∃ n, n = ((shL (rfP g 920) (rfP g 921) (rfP g 922) i).filter (shQ m.toInt)).length := ⟨_, rfl⟩
    rw [← hn] at h1 hl ⊢
    have en := i32n (k := n) (by omega)
    obtain ⟨g1, hg⟩ : ∃ x, x = rdI M1 := ⟨_, rfl⟩
    rw [← hg] at hI
    have hg := hg.symm
    have hZ1 : g1 120 7 = Int32.ofNat i := by rw [hI.2.1 7 (fun p hp => by omega) (by omega)]; exact hZ
    refine e_then (e_il1 hT (y := 266) (pc := 4) (q := (yX12_arrive, cX12_arrive, 5, none, 12)) rfl (show aTab 266 4 = some (.iload_n 2, 1, 0, 0, 0, 0, 0, 0) from rfl) rfl h2) ?_
    refine e_then (e_al1 hT (y := 266) (pc := 5) (q := (yX12_arrive, cX12_arrive, 5, none, 12)) rfl (show aTab 266 5 = some (.aload_n 0, 1, 0, 0, 0, 0, 0, 0) from rfl) rfl h0) ?_
    refine e_then (e_getR hT (y := 266) (pc := 6) (q := (yX12_arrive, cX12_arrive, 5, none, 12)) rfl (show aTab 266 6 = some (.getfield 7, 3, 0, 12, 0, 0, 0, 0) from rfl) rfl (by decide) (by decide) hM rfl rfl) ?_
    refine e_then (e_st hT (y := 266) (pc := 9) (q := (yX12_arrive, cX12_arrive, 5, none, 12)) rfl (show aTab 266 9 = some (.bipush 7, 2, 0, 0, 0, 0, 0, 0) from rfl) (fr' := (266, 11, lv, [.int 7, .ref 129, .int (Int32.ofNat i)])) (M' := M1) rfl) ?_
    refine e_then (s_aldV hT (y := 266) (pc := 11) (q := (yX12_arrive, cX12_arrive, 5, none, 12)) rfl (show aTab 266 11 = some (.iaload, 1, 0, 0, 0, 0, 0, 0) from rfl) rfl hM hg 120 7 rfl rfl (by decide) (v := (Int32.ofNat i)) (show (g1 120 7) = (Int32.ofNat i) from hZ1)) ?_
    refine e_then (e_icT hT (y := 266) (pc := 12) (q := (yX12_arrive, cX12_arrive, 5, none, 12)) rfl (show aTab 266 12 = some (.if_icmp .ge 110, 3, 0, 0, 0, 0, 0, 0) from rfl) rfl (t := 122) rfl (cdT (Int.le_refl _))) ?_
    refine e_then (e_al1 hT (y := 266) (pc := 122) (q := (yX12_arrive, cX12_arrive, 5, none, 12)) rfl (show aTab 266 122 = some (.aload_n 0, 1, 0, 0, 0, 0, 0, 0) from rfl) rfl h0) ?_
    refine e_then (e_getR hT (y := 266) (pc := 123) (q := (yX12_arrive, cX12_arrive, 5, none, 12)) rfl (show aTab 266 123 = some (.getfield 7, 3, 0, 12, 0, 0, 0, 0) from rfl) rfl (by decide) (by decide) hM rfl rfl) ?_
    refine e_then (e_st hT (y := 266) (pc := 126) (q := (yX12_arrive, cX12_arrive, 5, none, 12)) rfl (show aTab 266 126 = some (.bipush 7, 2, 0, 0, 0, 0, 0, 0) from rfl) (fr' := (266, 128, lv, [.int 7, .ref 129])) (M' := M1) rfl) ?_
    refine e_then (e_il1 hT (y := 266) (pc := 128) (q := (yX12_arrive, cX12_arrive, 5, none, 12)) rfl (show aTab 266 128 = some (.iload_n 1, 1, 0, 0, 0, 0, 0, 0) from rfl) rfl h1) ?_
    obtain ⟨m1, sm1, tm1, em1⟩ := s_asb (sc := none) (d := _) (lv := lv) (st := []) (z := (Int32.ofNat n)) (i := 7) (l := 7) (h := 7) (vl := 0) (vh := 30) hT (y := 266) (pc := 129) (q := (yX12_arrive, cX12_arrive, 5, none, 12)) rfl (show aTab 266 129 = some (.iastore, 1, 0, 0, 0, 0, 0, 0) from rfl) rfl hM hg 120 7 rfl (by decide +kernel) rfl ⟨by decide, by decide⟩ ⟨by omega, by omega⟩
    refine e_then sm1 ?_
    exact e_fin (e_vret hT (y := 266) (pc := 130) (q := (yX12_arrive, cX12_arrive, 5, none, 12)) rfl (show aTab 266 130 = some (.return_, 1, 0, 0, 0, 0, 0, 0) from rfl) ⟨rfl, rfl⟩) ⟨rfl, tm1, g1, hI, em1⟩
  | succ d ih =>
    intro i lv M1 hd hM hI h0 h1 h2
    have ei := i32n (k := i) (by omega)
    have hiZ : i < Z := by omega
    obtain ⟨⟨p1, p2⟩, t1, t2⟩ := hs i hiZ
    have hlen : (((shL (rfP g 920) (rfP g 921) (rfP g 922) Z).take i).filter (shQ m.toInt)).length ≤ i := fil_len
    have hT1 := shL_take (a := rfP g 920) (b := rfP g 921) (c := rfP g 922) hiZ
    have ih := ih (i + 1)
    unfold rcmI at ih
    rw [hT1, fil_1, fil_1] at ih
    obtain ⟨tk, htk⟩ : ∃ x, x = (shL (rfP g 920) (rfP g 921) (rfP g 922) Z).take i := ⟨_, rfl⟩
    rw [← htk] at ih h1 hlen
    obtain ⟨i0, i1, i2, i3, i4⟩ := hI
    rw [← htk] at i2 i4
    obtain ⟨n, hn⟩ : ∃ n, n = (tk.filter (shQ m.toInt)).length := ⟨_, rfl⟩
    rw [← hn] at h1 hlen
    have en := i32n (k := n) (by omega)
    obtain ⟨g1, hg⟩ : ∃ x, x = rdI M1 := ⟨_, rfl⟩
    rw [← hg] at i0 i1 i2 i3 i4
    have hg := hg.symm
    obtain ⟨c20, c21, c22⟩ := i3 i (Nat.le_refl _) (by omega)
    have hZ1 : g1 120 7 = Int32.ofNat Z := by rw [i1 7 (fun p hp => by omega) (by omega)]; exact hZ
    have hm1 : g1 120 0 = m := by rw [i1 0 (fun p hp => by omega) (by omega)]; exact hm
    by_cases c : (g 120 (922 + 3 * i)).toInt ≤ m.toInt
    · have e1 : shD m.toInt (rfP g 920 i, rfP g 921 i, rfP g 922 i) = true := decide_eq_true c
      have e2 : shQ m.toInt (rfP g 920 i, rfP g 921 i, rfP g 922 i) = false := decide_eq_false (by show ¬ m.toInt < (g 120 (922 + 3 * i)).toInt; omega)
      rw [e1, e2, if_pos rfl, if_neg (by decide), List.append_nil] at ih
      obtain ⟨pp, hpp⟩ : ∃ n : Nat, (n : Int) = (g 120 (920 + 3 * i)).toInt := ⟨(g 120 (920 + 3 * i)).toInt.toNat, by omega⟩
      have hp2 : g 120 (920 + 3 * i) = Int32.ofNat pp := i32eq (by rw [i32n (by omega)]; omega)
      obtain ⟨K4, q4⟩ := rpa_run hT (M := M1) (m := pp) (by omega) (d := 19) (by decide)
      rw [← hp2] at q4
      have ix6 : (Int32.ofNat (160 + 10 * pp) + 6).toInt = ((166 + 10 * pp : Nat) : Int) := (ixp (a := 160 + 10 * pp) (c := 6) (by omega)).trans (by omega)
      refine e_then (e_il1 hT (y := 266) (pc := 4) (q := (yX12_arrive, cX12_arrive, 5, none, 12)) rfl (show aTab 266 4 = some (.iload_n 2, 1, 0, 0, 0, 0, 0, 0) from rfl) rfl h2) ?_
      refine e_then (e_al1 hT (y := 266) (pc := 5) (q := (yX12_arrive, cX12_arrive, 5, none, 12)) rfl (show aTab 266 5 = some (.aload_n 0, 1, 0, 0, 0, 0, 0, 0) from rfl) rfl h0) ?_
      refine e_then (e_getR hT (y := 266) (pc := 6) (q := (yX12_arrive, cX12_arrive, 5, none, 12)) rfl (show aTab 266 6 = some (.getfield 7, 3, 0, 12, 0, 0, 0, 0) from rfl) rfl (by decide) (by decide) hM rfl rfl) ?_
      refine e_then (e_st hT (y := 266) (pc := 9) (q := (yX12_arrive, cX12_arrive, 5, none, 12)) rfl (show aTab 266 9 = some (.bipush 7, 2, 0, 0, 0, 0, 0, 0) from rfl) (fr' := (266, 11, lv, [.int 7, .ref 129, .int (Int32.ofNat i)])) (M' := M1) rfl) ?_
      refine e_then (s_aldV hT (y := 266) (pc := 11) (q := (yX12_arrive, cX12_arrive, 5, none, 12)) rfl (show aTab 266 11 = some (.iaload, 1, 0, 0, 0, 0, 0, 0) from rfl) rfl hM hg 120 7 rfl rfl (by decide) (v := (Int32.ofNat Z)) (show (g1 120 7) = (Int32.ofNat Z) from hZ1)) ?_
      refine e_then (e_icF hT (y := 266) (pc := 12) (q := (yX12_arrive, cX12_arrive, 5, none, 12)) rfl (show aTab 266 12 = some (.if_icmp .ge 110, 3, 0, 0, 0, 0, 0, 0) from rfl) rfl (t := 122) rfl (cdF (by show ¬ _ ≤ _; omega))) ?_
      refine e_then (e_st hT (y := 266) (pc := 15) (q := (yX12_arrive, cX12_arrive, 5, none, 12)) rfl (show aTab 266 15 = some (.sipush 920, 3, 0, 0, 0, 0, 0, 0) from rfl) (fr' := (266, 18, lv, [.int 920])) (M' := M1) rfl) ?_
      refine e_then (e_st hT (y := 266) (pc := 18) (q := (yX12_arrive, cX12_arrive, 5, none, 12)) rfl (show aTab 266 18 = some (.iconst 3, 1, 0, 0, 0, 0, 0, 0) from rfl) (fr' := (266, 19, lv, [.int 3, .int 920])) (M' := M1) rfl) ?_
      refine e_then (e_il1 hT (y := 266) (pc := 19) (q := (yX12_arrive, cX12_arrive, 5, none, 12)) rfl (show aTab 266 19 = some (.iload_n 2, 1, 0, 0, 0, 0, 0, 0) from rfl) rfl h2) ?_
      refine e_then (e_st hT (y := 266) (pc := 20) (q := (yX12_arrive, cX12_arrive, 5, none, 12)) rfl (show aTab 266 20 = some (.imul, 1, 0, 0, 0, 0, 0, 0) from rfl) (fr' := (266, 21, lv, [.int (3 * (Int32.ofNat i)), .int 920])) (M' := M1) rfl) ?_
      refine e_then (e_st hT (y := 266) (pc := 21) (q := (yX12_arrive, cX12_arrive, 5, none, 12)) rfl (show aTab 266 21 = some (.iadd, 1, 0, 0, 0, 0, 0, 0) from rfl) (fr' := (266, 22, lv, [.int (920 + (3 * (Int32.ofNat i)))])) (M' := M1) rfl) ?_
      refine e_then (e_is1 hT (y := 266) (pc := 22) (q := (yX12_arrive, cX12_arrive, 5, none, 12)) rfl (show aTab 266 22 = some (.istore_n 3, 1, 0, 0, 0, 0, 0, 0) from rfl) ⟨rfl, by decide⟩) ?_
      refine e_then (e_al1 hT (y := 266) (pc := 23) (q := (yX12_arrive, cX12_arrive, 5, none, 12)) rfl (show aTab 266 23 = some (.aload_n 0, 1, 0, 0, 0, 0, 0, 0) from rfl) rfl (mlg_r h0 (by decide))) ?_
      refine e_then (e_getR hT (y := 266) (pc := 24) (q := (yX12_arrive, cX12_arrive, 5, none, 12)) rfl (show aTab 266 24 = some (.getfield 7, 3, 0, 12, 0, 0, 0, 0) from rfl) rfl (by decide) (by decide) hM rfl rfl) ?_
      refine e_then (e_il1 hT (y := 266) (pc := 27) (q := (yX12_arrive, cX12_arrive, 5, none, 12)) rfl (show aTab 266 27 = some (.iload_n 3, 1, 0, 0, 0, 0, 0, 0) from rfl) rfl (mlg_eq 3 _ _)) ?_
      refine e_then (e_st hT (y := 266) (pc := 28) (q := (yX12_arrive, cX12_arrive, 5, none, 12)) rfl (show aTab 266 28 = some (.iconst 2, 1, 0, 0, 0, 0, 0, 0) from rfl) (fr' := (266, 29, (mlp 3 (.int (920 + (3 * (Int32.ofNat i)))) lv), [.int 2, .int (920 + (3 * (Int32.ofNat i))), .ref 129])) (M' := M1) rfl) ?_
      refine e_then (e_st hT (y := 266) (pc := 29) (q := (yX12_arrive, cX12_arrive, 5, none, 12)) rfl (show aTab 266 29 = some (.iadd, 1, 0, 0, 0, 0, 0, 0) from rfl) (fr' := (266, 30, (mlp 3 (.int (920 + (3 * (Int32.ofNat i)))) lv), [.int ((920 + (3 * (Int32.ofNat i))) + 2), .ref 129])) (M' := M1) rfl) ?_
      refine e_then (s_aldV hT (y := 266) (pc := 30) (q := (yX12_arrive, cX12_arrive, 5, none, 12)) rfl (show aTab 266 30 = some (.iaload, 1, 0, 0, 0, 0, 0, 0) from rfl) rfl hM hg 120 (922 + 3 * i) rfl (ixh (c := 2) (by omega) (by decide) rfl) (by omega) (v := (g 120 (922 + 3 * i))) (show (g1 120 (922 + 3 * i)) = (g 120 (922 + 3 * i)) from c22)) ?_
      refine e_then (e_al1 hT (y := 266) (pc := 31) (q := (yX12_arrive, cX12_arrive, 5, none, 12)) rfl (show aTab 266 31 = some (.aload_n 0, 1, 0, 0, 0, 0, 0, 0) from rfl) rfl (mlg_r h0 (by decide))) ?_
      refine e_then (e_getR hT (y := 266) (pc := 32) (q := (yX12_arrive, cX12_arrive, 5, none, 12)) rfl (show aTab 266 32 = some (.getfield 7, 3, 0, 12, 0, 0, 0, 0) from rfl) rfl (by decide) (by decide) hM rfl rfl) ?_
      refine e_then (e_st hT (y := 266) (pc := 35) (q := (yX12_arrive, cX12_arrive, 5, none, 12)) rfl (show aTab 266 35 = some (.iconst 0, 1, 0, 0, 0, 0, 0, 0) from rfl) (fr' := (266, 36, (mlp 3 (.int (920 + (3 * (Int32.ofNat i)))) lv), [.int 0, .ref 129, .int (g 120 (922 + 3 * i))])) (M' := M1) rfl) ?_
      refine e_then (s_aldV hT (y := 266) (pc := 36) (q := (yX12_arrive, cX12_arrive, 5, none, 12)) rfl (show aTab 266 36 = some (.iaload, 1, 0, 0, 0, 0, 0, 0) from rfl) rfl hM hg 120 0 rfl rfl (by decide) (v := m) (show (g1 120 0) = m from hm1)) ?_
      refine e_then (e_icF hT (y := 266) (pc := 37) (q := (yX12_arrive, cX12_arrive, 5, none, 12)) rfl (show aTab 266 37 = some (.if_icmp .gt 37, 3, 0, 0, 0, 0, 0, 0) from rfl) rfl (t := 74) rfl (cdF (by show ¬ _ < _; omega))) ?_
      refine e_then (e_al1 hT (y := 266) (pc := 40) (q := (yX12_arrive, cX12_arrive, 5, none, 12)) rfl (show aTab 266 40 = some (.aload_n 0, 1, 0, 0, 0, 0, 0, 0) from rfl) rfl (mlg_r h0 (by decide))) ?_
      refine e_then (e_getR hT (y := 266) (pc := 41) (q := (yX12_arrive, cX12_arrive, 5, none, 12)) rfl (show aTab 266 41 = some (.getfield 7, 3, 0, 12, 0, 0, 0, 0) from rfl) rfl (by decide) (by decide) hM rfl rfl) ?_
      refine e_then (e_al1 hT (y := 266) (pc := 44) (q := (yX12_arrive, cX12_arrive, 5, none, 12)) rfl (show aTab 266 44 = some (.aload_n 0, 1, 0, 0, 0, 0, 0, 0) from rfl) rfl (mlg_r h0 (by decide))) ?_
      refine e_then (e_al1 hT (y := 266) (pc := 45) (q := (yX12_arrive, cX12_arrive, 5, none, 12)) rfl (show aTab 266 45 = some (.aload_n 0, 1, 0, 0, 0, 0, 0, 0) from rfl) rfl (mlg_r h0 (by decide))) ?_
      refine e_then (e_getR hT (y := 266) (pc := 46) (q := (yX12_arrive, cX12_arrive, 5, none, 12)) rfl (show aTab 266 46 = some (.getfield 7, 3, 0, 12, 0, 0, 0, 0) from rfl) rfl (by decide) (by decide) hM rfl rfl) ?_
      refine e_then (e_il1 hT (y := 266) (pc := 49) (q := (yX12_arrive, cX12_arrive, 5, none, 12)) rfl (show aTab 266 49 = some (.iload_n 3, 1, 0, 0, 0, 0, 0, 0) from rfl) rfl (mlg_eq 3 _ _)) ?_
      refine e_then (s_aldV hT (y := 266) (pc := 50) (q := (yX12_arrive, cX12_arrive, 5, none, 12)) rfl (show aTab 266 50 = some (.iaload, 1, 0, 0, 0, 0, 0, 0) from rfl) rfl hM hg 120 (920 + 3 * i) rfl (ixh0 (by omega)) (by omega) (v := (g 120 (920 + 3 * i))) (show (g1 120 (920 + 3 * i)) = (g 120 (920 + 3 * i)) from c20)) ?_
      refine e_then (e_call hT (y := 266) (pc := 51) (q := (yX12_arrive, cX12_arrive, 5, none, 12)) rfl (show aTab 266 51 = some (.invokevirtual 73, 3, 1, 246, 0, 1, 2, 12) from rfl) rfl ⟨by decide, Nat.le_of_ble_eq_true rfl⟩ (ob_at hM (rfl : tTy 119 = some (.inr (12, _)))).choose_spec (Nat.le_of_ble_eq_true rfl) (Nat.le_of_ble_eq_true rfl) ⟨by decide, by decide⟩ q4) ?_
      refine e_then (e_st hT (y := 266) (pc := 54) (q := (yX12_arrive, cX12_arrive, 5, none, 12)) rfl (show aTab 266 54 = some (.bipush 6, 2, 0, 0, 0, 0, 0, 0) from rfl) (fr' := (266, 56, (mlp 3 (.int (920 + (3 * (Int32.ofNat i)))) lv), [.int 6, .int (Int32.ofNat (160 + 10 * pp)), .ref 129])) (M' := M1) rfl) ?_
      refine e_then (e_st hT (y := 266) (pc := 56) (q := (yX12_arrive, cX12_arrive, 5, none, 12)) rfl (show aTab 266 56 = some (.iadd, 1, 0, 0, 0, 0, 0, 0) from rfl) (fr' := (266, 57, (mlp 3 (.int (920 + (3 * (Int32.ofNat i)))) lv), [.int ((Int32.ofNat (160 + 10 * pp)) + 6), .ref 129])) (M' := M1) rfl) ?_
      refine e_then (e_st hT (y := 266) (pc := 57) (q := (yX12_arrive, cX12_arrive, 5, none, 12)) rfl (show aTab 266 57 = some (.dup2, 1, 0, 0, 0, 0, 0, 0) from rfl) (fr' := (266, 58, (mlp 3 (.int (920 + (3 * (Int32.ofNat i)))) lv), [.int ((Int32.ofNat (160 + 10 * pp)) + 6), .ref 129, .int ((Int32.ofNat (160 + 10 * pp)) + 6), .ref 129])) (M' := M1) rfl) ?_
      refine e_then (s_ald hT (y := 266) (pc := 58) (q := (yX12_arrive, cX12_arrive, 5, none, 12)) rfl (show aTab 266 58 = some (.iaload, 1, 0, 0, 0, 0, 0, 0) from rfl) rfl hM hg 120 (166 + 10 * pp) rfl ix6 (by omega)) ?_
      refine e_then (e_st hT (y := 266) (pc := 59) (q := (yX12_arrive, cX12_arrive, 5, none, 12)) rfl (show aTab 266 59 = some (.iconst 1, 1, 0, 0, 0, 0, 0, 0) from rfl) (fr' := (266, 60, (mlp 3 (.int (920 + (3 * (Int32.ofNat i)))) lv), [.int 1, .int (g1 120 (166 + 10 * pp)), .int ((Int32.ofNat (160 + 10 * pp)) + 6), .ref 129])) (M' := M1) rfl) ?_
      refine e_then (e_al1 hT (y := 266) (pc := 60) (q := (yX12_arrive, cX12_arrive, 5, none, 12)) rfl (show aTab 266 60 = some (.aload_n 0, 1, 0, 0, 0, 0, 0, 0) from rfl) rfl (mlg_r h0 (by decide))) ?_
      refine e_then (e_getR hT (y := 266) (pc := 61) (q := (yX12_arrive, cX12_arrive, 5, none, 12)) rfl (show aTab 266 61 = some (.getfield 7, 3, 0, 12, 0, 0, 0, 0) from rfl) rfl (by decide) (by decide) hM rfl rfl) ?_
      refine e_then (e_il1 hT (y := 266) (pc := 64) (q := (yX12_arrive, cX12_arrive, 5, none, 12)) rfl (show aTab 266 64 = some (.iload_n 3, 1, 0, 0, 0, 0, 0, 0) from rfl) rfl (mlg_eq 3 _ _)) ?_
      refine e_then (e_st hT (y := 266) (pc := 65) (q := (yX12_arrive, cX12_arrive, 5, none, 12)) rfl (show aTab 266 65 = some (.iconst 1, 1, 0, 0, 0, 0, 0, 0) from rfl) (fr' := (266, 66, (mlp 3 (.int (920 + (3 * (Int32.ofNat i)))) lv), [.int 1, .int (920 + (3 * (Int32.ofNat i))), .ref 129, .int 1, .int (g1 120 (166 + 10 * pp)), .int ((Int32.ofNat (160 + 10 * pp)) + 6), .ref 129])) (M' := M1) rfl) ?_
      refine e_then (e_st hT (y := 266) (pc := 66) (q := (yX12_arrive, cX12_arrive, 5, none, 12)) rfl (show aTab 266 66 = some (.iadd, 1, 0, 0, 0, 0, 0, 0) from rfl) (fr' := (266, 67, (mlp 3 (.int (920 + (3 * (Int32.ofNat i)))) lv), [.int ((920 + (3 * (Int32.ofNat i))) + 1), .ref 129, .int 1, .int (g1 120 (166 + 10 * pp)), .int ((Int32.ofNat (160 + 10 * pp)) + 6), .ref 129])) (M' := M1) rfl) ?_
      refine e_then (s_aldV hT (y := 266) (pc := 67) (q := (yX12_arrive, cX12_arrive, 5, none, 12)) rfl (show aTab 266 67 = some (.iaload, 1, 0, 0, 0, 0, 0, 0) from rfl) rfl hM hg 120 (921 + 3 * i) rfl (ixh (c := 1) (by omega) (by decide) rfl) (by omega) (v := (g 120 (921 + 3 * i))) (show (g1 120 (921 + 3 * i)) = (g 120 (921 + 3 * i)) from c21)) ?_
      refine e_then (e_st hT (y := 266) (pc := 68) (q := (yX12_arrive, cX12_arrive, 5, none, 12)) rfl (show aTab 266 68 = some (.ishl, 1, 0, 0, 0, 0, 0, 0) from rfl) (fr' := (266, 69, (mlp 3 (.int (920 + (3 * (Int32.ofNat i)))) lv), [.int (1 <<< ((g 120 (921 + 3 * i)) &&& 31)), .int (g1 120 (166 + 10 * pp)), .int ((Int32.ofNat (160 + 10 * pp)) + 6), .ref 129])) (M' := M1) rfl) ?_
      refine e_then (e_st hT (y := 266) (pc := 69) (q := (yX12_arrive, cX12_arrive, 5, none, 12)) rfl (show aTab 266 69 = some (.ior, 1, 0, 0, 0, 0, 0, 0) from rfl) (fr' := (266, 70, (mlp 3 (.int (920 + (3 * (Int32.ofNat i)))) lv), [.int ((g1 120 (166 + 10 * pp)) ||| (1 <<< ((g 120 (921 + 3 * i)) &&& 31))), .int ((Int32.ofNat (160 + 10 * pp)) + 6), .ref 129])) (M' := M1) rfl) ?_
      obtain ⟨m1, sm1, tm1, em1⟩ := s_asm (sc := none) (d := _) (lv := (mlp 3 (.int (920 + (3 * (Int32.ofNat i)))) lv)) (st := []) (z := ((g1 120 (166 + 10 * pp)) ||| (1 <<< ((g 120 (921 + 3 * i)) &&& 31)))) (i := ((Int32.ofNat (160 + 10 * pp)) + 6)) (l := 0) (h := 39) (vl := (-2147483648)) (vh := 2147483647) (C := 166) (m := 10) (N := pp) hT (y := 266) (pc := 70) (q := (yX12_arrive, cX12_arrive, 5, none, 12)) rfl (show aTab 266 70 = some (.iastore, 1, 0, 0, 0, 0, 0, 0) from rfl) rfl hM hg 120 rfl (by decide +kernel) (by decide) ⟨⟨by omega, by omega⟩, by omega⟩ ix6 ⟨i32_lo _, i32_hi _⟩
      refine e_then sm1 ?_
      refine e_then (e_st hT (y := 266) (pc := 71) (q := (yX12_arrive, cX12_arrive, 5, none, 12)) rfl (show aTab 266 71 = some (.goto 45, 3, 0, 0, 0, 0, 0, 0) from rfl) (fr' := (266, 116, (mlp 3 (.int (920 + (3 * (Int32.ofNat i)))) lv), [])) (M' := m1) rfl) ?_
      refine e_then (e_ii hT (y := 266) (pc := 116) (q := (yX12_arrive, cX12_arrive, 5, none, 12)) rfl (show aTab 266 116 = some (.iinc 2 1, 3, 0, 0, 0, 0, 0, 0) from rfl) ⟨rfl, by decide⟩ (mlg_i h2 (by decide))) ?_
      refine e_then (e_st hT (y := 266) (pc := 119) (q := (yX12_arrive, cX12_arrive, 5, none, 12)) rfl (show aTab 266 119 = some (.goto (-115), 3, 0, 0, 0, 0, 0, 0) from rfl) (fr' := (266, 4, (mlp 2 (.int ((Int32.ofNat i) + Int32.ofInt 1)) (mlp 3 (.int (920 + (3 * (Int32.ofNat i)))) lv)), [])) (M' := m1) rfl) ?_
      rw [os1 (by omega)]
      refine ih _ _ (by omega) tm1 ⟨fun c k hc => ?_, fun k hk1 hk2 => ?_, fun j e he => ?_, fun j hj hj3 => ?_, fun p hp => ?_⟩ (mlg_r (mlg_r h0 (by decide)) (by decide)) (by rw [← hn]; exact (mlg_i (mlg_i h1 (by decide)) (by decide))) (mlg_eq 2 _ _)
      · rw [em1, up2_c _ _ hc]
        exact i0 c k hc
      · rw [em1, up2_k _ _ (hk1 pp (by omega))]
        exact i1 k hk1 hk2
      · have hj := fil_at hn he
        rw [em1, up2_k _ _ (by omega), up2_k _ _ (by omega), up2_k _ _ (by omega)]
        exact i2 j e he
      · rw [em1, up2_k _ _ (by omega), up2_k _ _ (by omega), up2_k _ _ (by omega)]
        exact i3 j (by omega) hj3
      · rw [em1, cmO_app, ← Int32.or_assoc, ← i4 p hp]
        show _ = g1 120 (166 + 10 * p) ||| ((if (g 120 (920 + 3 * i)).toInt = (p : Int) then 1 <<< (g 120 (921 + 3 * i) &&& 31) else 0) ||| 0)
        rw [Int32.or_zero]
        by_cases hpe : p = pp
        · subst hpe
          rw [up2_eq, if_pos hpp.symm]
        · rw [up2_k _ _ (by omega), if_neg (by omega), Int32.or_zero]
    · have e1 : shD m.toInt (rfP g 920 i, rfP g 921 i, rfP g 922 i) = false := decide_eq_false c
      have e2 : shQ m.toInt (rfP g 920 i, rfP g 921 i, rfP g 922 i) = true := decide_eq_true (by show m.toInt < (g 120 (922 + 3 * i)).toInt; omega)
      rw [e1, e2, if_pos rfl, if_neg (by decide), List.append_nil, List.length_append, ← hn] at ih
      refine e_then (e_il1 hT (y := 266) (pc := 4) (q := (yX12_arrive, cX12_arrive, 5, none, 12)) rfl (show aTab 266 4 = some (.iload_n 2, 1, 0, 0, 0, 0, 0, 0) from rfl) rfl h2) ?_
      refine e_then (e_al1 hT (y := 266) (pc := 5) (q := (yX12_arrive, cX12_arrive, 5, none, 12)) rfl (show aTab 266 5 = some (.aload_n 0, 1, 0, 0, 0, 0, 0, 0) from rfl) rfl h0) ?_
      refine e_then (e_getR hT (y := 266) (pc := 6) (q := (yX12_arrive, cX12_arrive, 5, none, 12)) rfl (show aTab 266 6 = some (.getfield 7, 3, 0, 12, 0, 0, 0, 0) from rfl) rfl (by decide) (by decide) hM rfl rfl) ?_
      refine e_then (e_st hT (y := 266) (pc := 9) (q := (yX12_arrive, cX12_arrive, 5, none, 12)) rfl (show aTab 266 9 = some (.bipush 7, 2, 0, 0, 0, 0, 0, 0) from rfl) (fr' := (266, 11, lv, [.int 7, .ref 129, .int (Int32.ofNat i)])) (M' := M1) rfl) ?_
      refine e_then (s_aldV hT (y := 266) (pc := 11) (q := (yX12_arrive, cX12_arrive, 5, none, 12)) rfl (show aTab 266 11 = some (.iaload, 1, 0, 0, 0, 0, 0, 0) from rfl) rfl hM hg 120 7 rfl rfl (by decide) (v := (Int32.ofNat Z)) (show (g1 120 7) = (Int32.ofNat Z) from hZ1)) ?_
      refine e_then (e_icF hT (y := 266) (pc := 12) (q := (yX12_arrive, cX12_arrive, 5, none, 12)) rfl (show aTab 266 12 = some (.if_icmp .ge 110, 3, 0, 0, 0, 0, 0, 0) from rfl) rfl (t := 122) rfl (cdF (by show ¬ _ ≤ _; omega))) ?_
      refine e_then (e_st hT (y := 266) (pc := 15) (q := (yX12_arrive, cX12_arrive, 5, none, 12)) rfl (show aTab 266 15 = some (.sipush 920, 3, 0, 0, 0, 0, 0, 0) from rfl) (fr' := (266, 18, lv, [.int 920])) (M' := M1) rfl) ?_
      refine e_then (e_st hT (y := 266) (pc := 18) (q := (yX12_arrive, cX12_arrive, 5, none, 12)) rfl (show aTab 266 18 = some (.iconst 3, 1, 0, 0, 0, 0, 0, 0) from rfl) (fr' := (266, 19, lv, [.int 3, .int 920])) (M' := M1) rfl) ?_
      refine e_then (e_il1 hT (y := 266) (pc := 19) (q := (yX12_arrive, cX12_arrive, 5, none, 12)) rfl (show aTab 266 19 = some (.iload_n 2, 1, 0, 0, 0, 0, 0, 0) from rfl) rfl h2) ?_
      refine e_then (e_st hT (y := 266) (pc := 20) (q := (yX12_arrive, cX12_arrive, 5, none, 12)) rfl (show aTab 266 20 = some (.imul, 1, 0, 0, 0, 0, 0, 0) from rfl) (fr' := (266, 21, lv, [.int (3 * (Int32.ofNat i)), .int 920])) (M' := M1) rfl) ?_
      refine e_then (e_st hT (y := 266) (pc := 21) (q := (yX12_arrive, cX12_arrive, 5, none, 12)) rfl (show aTab 266 21 = some (.iadd, 1, 0, 0, 0, 0, 0, 0) from rfl) (fr' := (266, 22, lv, [.int (920 + (3 * (Int32.ofNat i)))])) (M' := M1) rfl) ?_
      refine e_then (e_is1 hT (y := 266) (pc := 22) (q := (yX12_arrive, cX12_arrive, 5, none, 12)) rfl (show aTab 266 22 = some (.istore_n 3, 1, 0, 0, 0, 0, 0, 0) from rfl) ⟨rfl, by decide⟩) ?_
      refine e_then (e_al1 hT (y := 266) (pc := 23) (q := (yX12_arrive, cX12_arrive, 5, none, 12)) rfl (show aTab 266 23 = some (.aload_n 0, 1, 0, 0, 0, 0, 0, 0) from rfl) rfl (mlg_r h0 (by decide))) ?_
      refine e_then (e_getR hT (y := 266) (pc := 24) (q := (yX12_arrive, cX12_arrive, 5, none, 12)) rfl (show aTab 266 24 = some (.getfield 7, 3, 0, 12, 0, 0, 0, 0) from rfl) rfl (by decide) (by decide) hM rfl rfl) ?_
      refine e_then (e_il1 hT (y := 266) (pc := 27) (q := (yX12_arrive, cX12_arrive, 5, none, 12)) rfl (show aTab 266 27 = some (.iload_n 3, 1, 0, 0, 0, 0, 0, 0) from rfl) rfl (mlg_eq 3 _ _)) ?_
      refine e_then (e_st hT (y := 266) (pc := 28) (q := (yX12_arrive, cX12_arrive, 5, none, 12)) rfl (show aTab 266 28 = some (.iconst 2, 1, 0, 0, 0, 0, 0, 0) from rfl) (fr' := (266, 29, (mlp 3 (.int (920 + (3 * (Int32.ofNat i)))) lv), [.int 2, .int (920 + (3 * (Int32.ofNat i))), .ref 129])) (M' := M1) rfl) ?_
      refine e_then (e_st hT (y := 266) (pc := 29) (q := (yX12_arrive, cX12_arrive, 5, none, 12)) rfl (show aTab 266 29 = some (.iadd, 1, 0, 0, 0, 0, 0, 0) from rfl) (fr' := (266, 30, (mlp 3 (.int (920 + (3 * (Int32.ofNat i)))) lv), [.int ((920 + (3 * (Int32.ofNat i))) + 2), .ref 129])) (M' := M1) rfl) ?_
      refine e_then (s_aldV hT (y := 266) (pc := 30) (q := (yX12_arrive, cX12_arrive, 5, none, 12)) rfl (show aTab 266 30 = some (.iaload, 1, 0, 0, 0, 0, 0, 0) from rfl) rfl hM hg 120 (922 + 3 * i) rfl (ixh (c := 2) (by omega) (by decide) rfl) (by omega) (v := (g 120 (922 + 3 * i))) (show (g1 120 (922 + 3 * i)) = (g 120 (922 + 3 * i)) from c22)) ?_
      refine e_then (e_al1 hT (y := 266) (pc := 31) (q := (yX12_arrive, cX12_arrive, 5, none, 12)) rfl (show aTab 266 31 = some (.aload_n 0, 1, 0, 0, 0, 0, 0, 0) from rfl) rfl (mlg_r h0 (by decide))) ?_
      refine e_then (e_getR hT (y := 266) (pc := 32) (q := (yX12_arrive, cX12_arrive, 5, none, 12)) rfl (show aTab 266 32 = some (.getfield 7, 3, 0, 12, 0, 0, 0, 0) from rfl) rfl (by decide) (by decide) hM rfl rfl) ?_
      refine e_then (e_st hT (y := 266) (pc := 35) (q := (yX12_arrive, cX12_arrive, 5, none, 12)) rfl (show aTab 266 35 = some (.iconst 0, 1, 0, 0, 0, 0, 0, 0) from rfl) (fr' := (266, 36, (mlp 3 (.int (920 + (3 * (Int32.ofNat i)))) lv), [.int 0, .ref 129, .int (g 120 (922 + 3 * i))])) (M' := M1) rfl) ?_
      refine e_then (s_aldV hT (y := 266) (pc := 36) (q := (yX12_arrive, cX12_arrive, 5, none, 12)) rfl (show aTab 266 36 = some (.iaload, 1, 0, 0, 0, 0, 0, 0) from rfl) rfl hM hg 120 0 rfl rfl (by decide) (v := m) (show (g1 120 0) = m from hm1)) ?_
      refine e_then (e_icT hT (y := 266) (pc := 37) (q := (yX12_arrive, cX12_arrive, 5, none, 12)) rfl (show aTab 266 37 = some (.if_icmp .gt 37, 3, 0, 0, 0, 0, 0, 0) from rfl) rfl (t := 74) rfl (cdT (by show _ < _; omega))) ?_
      refine e_then (e_st hT (y := 266) (pc := 74) (q := (yX12_arrive, cX12_arrive, 5, none, 12)) rfl (show aTab 266 74 = some (.iconst 0, 1, 0, 0, 0, 0, 0, 0) from rfl) (fr' := (266, 75, (mlp 3 (.int (920 + (3 * (Int32.ofNat i)))) lv), [.int 0])) (M' := M1) rfl) ?_
      refine e_then (e_is2 hT (y := 266) (pc := 75) (q := (yX12_arrive, cX12_arrive, 5, none, 12)) rfl (show aTab 266 75 = some (.istore 4, 2, 0, 0, 0, 0, 0, 0) from rfl) ⟨rfl, by decide⟩) ?_
      refine e_then (e_il2 hT (y := 266) (pc := 77) (q := (yX12_arrive, cX12_arrive, 5, none, 12)) rfl (show aTab 266 77 = some (.iload 4, 2, 0, 0, 0, 0, 0, 0) from rfl) rfl (mlg_eq 4 _ _)) ?_
      refine e_then (e_st hT (y := 266) (pc := 79) (q := (yX12_arrive, cX12_arrive, 5, none, 12)) rfl (show aTab 266 79 = some (.iconst 3, 1, 0, 0, 0, 0, 0, 0) from rfl) (fr' := (266, 80, (mlp 4 (.int 0) (mlp 3 (.int (920 + (3 * (Int32.ofNat i)))) lv)), [.int 3, .int 0])) (M' := M1) rfl) ?_
      refine e_then (e_icF hT (y := 266) (pc := 80) (q := (yX12_arrive, cX12_arrive, 5, none, 12)) rfl (show aTab 266 80 = some (.if_icmp .ge 33, 3, 0, 0, 0, 0, 0, 0) from rfl) rfl (t := 113) rfl (cdF (by show ¬ _ ≤ _; decide))) ?_
      refine e_then (e_al1 hT (y := 266) (pc := 83) (q := (yX12_arrive, cX12_arrive, 5, none, 12)) rfl (show aTab 266 83 = some (.aload_n 0, 1, 0, 0, 0, 0, 0, 0) from rfl) rfl (mlg_r (mlg_r h0 (by decide)) (by decide))) ?_
      refine e_then (e_getR hT (y := 266) (pc := 84) (q := (yX12_arrive, cX12_arrive, 5, none, 12)) rfl (show aTab 266 84 = some (.getfield 7, 3, 0, 12, 0, 0, 0, 0) from rfl) rfl (by decide) (by decide) hM rfl rfl) ?_
      refine e_then (e_st hT (y := 266) (pc := 87) (q := (yX12_arrive, cX12_arrive, 5, none, 12)) rfl (show aTab 266 87 = some (.sipush 920, 3, 0, 0, 0, 0, 0, 0) from rfl) (fr' := (266, 90, (mlp 4 (.int 0) (mlp 3 (.int (920 + (3 * (Int32.ofNat i)))) lv)), [.int 920, .ref 129])) (M' := M1) rfl) ?_
      refine e_then (e_st hT (y := 266) (pc := 90) (q := (yX12_arrive, cX12_arrive, 5, none, 12)) rfl (show aTab 266 90 = some (.iconst 3, 1, 0, 0, 0, 0, 0, 0) from rfl) (fr' := (266, 91, (mlp 4 (.int 0) (mlp 3 (.int (920 + (3 * (Int32.ofNat i)))) lv)), [.int 3, .int 920, .ref 129])) (M' := M1) rfl) ?_
      refine e_then (e_il1 hT (y := 266) (pc := 91) (q := (yX12_arrive, cX12_arrive, 5, none, 12)) rfl (show aTab 266 91 = some (.iload_n 1, 1, 0, 0, 0, 0, 0, 0) from rfl) rfl (mlg_i (mlg_i h1 (by decide)) (by decide))) ?_
      refine e_then (e_st hT (y := 266) (pc := 92) (q := (yX12_arrive, cX12_arrive, 5, none, 12)) rfl (show aTab 266 92 = some (.imul, 1, 0, 0, 0, 0, 0, 0) from rfl) (fr' := (266, 93, (mlp 4 (.int 0) (mlp 3 (.int (920 + (3 * (Int32.ofNat i)))) lv)), [.int (3 * (Int32.ofNat n)), .int 920, .ref 129])) (M' := M1) rfl) ?_
      refine e_then (e_st hT (y := 266) (pc := 93) (q := (yX12_arrive, cX12_arrive, 5, none, 12)) rfl (show aTab 266 93 = some (.iadd, 1, 0, 0, 0, 0, 0, 0) from rfl) (fr' := (266, 94, (mlp 4 (.int 0) (mlp 3 (.int (920 + (3 * (Int32.ofNat i)))) lv)), [.int (920 + (3 * (Int32.ofNat n))), .ref 129])) (M' := M1) rfl) ?_
      refine e_then (e_il2 hT (y := 266) (pc := 94) (q := (yX12_arrive, cX12_arrive, 5, none, 12)) rfl (show aTab 266 94 = some (.iload 4, 2, 0, 0, 0, 0, 0, 0) from rfl) rfl (mlg_eq 4 _ _)) ?_
      refine e_then (e_st hT (y := 266) (pc := 96) (q := (yX12_arrive, cX12_arrive, 5, none, 12)) rfl (show aTab 266 96 = some (.iadd, 1, 0, 0, 0, 0, 0, 0) from rfl) (fr' := (266, 97, (mlp 4 (.int 0) (mlp 3 (.int (920 + (3 * (Int32.ofNat i)))) lv)), [.int ((920 + (3 * (Int32.ofNat n))) + 0), .ref 129])) (M' := M1) rfl) ?_
      refine e_then (e_al1 hT (y := 266) (pc := 97) (q := (yX12_arrive, cX12_arrive, 5, none, 12)) rfl (show aTab 266 97 = some (.aload_n 0, 1, 0, 0, 0, 0, 0, 0) from rfl) rfl (mlg_r (mlg_r h0 (by decide)) (by decide))) ?_
      refine e_then (e_getR hT (y := 266) (pc := 98) (q := (yX12_arrive, cX12_arrive, 5, none, 12)) rfl (show aTab 266 98 = some (.getfield 7, 3, 0, 12, 0, 0, 0, 0) from rfl) rfl (by decide) (by decide) hM rfl rfl) ?_
      refine e_then (e_il1 hT (y := 266) (pc := 101) (q := (yX12_arrive, cX12_arrive, 5, none, 12)) rfl (show aTab 266 101 = some (.iload_n 3, 1, 0, 0, 0, 0, 0, 0) from rfl) rfl (mlg_i (mlg_eq 3 _ _) (by decide))) ?_
      refine e_then (e_il2 hT (y := 266) (pc := 102) (q := (yX12_arrive, cX12_arrive, 5, none, 12)) rfl (show aTab 266 102 = some (.iload 4, 2, 0, 0, 0, 0, 0, 0) from rfl) rfl (mlg_eq 4 _ _)) ?_
      refine e_then (e_st hT (y := 266) (pc := 104) (q := (yX12_arrive, cX12_arrive, 5, none, 12)) rfl (show aTab 266 104 = some (.iadd, 1, 0, 0, 0, 0, 0, 0) from rfl) (fr' := (266, 105, (mlp 4 (.int 0) (mlp 3 (.int (920 + (3 * (Int32.ofNat i)))) lv)), [.int ((920 + (3 * (Int32.ofNat i))) + 0), .ref 129, .int ((920 + (3 * (Int32.ofNat n))) + 0), .ref 129])) (M' := M1) rfl) ?_
      refine e_then (s_aldV hT (y := 266) (pc := 105) (q := (yX12_arrive, cX12_arrive, 5, none, 12)) rfl (show aTab 266 105 = some (.iaload, 1, 0, 0, 0, 0, 0, 0) from rfl) rfl hM hg 120 (920 + 3 * i) rfl (ixh (c := 0) (by omega) (by decide) rfl) (by omega) (v := (g 120 (920 + 3 * i))) (by exact c20)) ?_
      obtain ⟨m1, sm1, tm1, em1⟩ := s_asm (sc := none) (d := _) (lv := (mlp 4 (.int 0) (mlp 3 (.int (920 + (3 * (Int32.ofNat i)))) lv))) (st := []) (z := (g 120 (920 + 3 * i))) (i := ((920 + (3 * (Int32.ofNat n))) + 0)) (l := 0) (h := 29) (vl := 0) (vh := 39) (C := 920) (m := 3) (N := n) hT (y := 266) (pc := 106) (q := (yX12_arrive, cX12_arrive, 5, none, 12)) rfl (show aTab 266 106 = some (.iastore, 1, 0, 0, 0, 0, 0, 0) from rfl) rfl hM hg 120 rfl (by decide +kernel) (by decide) ⟨⟨by omega, by omega⟩, by omega⟩ (ixh (c := 0) (by omega) (by decide) rfl) ⟨p1, p2⟩
      refine e_then sm1 ?_
      refine e_then (e_ii hT (y := 266) (pc := 107) (q := (yX12_arrive, cX12_arrive, 5, none, 12)) rfl (show aTab 266 107 = some (.iinc 4 1, 3, 0, 0, 0, 0, 0, 0) from rfl) ⟨rfl, by decide⟩ (mlg_eq 4 _ _)) ?_
      rw [show (0 : Int32) + Int32.ofInt 1 = 1 from rfl]
      refine e_then (e_st hT (y := 266) (pc := 110) (q := (yX12_arrive, cX12_arrive, 5, none, 12)) rfl (show aTab 266 110 = some (.goto (-33), 3, 0, 0, 0, 0, 0, 0) from rfl) (fr' := (266, 77, (mlp 4 (.int 1) (mlp 4 (.int 0) (mlp 3 (.int (920 + (3 * (Int32.ofNat i)))) lv))), [])) (M' := m1) rfl) ?_
      refine e_then (e_il2 hT (y := 266) (pc := 77) (q := (yX12_arrive, cX12_arrive, 5, none, 12)) rfl (show aTab 266 77 = some (.iload 4, 2, 0, 0, 0, 0, 0, 0) from rfl) rfl (mlg_eq 4 _ _)) ?_
      refine e_then (e_st hT (y := 266) (pc := 79) (q := (yX12_arrive, cX12_arrive, 5, none, 12)) rfl (show aTab 266 79 = some (.iconst 3, 1, 0, 0, 0, 0, 0, 0) from rfl) (fr' := (266, 80, (mlp 4 (.int 1) (mlp 4 (.int 0) (mlp 3 (.int (920 + (3 * (Int32.ofNat i)))) lv))), [.int 3, .int 1])) (M' := m1) rfl) ?_
      refine e_then (e_icF hT (y := 266) (pc := 80) (q := (yX12_arrive, cX12_arrive, 5, none, 12)) rfl (show aTab 266 80 = some (.if_icmp .ge 33, 3, 0, 0, 0, 0, 0, 0) from rfl) rfl (t := 113) rfl (cdF (by show ¬ _ ≤ _; decide))) ?_
      refine e_then (e_al1 hT (y := 266) (pc := 83) (q := (yX12_arrive, cX12_arrive, 5, none, 12)) rfl (show aTab 266 83 = some (.aload_n 0, 1, 0, 0, 0, 0, 0, 0) from rfl) rfl (mlg_r (mlg_r (mlg_r h0 (by decide)) (by decide)) (by decide))) ?_
      refine e_then (e_getR hT (y := 266) (pc := 84) (q := (yX12_arrive, cX12_arrive, 5, none, 12)) rfl (show aTab 266 84 = some (.getfield 7, 3, 0, 12, 0, 0, 0, 0) from rfl) rfl (by decide) (by decide) tm1 rfl rfl) ?_
      refine e_then (e_st hT (y := 266) (pc := 87) (q := (yX12_arrive, cX12_arrive, 5, none, 12)) rfl (show aTab 266 87 = some (.sipush 920, 3, 0, 0, 0, 0, 0, 0) from rfl) (fr' := (266, 90, (mlp 4 (.int 1) (mlp 4 (.int 0) (mlp 3 (.int (920 + (3 * (Int32.ofNat i)))) lv))), [.int 920, .ref 129])) (M' := m1) rfl) ?_
      refine e_then (e_st hT (y := 266) (pc := 90) (q := (yX12_arrive, cX12_arrive, 5, none, 12)) rfl (show aTab 266 90 = some (.iconst 3, 1, 0, 0, 0, 0, 0, 0) from rfl) (fr' := (266, 91, (mlp 4 (.int 1) (mlp 4 (.int 0) (mlp 3 (.int (920 + (3 * (Int32.ofNat i)))) lv))), [.int 3, .int 920, .ref 129])) (M' := m1) rfl) ?_
      refine e_then (e_il1 hT (y := 266) (pc := 91) (q := (yX12_arrive, cX12_arrive, 5, none, 12)) rfl (show aTab 266 91 = some (.iload_n 1, 1, 0, 0, 0, 0, 0, 0) from rfl) rfl (mlg_i (mlg_i (mlg_i h1 (by decide)) (by decide)) (by decide))) ?_
      refine e_then (e_st hT (y := 266) (pc := 92) (q := (yX12_arrive, cX12_arrive, 5, none, 12)) rfl (show aTab 266 92 = some (.imul, 1, 0, 0, 0, 0, 0, 0) from rfl) (fr' := (266, 93, (mlp 4 (.int 1) (mlp 4 (.int 0) (mlp 3 (.int (920 + (3 * (Int32.ofNat i)))) lv))), [.int (3 * (Int32.ofNat n)), .int 920, .ref 129])) (M' := m1) rfl) ?_
      refine e_then (e_st hT (y := 266) (pc := 93) (q := (yX12_arrive, cX12_arrive, 5, none, 12)) rfl (show aTab 266 93 = some (.iadd, 1, 0, 0, 0, 0, 0, 0) from rfl) (fr' := (266, 94, (mlp 4 (.int 1) (mlp 4 (.int 0) (mlp 3 (.int (920 + (3 * (Int32.ofNat i)))) lv))), [.int (920 + (3 * (Int32.ofNat n))), .ref 129])) (M' := m1) rfl) ?_
      refine e_then (e_il2 hT (y := 266) (pc := 94) (q := (yX12_arrive, cX12_arrive, 5, none, 12)) rfl (show aTab 266 94 = some (.iload 4, 2, 0, 0, 0, 0, 0, 0) from rfl) rfl (mlg_eq 4 _ _)) ?_
      refine e_then (e_st hT (y := 266) (pc := 96) (q := (yX12_arrive, cX12_arrive, 5, none, 12)) rfl (show aTab 266 96 = some (.iadd, 1, 0, 0, 0, 0, 0, 0) from rfl) (fr' := (266, 97, (mlp 4 (.int 1) (mlp 4 (.int 0) (mlp 3 (.int (920 + (3 * (Int32.ofNat i)))) lv))), [.int ((920 + (3 * (Int32.ofNat n))) + 1), .ref 129])) (M' := m1) rfl) ?_
      refine e_then (e_al1 hT (y := 266) (pc := 97) (q := (yX12_arrive, cX12_arrive, 5, none, 12)) rfl (show aTab 266 97 = some (.aload_n 0, 1, 0, 0, 0, 0, 0, 0) from rfl) rfl (mlg_r (mlg_r (mlg_r h0 (by decide)) (by decide)) (by decide))) ?_
      refine e_then (e_getR hT (y := 266) (pc := 98) (q := (yX12_arrive, cX12_arrive, 5, none, 12)) rfl (show aTab 266 98 = some (.getfield 7, 3, 0, 12, 0, 0, 0, 0) from rfl) rfl (by decide) (by decide) tm1 rfl rfl) ?_
      refine e_then (e_il1 hT (y := 266) (pc := 101) (q := (yX12_arrive, cX12_arrive, 5, none, 12)) rfl (show aTab 266 101 = some (.iload_n 3, 1, 0, 0, 0, 0, 0, 0) from rfl) rfl (mlg_i (mlg_i (mlg_eq 3 _ _) (by decide)) (by decide))) ?_
      refine e_then (e_il2 hT (y := 266) (pc := 102) (q := (yX12_arrive, cX12_arrive, 5, none, 12)) rfl (show aTab 266 102 = some (.iload 4, 2, 0, 0, 0, 0, 0, 0) from rfl) rfl (mlg_eq 4 _ _)) ?_
      refine e_then (e_st hT (y := 266) (pc := 104) (q := (yX12_arrive, cX12_arrive, 5, none, 12)) rfl (show aTab 266 104 = some (.iadd, 1, 0, 0, 0, 0, 0, 0) from rfl) (fr' := (266, 105, (mlp 4 (.int 1) (mlp 4 (.int 0) (mlp 3 (.int (920 + (3 * (Int32.ofNat i)))) lv))), [.int ((920 + (3 * (Int32.ofNat i))) + 1), .ref 129, .int ((920 + (3 * (Int32.ofNat n))) + 1), .ref 129])) (M' := m1) rfl) ?_
      refine e_then (s_aldV hT (y := 266) (pc := 105) (q := (yX12_arrive, cX12_arrive, 5, none, 12)) rfl (show aTab 266 105 = some (.iaload, 1, 0, 0, 0, 0, 0, 0) from rfl) rfl tm1 em1 120 (921 + 3 * i) rfl (ixh (c := 1) (by omega) (by decide) rfl) (by omega) (v := (g 120 (921 + 3 * i))) (by rw [up2_k _ _ (by omega)]; exact c21)) ?_
      obtain ⟨m2, sm2, tm2, em2⟩ := s_asm (sc := none) (d := _) (lv := (mlp 4 (.int 1) (mlp 4 (.int 0) (mlp 3 (.int (920 + (3 * (Int32.ofNat i)))) lv)))) (st := []) (z := (g 120 (921 + 3 * i))) (i := ((920 + (3 * (Int32.ofNat n))) + 1)) (l := 0) (h := 29) (vl := 0) (vh := 6) (C := 921) (m := 3) (N := n) hT (y := 266) (pc := 106) (q := (yX12_arrive, cX12_arrive, 5, none, 12)) rfl (show aTab 266 106 = some (.iastore, 1, 0, 0, 0, 0, 0, 0) from rfl) rfl tm1 em1 120 rfl (by decide +kernel) (by decide) ⟨⟨by omega, by omega⟩, by omega⟩ (ixh (c := 1) (by omega) (by decide) rfl) ⟨t1, t2⟩
      refine e_then sm2 ?_
      refine e_then (e_ii hT (y := 266) (pc := 107) (q := (yX12_arrive, cX12_arrive, 5, none, 12)) rfl (show aTab 266 107 = some (.iinc 4 1, 3, 0, 0, 0, 0, 0, 0) from rfl) ⟨rfl, by decide⟩ (mlg_eq 4 _ _)) ?_
      rw [show (1 : Int32) + Int32.ofInt 1 = 2 from rfl]
      refine e_then (e_st hT (y := 266) (pc := 110) (q := (yX12_arrive, cX12_arrive, 5, none, 12)) rfl (show aTab 266 110 = some (.goto (-33), 3, 0, 0, 0, 0, 0, 0) from rfl) (fr' := (266, 77, (mlp 4 (.int 2) (mlp 4 (.int 1) (mlp 4 (.int 0) (mlp 3 (.int (920 + (3 * (Int32.ofNat i)))) lv)))), [])) (M' := m2) rfl) ?_
      refine e_then (e_il2 hT (y := 266) (pc := 77) (q := (yX12_arrive, cX12_arrive, 5, none, 12)) rfl (show aTab 266 77 = some (.iload 4, 2, 0, 0, 0, 0, 0, 0) from rfl) rfl (mlg_eq 4 _ _)) ?_
      refine e_then (e_st hT (y := 266) (pc := 79) (q := (yX12_arrive, cX12_arrive, 5, none, 12)) rfl (show aTab 266 79 = some (.iconst 3, 1, 0, 0, 0, 0, 0, 0) from rfl) (fr' := (266, 80, (mlp 4 (.int 2) (mlp 4 (.int 1) (mlp 4 (.int 0) (mlp 3 (.int (920 + (3 * (Int32.ofNat i)))) lv)))), [.int 3, .int 2])) (M' := m2) rfl) ?_
      refine e_then (e_icF hT (y := 266) (pc := 80) (q := (yX12_arrive, cX12_arrive, 5, none, 12)) rfl (show aTab 266 80 = some (.if_icmp .ge 33, 3, 0, 0, 0, 0, 0, 0) from rfl) rfl (t := 113) rfl (cdF (by show ¬ _ ≤ _; decide))) ?_
      refine e_then (e_al1 hT (y := 266) (pc := 83) (q := (yX12_arrive, cX12_arrive, 5, none, 12)) rfl (show aTab 266 83 = some (.aload_n 0, 1, 0, 0, 0, 0, 0, 0) from rfl) rfl (mlg_r (mlg_r (mlg_r (mlg_r h0 (by decide)) (by decide)) (by decide)) (by decide))) ?_
      refine e_then (e_getR hT (y := 266) (pc := 84) (q := (yX12_arrive, cX12_arrive, 5, none, 12)) rfl (show aTab 266 84 = some (.getfield 7, 3, 0, 12, 0, 0, 0, 0) from rfl) rfl (by decide) (by decide) tm2 rfl rfl) ?_
      refine e_then (e_st hT (y := 266) (pc := 87) (q := (yX12_arrive, cX12_arrive, 5, none, 12)) rfl (show aTab 266 87 = some (.sipush 920, 3, 0, 0, 0, 0, 0, 0) from rfl) (fr' := (266, 90, (mlp 4 (.int 2) (mlp 4 (.int 1) (mlp 4 (.int 0) (mlp 3 (.int (920 + (3 * (Int32.ofNat i)))) lv)))), [.int 920, .ref 129])) (M' := m2) rfl) ?_
      refine e_then (e_st hT (y := 266) (pc := 90) (q := (yX12_arrive, cX12_arrive, 5, none, 12)) rfl (show aTab 266 90 = some (.iconst 3, 1, 0, 0, 0, 0, 0, 0) from rfl) (fr' := (266, 91, (mlp 4 (.int 2) (mlp 4 (.int 1) (mlp 4 (.int 0) (mlp 3 (.int (920 + (3 * (Int32.ofNat i)))) lv)))), [.int 3, .int 920, .ref 129])) (M' := m2) rfl) ?_
      refine e_then (e_il1 hT (y := 266) (pc := 91) (q := (yX12_arrive, cX12_arrive, 5, none, 12)) rfl (show aTab 266 91 = some (.iload_n 1, 1, 0, 0, 0, 0, 0, 0) from rfl) rfl (mlg_i (mlg_i (mlg_i (mlg_i h1 (by decide)) (by decide)) (by decide)) (by decide))) ?_
      refine e_then (e_st hT (y := 266) (pc := 92) (q := (yX12_arrive, cX12_arrive, 5, none, 12)) rfl (show aTab 266 92 = some (.imul, 1, 0, 0, 0, 0, 0, 0) from rfl) (fr' := (266, 93, (mlp 4 (.int 2) (mlp 4 (.int 1) (mlp 4 (.int 0) (mlp 3 (.int (920 + (3 * (Int32.ofNat i)))) lv)))), [.int (3 * (Int32.ofNat n)), .int 920, .ref 129])) (M' := m2) rfl) ?_
      refine e_then (e_st hT (y := 266) (pc := 93) (q := (yX12_arrive, cX12_arrive, 5, none, 12)) rfl (show aTab 266 93 = some (.iadd, 1, 0, 0, 0, 0, 0, 0) from rfl) (fr' := (266, 94, (mlp 4 (.int 2) (mlp 4 (.int 1) (mlp 4 (.int 0) (mlp 3 (.int (920 + (3 * (Int32.ofNat i)))) lv)))), [.int (920 + (3 * (Int32.ofNat n))), .ref 129])) (M' := m2) rfl) ?_
      refine e_then (e_il2 hT (y := 266) (pc := 94) (q := (yX12_arrive, cX12_arrive, 5, none, 12)) rfl (show aTab 266 94 = some (.iload 4, 2, 0, 0, 0, 0, 0, 0) from rfl) rfl (mlg_eq 4 _ _)) ?_
      refine e_then (e_st hT (y := 266) (pc := 96) (q := (yX12_arrive, cX12_arrive, 5, none, 12)) rfl (show aTab 266 96 = some (.iadd, 1, 0, 0, 0, 0, 0, 0) from rfl) (fr' := (266, 97, (mlp 4 (.int 2) (mlp 4 (.int 1) (mlp 4 (.int 0) (mlp 3 (.int (920 + (3 * (Int32.ofNat i)))) lv)))), [.int ((920 + (3 * (Int32.ofNat n))) + 2), .ref 129])) (M' := m2) rfl) ?_
      refine e_then (e_al1 hT (y := 266) (pc := 97) (q := (yX12_arrive, cX12_arrive, 5, none, 12)) rfl (show aTab 266 97 = some (.aload_n 0, 1, 0, 0, 0, 0, 0, 0) from rfl) rfl (mlg_r (mlg_r (mlg_r (mlg_r h0 (by decide)) (by decide)) (by decide)) (by decide))) ?_
      refine e_then (e_getR hT (y := 266) (pc := 98) (q := (yX12_arrive, cX12_arrive, 5, none, 12)) rfl (show aTab 266 98 = some (.getfield 7, 3, 0, 12, 0, 0, 0, 0) from rfl) rfl (by decide) (by decide) tm2 rfl rfl) ?_
      refine e_then (e_il1 hT (y := 266) (pc := 101) (q := (yX12_arrive, cX12_arrive, 5, none, 12)) rfl (show aTab 266 101 = some (.iload_n 3, 1, 0, 0, 0, 0, 0, 0) from rfl) rfl (mlg_i (mlg_i (mlg_i (mlg_eq 3 _ _) (by decide)) (by decide)) (by decide))) ?_
      refine e_then (e_il2 hT (y := 266) (pc := 102) (q := (yX12_arrive, cX12_arrive, 5, none, 12)) rfl (show aTab 266 102 = some (.iload 4, 2, 0, 0, 0, 0, 0, 0) from rfl) rfl (mlg_eq 4 _ _)) ?_
      refine e_then (e_st hT (y := 266) (pc := 104) (q := (yX12_arrive, cX12_arrive, 5, none, 12)) rfl (show aTab 266 104 = some (.iadd, 1, 0, 0, 0, 0, 0, 0) from rfl) (fr' := (266, 105, (mlp 4 (.int 2) (mlp 4 (.int 1) (mlp 4 (.int 0) (mlp 3 (.int (920 + (3 * (Int32.ofNat i)))) lv)))), [.int ((920 + (3 * (Int32.ofNat i))) + 2), .ref 129, .int ((920 + (3 * (Int32.ofNat n))) + 2), .ref 129])) (M' := m2) rfl) ?_
      refine e_then (s_aldV hT (y := 266) (pc := 105) (q := (yX12_arrive, cX12_arrive, 5, none, 12)) rfl (show aTab 266 105 = some (.iaload, 1, 0, 0, 0, 0, 0, 0) from rfl) rfl tm2 em2 120 (922 + 3 * i) rfl (ixh (c := 2) (by omega) (by decide) rfl) (by omega) (v := (g 120 (922 + 3 * i))) (by rw [up2_k _ _ (by omega), up2_k _ _ (by omega)]; exact c22)) ?_
      obtain ⟨m3, sm3, tm3, em3⟩ := s_asm (sc := none) (d := _) (lv := (mlp 4 (.int 2) (mlp 4 (.int 1) (mlp 4 (.int 0) (mlp 3 (.int (920 + (3 * (Int32.ofNat i)))) lv))))) (st := []) (z := (g 120 (922 + 3 * i))) (i := ((920 + (3 * (Int32.ofNat n))) + 2)) (l := 0) (h := 29) (vl := (-2147483648)) (vh := 2147483647) (C := 922) (m := 3) (N := n) hT (y := 266) (pc := 106) (q := (yX12_arrive, cX12_arrive, 5, none, 12)) rfl (show aTab 266 106 = some (.iastore, 1, 0, 0, 0, 0, 0, 0) from rfl) rfl tm2 em2 120 rfl (by decide +kernel) (by decide) ⟨⟨by omega, by omega⟩, by omega⟩ (ixh (c := 2) (by omega) (by decide) rfl) ⟨i32_lo _, i32_hi _⟩
      refine e_then sm3 ?_
      refine e_then (e_ii hT (y := 266) (pc := 107) (q := (yX12_arrive, cX12_arrive, 5, none, 12)) rfl (show aTab 266 107 = some (.iinc 4 1, 3, 0, 0, 0, 0, 0, 0) from rfl) ⟨rfl, by decide⟩ (mlg_eq 4 _ _)) ?_
      rw [show (2 : Int32) + Int32.ofInt 1 = 3 from rfl]
      refine e_then (e_st hT (y := 266) (pc := 110) (q := (yX12_arrive, cX12_arrive, 5, none, 12)) rfl (show aTab 266 110 = some (.goto (-33), 3, 0, 0, 0, 0, 0, 0) from rfl) (fr' := (266, 77, (mlp 4 (.int 3) (mlp 4 (.int 2) (mlp 4 (.int 1) (mlp 4 (.int 0) (mlp 3 (.int (920 + (3 * (Int32.ofNat i)))) lv))))), [])) (M' := m3) rfl) ?_
      refine e_then (e_il2 hT (y := 266) (pc := 77) (q := (yX12_arrive, cX12_arrive, 5, none, 12)) rfl (show aTab 266 77 = some (.iload 4, 2, 0, 0, 0, 0, 0, 0) from rfl) rfl (mlg_eq 4 _ _)) ?_
      refine e_then (e_st hT (y := 266) (pc := 79) (q := (yX12_arrive, cX12_arrive, 5, none, 12)) rfl (show aTab 266 79 = some (.iconst 3, 1, 0, 0, 0, 0, 0, 0) from rfl) (fr' := (266, 80, (mlp 4 (.int 3) (mlp 4 (.int 2) (mlp 4 (.int 1) (mlp 4 (.int 0) (mlp 3 (.int (920 + (3 * (Int32.ofNat i)))) lv))))), [.int 3, .int 3])) (M' := m3) rfl) ?_
      refine e_then (e_icT hT (y := 266) (pc := 80) (q := (yX12_arrive, cX12_arrive, 5, none, 12)) rfl (show aTab 266 80 = some (.if_icmp .ge 33, 3, 0, 0, 0, 0, 0, 0) from rfl) rfl (t := 113) rfl (cdT (by show _ ≤ _; decide))) ?_
      refine e_then (e_ii hT (y := 266) (pc := 113) (q := (yX12_arrive, cX12_arrive, 5, none, 12)) rfl (show aTab 266 113 = some (.iinc 1 1, 3, 0, 0, 0, 0, 0, 0) from rfl) ⟨rfl, by decide⟩ (mlg_i (mlg_i (mlg_i (mlg_i (mlg_i h1 (by decide)) (by decide)) (by decide)) (by decide)) (by decide))) ?_
      refine e_then (e_ii hT (y := 266) (pc := 116) (q := (yX12_arrive, cX12_arrive, 5, none, 12)) rfl (show aTab 266 116 = some (.iinc 2 1, 3, 0, 0, 0, 0, 0, 0) from rfl) ⟨rfl, by decide⟩ (mlg_i (mlg_i (mlg_i (mlg_i (mlg_i (mlg_i h2 (by decide)) (by decide)) (by decide)) (by decide)) (by decide)) (by decide))) ?_
      refine e_then (e_st hT (y := 266) (pc := 119) (q := (yX12_arrive, cX12_arrive, 5, none, 12)) rfl (show aTab 266 119 = some (.goto (-115), 3, 0, 0, 0, 0, 0, 0) from rfl) (fr' := (266, 4, (mlp 2 (.int ((Int32.ofNat i) + Int32.ofInt 1)) (mlp 1 (.int ((Int32.ofNat n) + Int32.ofInt 1)) (mlp 4 (.int 3) (mlp 4 (.int 2) (mlp 4 (.int 1) (mlp 4 (.int 0) (mlp 3 (.int (920 + (3 * (Int32.ofNat i)))) lv))))))), [])) (M' := m3) rfl) ?_
      rw [os1 (by omega), os1 (by omega)]
      refine ih _ _ (by omega) tm3 ⟨fun c k hc => ?_, fun k hk1 hk2 => ?_, fun j e he => ?_, fun j hj hj3 => ?_, fun p hp => ?_⟩ (mlg_r (mlg_r (mlg_r (mlg_r (mlg_r (mlg_r (mlg_r h0 (by decide)) (by decide)) (by decide)) (by decide)) (by decide)) (by decide)) (by decide)) (mlg_i (mlg_eq 1 _ _) (by decide)) (mlg_eq 2 _ _)
      · rw [em3, up2_c _ _ hc, up2_c _ _ hc, up2_c _ _ hc]
        exact i0 c k hc
      · rw [em3, up2_k _ _ (by omega), up2_k _ _ (by omega), up2_k _ _ (by omega)]
        exact i1 k hk1 hk2
      · rw [em3]
        by_cases hj : j = n
        · subst hj
          rw [List.getElem?_append_right (by omega), ← hn, Nat.sub_self] at he
          cases he
          rw [up2_k _ _ (by omega), up2_k _ _ (by omega), up2_eq, up2_k _ _ (by omega), up2_eq, up2_eq]
          exact ⟨rfl, rfl, rfl⟩
        · have hlt : j < (tk.filter (shQ m.toInt)).length := by
            have h1 := (List.getElem?_eq_some_iff.mp he).1
            rw [List.length_append, ← hn] at h1
            have h1 : j < n + 1 := h1
            omega
          rw [List.getElem?_append_left hlt] at he
          rw [up2_k _ _ (by omega), up2_k _ _ (by omega), up2_k _ _ (by omega), up2_k _ _ (by omega), up2_k _ _ (by omega), up2_k _ _ (by omega), up2_k _ _ (by omega), up2_k _ _ (by omega), up2_k _ _ (by omega)]
          exact i2 j e he
      · rw [em3, up2_k _ _ (by omega), up2_k _ _ (by omega), up2_k _ _ (by omega), up2_k _ _ (by omega), up2_k _ _ (by omega), up2_k _ _ (by omega), up2_k _ _ (by omega), up2_k _ _ (by omega), up2_k _ _ (by omega)]
        exact i3 j (by omega) hj3
      · rw [em3, up2_k _ _ (by omega), up2_k _ _ (by omega), up2_k _ _ (by omega)]
        exact i4 p hp
theorem rcm_run (hT : aTabOk) {M : mHe} (hM : yTy M) {g : Nat → Nat → Int32} (hg : rdI M = g) {Z : Nat} (hZ : g 120 7 = Int32.ofNat Z) (hZ2 : Z ≤ 30) (hs : ∀ i, i < Z → (0 ≤ (g 120 (920 + 3 * i)).toInt ∧ (g 120 (920 + 3 * i)).toInt ≤ 39) ∧ (0 ≤ (g 120 (921 + 3 * i)).toInt ∧ (g 120 (921 + 3 * i)).toInt ≤ 6)) {m : Int32} (hm : g 120 0 = m) {d : Nat} (hd : 20 ≤ d) : ∃ K M', mRun none K d (266, 0, lv_args 0 [.ref 128], []) M = some (none, M') ∧ yTy M' ∧ ∃ g1, rcmI g Z m.toInt Z g1 ∧ rdI M' = up2 g1 120 7 (Int32.ofNat ((shL (rfP g 920) (rfP g 921) (rfP g 922) Z).filter (shQ m.toInt)).length) := by
  have go : mEv none 20 (266, 0, lv_args 0 [.ref 128], []) M (fun r M' => r = none ∧ yTy M' ∧ ∃ g1, rcmI g Z m.toInt Z g1 ∧ rdI M' = up2 g1 120 7 (Int32.ofNat ((shL (rfP g 920) (rfP g 921) (rfP g 922) Z).filter (shQ m.toInt)).length)) := by
    refine e_then (e_st hT (y := 266) (pc := 0) (q := (yX12_arrive, cX12_arrive, 5, none, 12)) rfl (show aTab 266 0 = some (.iconst 0, 1, 0, 0, 0, 0, 0, 0) from rfl) (fr' := (266, 1, (lv_args 0 [.ref 128]), [.int 0])) (M' := M) rfl) ?_
    refine e_then (e_is1 hT (y := 266) (pc := 1) (q := (yX12_arrive, cX12_arrive, 5, none, 12)) rfl (show aTab 266 1 = some (.istore_n 1, 1, 0, 0, 0, 0, 0, 0) from rfl) ⟨rfl, by decide⟩) ?_
    refine e_then (e_st hT (y := 266) (pc := 2) (q := (yX12_arrive, cX12_arrive, 5, none, 12)) rfl (show aTab 266 2 = some (.iconst 0, 1, 0, 0, 0, 0, 0, 0) from rfl) (fr' := (266, 3, (mlp 1 (.int 0) (lv_args 0 [.ref 128])), [.int 0])) (M' := M) rfl) ?_
    refine e_then (e_is1 hT (y := 266) (pc := 3) (q := (yX12_arrive, cX12_arrive, 5, none, 12)) rfl (show aTab 266 3 = some (.istore_n 2, 1, 0, 0, 0, 0, 0, 0) from rfl) ⟨rfl, by decide⟩) ?_
    refine rcm_loop hT hZ hZ2 hs hm Z 0 _ M (by omega) hM ?_ (mlg_r (mlg_r rfl (by decide)) (by decide)) (mlg_i (mlg_eq 1 _ _) (by decide)) (mlg_eq 2 _ _)
    rw [hg]
    exact ⟨fun _ _ _ => rfl, fun _ _ _ => rfl, fun j e he => by simp at he, fun _ _ _ => ⟨rfl, rfl, rfl⟩, fun p _ => by show g 120 (166 + 10 * p) = g 120 (166 + 10 * p) ||| 0; rw [Int32.or_zero]⟩
  obtain ⟨K, r, M', q, rfl, q2, q3⟩ := go
  exact ⟨K, M', mRun_dm q hd, q2, q3⟩
