/-! SHEETS THAT COME -/
abbrev shE : Type := Int32 × Int32 × Int32
def shL (a b c : Nat → Int32) (Z : Nat) : List shE := (List.range Z).map (fun i => (a i, b i, c i))
/-- what has come by sheets -/
def cmO : List shE → Nat → Int32
  | [], _ => 0
  | e :: es, p => (if e.1.toInt = (p : Int) then 1 <<< (e.2.1 &&& 31) else 0) ||| cmO es p
def shD (m : Int) (e : shE) : Bool := decide (e.2.2.toInt ≤ m)
def shQ (m : Int) (e : shE) : Bool := decide (m < e.2.2.toInt)
theorem cmO_app (es fs : List shE) (p : Nat) : cmO (es ++ fs) p = cmO es p ||| cmO fs p := by
  induction es with
  | nil => show cmO fs p = 0 ||| cmO fs p; rw [Int32.zero_or]
  | cons e es ih =>
    show (if e.1.toInt = (p : Int) then 1 <<< (e.2.1 &&& 31) else 0) ||| cmO (es ++ fs) p = ((if e.1.toInt = (p : Int) then 1 <<< (e.2.1 &&& 31) else 0) ||| cmO es p) ||| cmO fs p
    rw [ih, Int32.or_assoc]
theorem shL_at {a b c : Nat → Int32} {Z i : Nat} (h : i < Z) : (shL a b c Z)[i]? = some (a i, b i, c i) := by
  unfold shL
  rw [List.getElem?_map, List.getElem?_range h]
  rfl
theorem shL_take {a b c : Nat → Int32} {Z i : Nat} (h : i < Z) : (shL a b c Z).take (i + 1) = (shL a b c Z).take i ++ [(a i, b i, c i)] := by
  rw [List.take_add_one, shL_at h]
  rfl
theorem shL_all {a b c : Nat → Int32} {Z : Nat} : (shL a b c Z).take Z = shL a b c Z := List.take_of_length_le (by simp [shL])
theorem fil_1 {f : shE → Bool} {l : List shE} {e : shE} : (l ++ [e]).filter f = l.filter f ++ (if f e then [e] else []) := by
  rw [List.filter_append]
  congr 1
  cases h : f e
  · simp [h]
  · simp [h]
theorem fil_len {f : shE → Bool} {l : List shE} {i : Nat} : ((l.take i).filter f).length ≤ i := Nat.le_trans (List.length_filter_le _ _) (List.length_take_le _ _)
/-- between: i sheets gone through -/
def xcmI (g : Nat → Nat → Int32) (Z : Nat) (m : Int) (i : Nat) (g1 : Nat → Nat → Int32) : Prop := (∀ c k, c ≠ 18 → c ≠ 25 → c ≠ 26 → c ≠ 27 → g1 c k = g c k) ∧ (∀ (j : Nat) (e : shE), (((shL (g 25) (g 26) (g 27) Z).take i).filter (shQ m))[j]? = some e → g1 25 j = e.1 ∧ g1 26 j = e.2.1 ∧ g1 27 j = e.2.2) ∧ (∀ j, i ≤ j → g1 25 j = g 25 j ∧ g1 26 j = g 26 j ∧ g1 27 j = g 27 j) ∧ ∀ p, g1 18 p = g 18 p ||| cmO (((shL (g 25) (g 26) (g 27) Z).take i).filter (shD m)) p
theorem xcm_loop (hT : aTabOk) {g : Nat → Nat → Int32} {P Z : Nat} (hP : g 11 0 = Int32.ofNat P) (hP2 : P ≤ 40) (hZ : g 24 0 = Int32.ofNat Z) (hZ2 : Z ≤ 30) (hs : ∀ i, i < Z → (0 ≤ (g 25 i).toInt ∧ (g 25 i).toInt < (P : Int)) ∧ (0 ≤ (g 26 i).toInt ∧ (g 26 i).toInt ≤ 6)) {m : Int32} : ∀ (d i : Nat) (lv : List (Nat × Value)) (M1 : mHe), i + d = Z → yTy M1 → xcmI g Z m.toInt i (rdI M1) → mlg 0 lv = some (.ref 33) → mlg 1 lv = some (.int m) → mlg 2 lv = some (.ref 20) → mlg 3 lv = some (.int (Int32.ofNat (((shL (g 25) (g 26) (g 27) Z).take i).filter (shQ m.toInt)).length)) → mlg 4 lv = some (.int (Int32.ofNat i)) → mEv none 20 (133, 5, lv, []) M1 (fun r M' => r = none ∧ yTy M' ∧ ∃ g1, xcmI g Z m.toInt Z g1 ∧ rdI M' = up2 g1 24 0 (Int32.ofNat ((shL (g 25) (g 26) (g 27) Z).filter (shQ m.toInt)).length)) := by
  have eZ := i32n (k := Z) (by omega)
  have e30 : (30 : Int32).toInt = 30 := rfl
  intro d
  induction d with
  | zero =>
    intro i lv M1 hd hM hI h0 h1 h2 h3 h4
    have hd : i = Z := by omega
    subst hd
    rw [shL_all] at h3
    have hl := List.length_filter_le (shQ m.toInt) (shL (g 25) (g 26) (g 27) i)
    rw [show (shL (g 25) (g 26) (g 27) i).length = i by simp [shL]] at hl
    obtain ⟨n, hn⟩ : ∃ n, n = ((shL (g 25) (g 26) (g 27) i).filter (shQ m.toInt)).length := ⟨_, rfl⟩
    rw [← hn] at h3 hl ⊢
    have en := i32n (k := n) (by omega)
    obtain ⟨g1, hg⟩ : ∃ x, x = rdI M1 := ⟨_, rfl⟩
    rw [← hg] at hI
    have hg := hg.symm
    have hZ1 : g1 24 0 = Int32.ofNat i := by rw [hI.1 24 0 (by decide) (by decide) (by decide) (by decide)]; exact hZ
    refine e_then (e_il2 hT (y := 133) (pc := 5) (q := (yX6_comeTill, cX6_comeTill, 5, none, 6)) rfl (show aTab 133 5 = some (.iload 4, 2, 0, 0, 0, 0, 0, 0) from rfl) rfl h4) ?_
    refine e_then (e_al1 hT (y := 133) (pc := 7) (q := (yX6_comeTill, cX6_comeTill, 5, none, 6)) rfl (show aTab 133 7 = some (.aload_n 0, 1, 0, 0, 0, 0, 0, 0) from rfl) rfl h0) ?_
    refine e_then (s_getV hT (y := 133) (pc := 8) (q := (yX6_comeTill, cX6_comeTill, 5, none, 6)) rfl (show aTab 133 8 = some (.getfield 21, 3, 0, 6, 0, 0, 0, 0) from rfl) rfl (by decide) hM hg 24 rfl rfl (v := (Int32.ofNat i)) (show (g1 24 0) = (Int32.ofNat i) from hZ1)) ?_
    refine e_then (e_icT hT (y := 133) (pc := 11) (q := (yX6_comeTill, cX6_comeTill, 5, none, 6)) rfl (show aTab 133 11 = some (.if_icmp .ge 90, 3, 0, 0, 0, 0, 0, 0) from rfl) rfl (t := 101) rfl (cdT (Int.le_refl _))) ?_
    refine e_then (e_al1 hT (y := 133) (pc := 101) (q := (yX6_comeTill, cX6_comeTill, 5, none, 6)) rfl (show aTab 133 101 = some (.aload_n 0, 1, 0, 0, 0, 0, 0, 0) from rfl) rfl h0) ?_
    refine e_then (e_il1 hT (y := 133) (pc := 102) (q := (yX6_comeTill, cX6_comeTill, 5, none, 6)) rfl (show aTab 133 102 = some (.iload_n 3, 1, 0, 0, 0, 0, 0, 0) from rfl) rfl h3) ?_
    obtain ⟨m1, sm1, tm1, em1⟩ := s_putI (sc := none) (d := _) (lv := lv) (st := []) (z := (Int32.ofNat n)) hT (y := 133) (pc := 103) (q := (yX6_comeTill, cX6_comeTill, 5, none, 6)) rfl (show aTab 133 103 = some (.putfield 21, 3, 0, 6, 0, 0, 0, 0) from rfl) rfl rfl ⟨by decide, rfl, rfl⟩ hM hg 24 rfl rfl ⟨by omega, by omega⟩ (kn := 0) rfl
    refine e_then sm1 ?_
    exact e_fin (e_vret hT (y := 133) (pc := 106) (q := (yX6_comeTill, cX6_comeTill, 5, none, 6)) rfl (show aTab 133 106 = some (.return_, 1, 0, 0, 0, 0, 0, 0) from rfl) ⟨rfl, rfl⟩) ⟨rfl, tm1, g1, hI, em1⟩
  | succ d ih =>
    intro i lv M1 hd hM hI h0 h1 h2 h3 h4
    have ei := i32n (k := i) (by omega)
    have hiZ : i < Z := by omega
    obtain ⟨⟨p1, p2⟩, t1, t2⟩ := hs i hiZ
    have hlen : (((shL (g 25) (g 26) (g 27) Z).take i).filter (shQ m.toInt)).length ≤ i := fil_len
    have hT1 := shL_take (a := g 25) (b := g 26) (c := g 27) hiZ
    have ih := ih (i + 1)
    unfold xcmI at ih
    rw [hT1, fil_1, fil_1] at ih
    obtain ⟨tk, htk⟩ : ∃ x, x = (shL (g 25) (g 26) (g 27) Z).take i := ⟨_, rfl⟩
    rw [← htk] at ih h3 hlen
    obtain ⟨i1, i2, i3, i4⟩ := hI
    rw [← htk] at i2 i4
    obtain ⟨n, hn⟩ : ∃ n, n = (tk.filter (shQ m.toInt)).length := ⟨_, rfl⟩
    rw [← hn] at h3 hlen
    have en := i32n (k := n) (by omega)
    obtain ⟨g1, hg⟩ : ∃ x, x = rdI M1 := ⟨_, rfl⟩
    rw [← hg] at i1 i2 i3 i4
    have hg := hg.symm
    obtain ⟨c25, c26, c27⟩ := i3 i (Nat.le_refl _)
    have hZ1 : g1 24 0 = Int32.ofNat Z := by rw [i1 24 0 (by decide) (by decide) (by decide) (by decide)]; exact hZ
    have hP1 : g1 11 0 = Int32.ofNat P := by rw [i1 11 0 (by decide) (by decide) (by decide) (by decide)]; exact hP
    by_cases c : (g 27 i).toInt ≤ m.toInt
    · have e1 : shD m.toInt (g 25 i, g 26 i, g 27 i) = true := decide_eq_true c
      have e2 : shQ m.toInt (g 25 i, g 26 i, g 27 i) = false := decide_eq_false (by show ¬ m.toInt < (g 27 i).toInt; omega)
      rw [e1, e2, if_pos rfl, if_neg (by decide), List.append_nil] at ih
      obtain ⟨pp, hpp⟩ : ∃ n : Nat, (n : Int) = (g 25 i).toInt := ⟨(g 25 i).toInt.toNat, by omega⟩
      obtain ⟨K4, M4, q4, t4, e4⟩ := xci_run hT hM hg hP1 hP2 (p := g 25 i) (t := g 26 i) hpp.symm (by omega) ⟨t1, t2⟩ (d := 19) (by decide)
      refine e_then (e_il2 hT (y := 133) (pc := 5) (q := (yX6_comeTill, cX6_comeTill, 5, none, 6)) rfl (show aTab 133 5 = some (.iload 4, 2, 0, 0, 0, 0, 0, 0) from rfl) rfl h4) ?_
      refine e_then (e_al1 hT (y := 133) (pc := 7) (q := (yX6_comeTill, cX6_comeTill, 5, none, 6)) rfl (show aTab 133 7 = some (.aload_n 0, 1, 0, 0, 0, 0, 0, 0) from rfl) rfl h0) ?_
      refine e_then (s_getV hT (y := 133) (pc := 8) (q := (yX6_comeTill, cX6_comeTill, 5, none, 6)) rfl (show aTab 133 8 = some (.getfield 21, 3, 0, 6, 0, 0, 0, 0) from rfl) rfl (by decide) hM hg 24 rfl rfl (v := (Int32.ofNat Z)) (show (g1 24 0) = (Int32.ofNat Z) from hZ1)) ?_
      refine e_then (e_icF hT (y := 133) (pc := 11) (q := (yX6_comeTill, cX6_comeTill, 5, none, 6)) rfl (show aTab 133 11 = some (.if_icmp .ge 90, 3, 0, 0, 0, 0, 0, 0) from rfl) rfl (t := 101) rfl (cdF (by show ¬ _ ≤ _; omega))) ?_
      refine e_then (e_il2 hT (y := 133) (pc := 14) (q := (yX6_comeTill, cX6_comeTill, 5, none, 6)) rfl (show aTab 133 14 = some (.iload 4, 2, 0, 0, 0, 0, 0, 0) from rfl) rfl h4) ?_
      refine e_then (e_st hT (y := 133) (pc := 16) (q := (yX6_comeTill, cX6_comeTill, 5, none, 6)) rfl (show aTab 133 16 = some (.bipush 30, 2, 0, 0, 0, 0, 0, 0) from rfl) (fr' := (133, 18, lv, [.int 30, .int (Int32.ofNat i)])) (M' := M1) rfl) ?_
      refine e_then (e_icF hT (y := 133) (pc := 18) (q := (yX6_comeTill, cX6_comeTill, 5, none, 6)) rfl (show aTab 133 18 = some (.if_icmp .ge 83, 3, 0, 0, 0, 0, 0, 0) from rfl) rfl (t := 101) rfl (cdF (by show ¬ _ ≤ _; omega))) ?_
      refine e_then (e_al1 hT (y := 133) (pc := 21) (q := (yX6_comeTill, cX6_comeTill, 5, none, 6)) rfl (show aTab 133 21 = some (.aload_n 0, 1, 0, 0, 0, 0, 0, 0) from rfl) rfl h0) ?_
      refine e_then (e_getR hT (y := 133) (pc := 22) (q := (yX6_comeTill, cX6_comeTill, 5, none, 6)) rfl (show aTab 133 22 = some (.getfield 18, 3, 0, 6, 3, 0, 0, 0) from rfl) rfl (by decide) (by decide) hM rfl rfl) ?_
      refine e_then (e_il2 hT (y := 133) (pc := 25) (q := (yX6_comeTill, cX6_comeTill, 5, none, 6)) rfl (show aTab 133 25 = some (.iload 4, 2, 0, 0, 0, 0, 0, 0) from rfl) rfl h4) ?_
      refine e_then (s_aldV hT (y := 133) (pc := 27) (q := (yX6_comeTill, cX6_comeTill, 5, none, 6)) rfl (show aTab 133 27 = some (.iaload, 1, 0, 0, 0, 0, 0, 0) from rfl) rfl hM hg 27 i rfl ei (by omega) (v := (g 27 i)) (show (g1 27 i) = (g 27 i) from c27)) ?_
      refine e_then (e_il1 hT (y := 133) (pc := 28) (q := (yX6_comeTill, cX6_comeTill, 5, none, 6)) rfl (show aTab 133 28 = some (.iload_n 1, 1, 0, 0, 0, 0, 0, 0) from rfl) rfl h1) ?_
      refine e_then (e_icF hT (y := 133) (pc := 29) (q := (yX6_comeTill, cX6_comeTill, 5, none, 6)) rfl (show aTab 133 29 = some (.if_icmp .gt 24, 3, 0, 0, 0, 0, 0, 0) from rfl) rfl (t := 53) rfl (cdF (by show ¬ _ < _; omega))) ?_
      refine e_then (e_al1 hT (y := 133) (pc := 32) (q := (yX6_comeTill, cX6_comeTill, 5, none, 6)) rfl (show aTab 133 32 = some (.aload_n 2, 1, 0, 0, 0, 0, 0, 0) from rfl) rfl h2) ?_
      refine e_then (e_al1 hT (y := 133) (pc := 33) (q := (yX6_comeTill, cX6_comeTill, 5, none, 6)) rfl (show aTab 133 33 = some (.aload_n 0, 1, 0, 0, 0, 0, 0, 0) from rfl) rfl h0) ?_
      refine e_then (e_getR hT (y := 133) (pc := 34) (q := (yX6_comeTill, cX6_comeTill, 5, none, 6)) rfl (show aTab 133 34 = some (.getfield 9, 3, 0, 6, 1, 0, 0, 0) from rfl) rfl (by decide) (by decide) hM rfl rfl) ?_
      refine e_then (e_il2 hT (y := 133) (pc := 37) (q := (yX6_comeTill, cX6_comeTill, 5, none, 6)) rfl (show aTab 133 37 = some (.iload 4, 2, 0, 0, 0, 0, 0, 0) from rfl) rfl h4) ?_
      refine e_then (s_aldV hT (y := 133) (pc := 39) (q := (yX6_comeTill, cX6_comeTill, 5, none, 6)) rfl (show aTab 133 39 = some (.iaload, 1, 0, 0, 0, 0, 0, 0) from rfl) rfl hM hg 25 i rfl ei (by omega) (v := (g 25 i)) (show (g1 25 i) = (g 25 i) from c25)) ?_
      refine e_then (e_al1 hT (y := 133) (pc := 40) (q := (yX6_comeTill, cX6_comeTill, 5, none, 6)) rfl (show aTab 133 40 = some (.aload_n 0, 1, 0, 0, 0, 0, 0, 0) from rfl) rfl h0) ?_
      refine e_then (e_getR hT (y := 133) (pc := 41) (q := (yX6_comeTill, cX6_comeTill, 5, none, 6)) rfl (show aTab 133 41 = some (.getfield 15, 3, 0, 6, 2, 0, 0, 0) from rfl) rfl (by decide) (by decide) hM rfl rfl) ?_
      refine e_then (e_il2 hT (y := 133) (pc := 44) (q := (yX6_comeTill, cX6_comeTill, 5, none, 6)) rfl (show aTab 133 44 = some (.iload 4, 2, 0, 0, 0, 0, 0, 0) from rfl) rfl h4) ?_
      refine e_then (s_aldV hT (y := 133) (pc := 46) (q := (yX6_comeTill, cX6_comeTill, 5, none, 6)) rfl (show aTab 133 46 = some (.iaload, 1, 0, 0, 0, 0, 0, 0) from rfl) rfl hM hg 26 i rfl ei (by omega) (v := (g 26 i)) (show (g1 26 i) = (g 26 i) from c26)) ?_
      refine e_then (e_call hT (y := 133) (pc := 47) (q := (yX6_comeTill, cX6_comeTill, 5, none, 6)) rfl (show aTab 133 47 = some (.invokevirtual 41, 3, 1, 91, 0, 2, 3, 4) from rfl) rfl ⟨by decide, Nat.le_of_ble_eq_true rfl⟩ (ob_at hM (rfl : tTy 11 = some (.inr (4, _)))).choose_spec (Nat.le_of_ble_eq_true rfl) (Nat.le_of_ble_eq_true rfl) ⟨by decide, by decide⟩ q4) ?_
      refine e_then (e_st hT (y := 133) (pc := 50) (q := (yX6_comeTill, cX6_comeTill, 5, none, 6)) rfl (show aTab 133 50 = some (.goto 45, 3, 0, 0, 0, 0, 0, 0) from rfl) (fr' := (133, 95, lv, [])) (M' := M4) rfl) ?_
      refine e_then (e_ii hT (y := 133) (pc := 95) (q := (yX6_comeTill, cX6_comeTill, 5, none, 6)) rfl (show aTab 133 95 = some (.iinc 4 1, 3, 0, 0, 0, 0, 0, 0) from rfl) ⟨rfl, by decide⟩ h4) ?_
      refine e_then (e_st hT (y := 133) (pc := 98) (q := (yX6_comeTill, cX6_comeTill, 5, none, 6)) rfl (show aTab 133 98 = some (.goto (-93), 3, 0, 0, 0, 0, 0, 0) from rfl) (fr' := (133, 5, (mlp 4 (.int ((Int32.ofNat i) + Int32.ofInt 1)) lv), [])) (M' := M4) rfl) ?_
      rw [os1 (by omega)]
      refine ih _ M4 (by omega) t4 ⟨fun c k h18 h25 h26 h27 => ?_, fun j e he => ?_, fun j hj => ?_, fun p => ?_⟩ (mlg_r h0 (by decide)) (mlg_i h1 (by decide)) (mlg_r h2 (by decide)) (by rw [← hn]; exact (mlg_i h3 (by decide))) (mlg_eq 4 _ _)
      · rw [e4, up2_c _ _ h18]
        exact i1 c k h18 h25 h26 h27
      · rw [e4, up2_c _ _ (by decide), up2_c _ _ (by decide), up2_c _ _ (by decide)]
        exact i2 j e he
      · rw [e4, up2_c _ _ (by decide), up2_c _ _ (by decide), up2_c _ _ (by decide)]
        exact i3 j (by omega)
      · rw [e4, cmO_app, ← Int32.or_assoc, ← i4 p]
        show _ = g1 18 p ||| ((if (g 25 i).toInt = (p : Int) then 1 <<< (g 26 i &&& 31) else 0) ||| 0)
        rw [Int32.or_zero]
        by_cases hp : p = pp
        · subst hp
          rw [up2_eq, if_pos hpp.symm]
        · rw [up2_k _ _ hp, if_neg (by omega), Int32.or_zero]
    · have e1 : shD m.toInt (g 25 i, g 26 i, g 27 i) = false := decide_eq_false c
      have e2 : shQ m.toInt (g 25 i, g 26 i, g 27 i) = true := decide_eq_true (by show m.toInt < (g 27 i).toInt; omega)
      rw [e1, e2, if_pos rfl, if_neg (by decide), List.append_nil, List.length_append, ← hn] at ih
      refine e_then (e_il2 hT (y := 133) (pc := 5) (q := (yX6_comeTill, cX6_comeTill, 5, none, 6)) rfl (show aTab 133 5 = some (.iload 4, 2, 0, 0, 0, 0, 0, 0) from rfl) rfl h4) ?_
      refine e_then (e_al1 hT (y := 133) (pc := 7) (q := (yX6_comeTill, cX6_comeTill, 5, none, 6)) rfl (show aTab 133 7 = some (.aload_n 0, 1, 0, 0, 0, 0, 0, 0) from rfl) rfl h0) ?_
      refine e_then (s_getV hT (y := 133) (pc := 8) (q := (yX6_comeTill, cX6_comeTill, 5, none, 6)) rfl (show aTab 133 8 = some (.getfield 21, 3, 0, 6, 0, 0, 0, 0) from rfl) rfl (by decide) hM hg 24 rfl rfl (v := (Int32.ofNat Z)) (show (g1 24 0) = (Int32.ofNat Z) from hZ1)) ?_
      refine e_then (e_icF hT (y := 133) (pc := 11) (q := (yX6_comeTill, cX6_comeTill, 5, none, 6)) rfl (show aTab 133 11 = some (.if_icmp .ge 90, 3, 0, 0, 0, 0, 0, 0) from rfl) rfl (t := 101) rfl (cdF (by show ¬ _ ≤ _; omega))) ?_
      refine e_then (e_il2 hT (y := 133) (pc := 14) (q := (yX6_comeTill, cX6_comeTill, 5, none, 6)) rfl (show aTab 133 14 = some (.iload 4, 2, 0, 0, 0, 0, 0, 0) from rfl) rfl h4) ?_
      refine e_then (e_st hT (y := 133) (pc := 16) (q := (yX6_comeTill, cX6_comeTill, 5, none, 6)) rfl (show aTab 133 16 = some (.bipush 30, 2, 0, 0, 0, 0, 0, 0) from rfl) (fr' := (133, 18, lv, [.int 30, .int (Int32.ofNat i)])) (M' := M1) rfl) ?_
      refine e_then (e_icF hT (y := 133) (pc := 18) (q := (yX6_comeTill, cX6_comeTill, 5, none, 6)) rfl (show aTab 133 18 = some (.if_icmp .ge 83, 3, 0, 0, 0, 0, 0, 0) from rfl) rfl (t := 101) rfl (cdF (by show ¬ _ ≤ _; omega))) ?_
      refine e_then (e_al1 hT (y := 133) (pc := 21) (q := (yX6_comeTill, cX6_comeTill, 5, none, 6)) rfl (show aTab 133 21 = some (.aload_n 0, 1, 0, 0, 0, 0, 0, 0) from rfl) rfl h0) ?_
      refine e_then (e_getR hT (y := 133) (pc := 22) (q := (yX6_comeTill, cX6_comeTill, 5, none, 6)) rfl (show aTab 133 22 = some (.getfield 18, 3, 0, 6, 3, 0, 0, 0) from rfl) rfl (by decide) (by decide) hM rfl rfl) ?_
      refine e_then (e_il2 hT (y := 133) (pc := 25) (q := (yX6_comeTill, cX6_comeTill, 5, none, 6)) rfl (show aTab 133 25 = some (.iload 4, 2, 0, 0, 0, 0, 0, 0) from rfl) rfl h4) ?_
      refine e_then (s_aldV hT (y := 133) (pc := 27) (q := (yX6_comeTill, cX6_comeTill, 5, none, 6)) rfl (show aTab 133 27 = some (.iaload, 1, 0, 0, 0, 0, 0, 0) from rfl) rfl hM hg 27 i rfl ei (by omega) (v := (g 27 i)) (show (g1 27 i) = (g 27 i) from c27)) ?_
      refine e_then (e_il1 hT (y := 133) (pc := 28) (q := (yX6_comeTill, cX6_comeTill, 5, none, 6)) rfl (show aTab 133 28 = some (.iload_n 1, 1, 0, 0, 0, 0, 0, 0) from rfl) rfl h1) ?_
      refine e_then (e_icT hT (y := 133) (pc := 29) (q := (yX6_comeTill, cX6_comeTill, 5, none, 6)) rfl (show aTab 133 29 = some (.if_icmp .gt 24, 3, 0, 0, 0, 0, 0, 0) from rfl) rfl (t := 53) rfl (cdT (by show _ < _; omega))) ?_
      refine e_then (e_al1 hT (y := 133) (pc := 53) (q := (yX6_comeTill, cX6_comeTill, 5, none, 6)) rfl (show aTab 133 53 = some (.aload_n 0, 1, 0, 0, 0, 0, 0, 0) from rfl) rfl h0) ?_
      refine e_then (e_getR hT (y := 133) (pc := 54) (q := (yX6_comeTill, cX6_comeTill, 5, none, 6)) rfl (show aTab 133 54 = some (.getfield 9, 3, 0, 6, 1, 0, 0, 0) from rfl) rfl (by decide) (by decide) hM rfl rfl) ?_
      refine e_then (e_il1 hT (y := 133) (pc := 57) (q := (yX6_comeTill, cX6_comeTill, 5, none, 6)) rfl (show aTab 133 57 = some (.iload_n 3, 1, 0, 0, 0, 0, 0, 0) from rfl) rfl h3) ?_
      refine e_then (e_al1 hT (y := 133) (pc := 58) (q := (yX6_comeTill, cX6_comeTill, 5, none, 6)) rfl (show aTab 133 58 = some (.aload_n 0, 1, 0, 0, 0, 0, 0, 0) from rfl) rfl h0) ?_
      refine e_then (e_getR hT (y := 133) (pc := 59) (q := (yX6_comeTill, cX6_comeTill, 5, none, 6)) rfl (show aTab 133 59 = some (.getfield 9, 3, 0, 6, 1, 0, 0, 0) from rfl) rfl (by decide) (by decide) hM rfl rfl) ?_
      refine e_then (e_il2 hT (y := 133) (pc := 62) (q := (yX6_comeTill, cX6_comeTill, 5, none, 6)) rfl (show aTab 133 62 = some (.iload 4, 2, 0, 0, 0, 0, 0, 0) from rfl) rfl h4) ?_
      refine e_then (s_aldV hT (y := 133) (pc := 64) (q := (yX6_comeTill, cX6_comeTill, 5, none, 6)) rfl (show aTab 133 64 = some (.iaload, 1, 0, 0, 0, 0, 0, 0) from rfl) rfl hM hg 25 i rfl ei (by omega) (v := (g 25 i)) (show (g1 25 i) = (g 25 i) from c25)) ?_
      obtain ⟨m1, sm1, tm1, em1⟩ := s_ast (sc := none) (d := _) (lv := lv) (st := []) (z := (g 25 i)) (i := (Int32.ofNat n)) hT (y := 133) (pc := 65) (q := (yX6_comeTill, cX6_comeTill, 5, none, 6)) rfl (show aTab 133 65 = some (.iastore, 1, 0, 0, 0, 0, 0, 0) from rfl) rfl hM hg 25 n rfl en (by omega)
      refine e_then sm1 ?_
      refine e_then (e_al1 hT (y := 133) (pc := 66) (q := (yX6_comeTill, cX6_comeTill, 5, none, 6)) rfl (show aTab 133 66 = some (.aload_n 0, 1, 0, 0, 0, 0, 0, 0) from rfl) rfl h0) ?_
      refine e_then (e_getR hT (y := 133) (pc := 67) (q := (yX6_comeTill, cX6_comeTill, 5, none, 6)) rfl (show aTab 133 67 = some (.getfield 15, 3, 0, 6, 2, 0, 0, 0) from rfl) rfl (by decide) (by decide) tm1 rfl rfl) ?_
      refine e_then (e_il1 hT (y := 133) (pc := 70) (q := (yX6_comeTill, cX6_comeTill, 5, none, 6)) rfl (show aTab 133 70 = some (.iload_n 3, 1, 0, 0, 0, 0, 0, 0) from rfl) rfl h3) ?_
      refine e_then (e_al1 hT (y := 133) (pc := 71) (q := (yX6_comeTill, cX6_comeTill, 5, none, 6)) rfl (show aTab 133 71 = some (.aload_n 0, 1, 0, 0, 0, 0, 0, 0) from rfl) rfl h0) ?_
      refine e_then (e_getR hT (y := 133) (pc := 72) (q := (yX6_comeTill, cX6_comeTill, 5, none, 6)) rfl (show aTab 133 72 = some (.getfield 15, 3, 0, 6, 2, 0, 0, 0) from rfl) rfl (by decide) (by decide) tm1 rfl rfl) ?_
      refine e_then (e_il2 hT (y := 133) (pc := 75) (q := (yX6_comeTill, cX6_comeTill, 5, none, 6)) rfl (show aTab 133 75 = some (.iload 4, 2, 0, 0, 0, 0, 0, 0) from rfl) rfl h4) ?_
      refine e_then (s_aldV hT (y := 133) (pc := 77) (q := (yX6_comeTill, cX6_comeTill, 5, none, 6)) rfl (show aTab 133 77 = some (.iaload, 1, 0, 0, 0, 0, 0, 0) from rfl) rfl tm1 em1 26 i rfl ei (by omega) (v := (g 26 i)) (show ((up2 g1 25 n (g 25 i)) 26 i) = (g 26 i) from c26)) ?_
      obtain ⟨m2, sm2, tm2, em2⟩ := s_ast (sc := none) (d := _) (lv := lv) (st := []) (z := (g 26 i)) (i := (Int32.ofNat n)) hT (y := 133) (pc := 78) (q := (yX6_comeTill, cX6_comeTill, 5, none, 6)) rfl (show aTab 133 78 = some (.iastore, 1, 0, 0, 0, 0, 0, 0) from rfl) rfl tm1 em1 26 n rfl en (by omega)
      refine e_then sm2 ?_
      refine e_then (e_al1 hT (y := 133) (pc := 79) (q := (yX6_comeTill, cX6_comeTill, 5, none, 6)) rfl (show aTab 133 79 = some (.aload_n 0, 1, 0, 0, 0, 0, 0, 0) from rfl) rfl h0) ?_
      refine e_then (e_getR hT (y := 133) (pc := 80) (q := (yX6_comeTill, cX6_comeTill, 5, none, 6)) rfl (show aTab 133 80 = some (.getfield 18, 3, 0, 6, 3, 0, 0, 0) from rfl) rfl (by decide) (by decide) tm2 rfl rfl) ?_
      refine e_then (e_il1 hT (y := 133) (pc := 83) (q := (yX6_comeTill, cX6_comeTill, 5, none, 6)) rfl (show aTab 133 83 = some (.iload_n 3, 1, 0, 0, 0, 0, 0, 0) from rfl) rfl h3) ?_
      refine e_then (e_al1 hT (y := 133) (pc := 84) (q := (yX6_comeTill, cX6_comeTill, 5, none, 6)) rfl (show aTab 133 84 = some (.aload_n 0, 1, 0, 0, 0, 0, 0, 0) from rfl) rfl h0) ?_
      refine e_then (e_getR hT (y := 133) (pc := 85) (q := (yX6_comeTill, cX6_comeTill, 5, none, 6)) rfl (show aTab 133 85 = some (.getfield 18, 3, 0, 6, 3, 0, 0, 0) from rfl) rfl (by decide) (by decide) tm2 rfl rfl) ?_
      refine e_then (e_il2 hT (y := 133) (pc := 88) (q := (yX6_comeTill, cX6_comeTill, 5, none, 6)) rfl (show aTab 133 88 = some (.iload 4, 2, 0, 0, 0, 0, 0, 0) from rfl) rfl h4) ?_
      refine e_then (s_aldV hT (y := 133) (pc := 90) (q := (yX6_comeTill, cX6_comeTill, 5, none, 6)) rfl (show aTab 133 90 = some (.iaload, 1, 0, 0, 0, 0, 0, 0) from rfl) rfl tm2 em2 27 i rfl ei (by omega) (v := (g 27 i)) (show ((up2 (up2 g1 25 n (g 25 i)) 26 n (g 26 i)) 27 i) = (g 27 i) from c27)) ?_
      obtain ⟨m3, sm3, tm3, em3⟩ := s_ast (sc := none) (d := _) (lv := lv) (st := []) (z := (g 27 i)) (i := (Int32.ofNat n)) hT (y := 133) (pc := 91) (q := (yX6_comeTill, cX6_comeTill, 5, none, 6)) rfl (show aTab 133 91 = some (.iastore, 1, 0, 0, 0, 0, 0, 0) from rfl) rfl tm2 em2 27 n rfl en (by omega)
      refine e_then sm3 ?_
      refine e_then (e_ii hT (y := 133) (pc := 92) (q := (yX6_comeTill, cX6_comeTill, 5, none, 6)) rfl (show aTab 133 92 = some (.iinc 3 1, 3, 0, 0, 0, 0, 0, 0) from rfl) ⟨rfl, by decide⟩ h3) ?_
      refine e_then (e_ii hT (y := 133) (pc := 95) (q := (yX6_comeTill, cX6_comeTill, 5, none, 6)) rfl (show aTab 133 95 = some (.iinc 4 1, 3, 0, 0, 0, 0, 0, 0) from rfl) ⟨rfl, by decide⟩ (mlg_i h4 (by decide))) ?_
      refine e_then (e_st hT (y := 133) (pc := 98) (q := (yX6_comeTill, cX6_comeTill, 5, none, 6)) rfl (show aTab 133 98 = some (.goto (-93), 3, 0, 0, 0, 0, 0, 0) from rfl) (fr' := (133, 5, (mlp 4 (.int ((Int32.ofNat i) + Int32.ofInt 1)) (mlp 3 (.int ((Int32.ofNat n) + Int32.ofInt 1)) lv)), [])) (M' := m3) rfl) ?_
      rw [os1 (by omega), os1 (by omega)]
      refine ih _ m3 (by omega) tm3 ⟨fun c k h18 h25 h26 h27 => ?_, fun j e he => ?_, fun j hj => ?_, fun p => ?_⟩ (mlg_r (mlg_r h0 (by decide)) (by decide)) (mlg_i (mlg_i h1 (by decide)) (by decide)) (mlg_r (mlg_r h2 (by decide)) (by decide)) (mlg_i (mlg_eq 3 _ _) (by decide)) (mlg_eq 4 _ _)
      · rw [em3, up2_c _ _ h27, up2_c _ _ h26, up2_c _ _ h25]
        exact i1 c k h18 h25 h26 h27
      · rw [em3]
        by_cases hj : j = n
        · subst hj
          rw [List.getElem?_append_right (by omega), ← hn, Nat.sub_self] at he
          cases he
          rw [up2_c _ _ (by decide), up2_c _ _ (by decide), up2_eq, up2_c _ _ (by decide), up2_eq, up2_eq]
          exact ⟨rfl, rfl, rfl⟩
        · rw [up2_c _ _ (by decide), up2_c _ _ (by decide), up2_k _ _ hj, up2_c _ _ (by decide), up2_k _ _ hj, up2_c _ _ (by decide), up2_k _ _ hj, up2_c _ _ (by decide), up2_c _ _ (by decide)]
          refine i2 j e ?_
          have hlt : j < (tk.filter (shQ m.toInt)).length := by
            have h1 := (List.getElem?_eq_some_iff.mp he).1
            rw [List.length_append, ← hn] at h1
            have h1 : j < n + 1 := h1
            omega
          rw [List.getElem?_append_left hlt] at he
          exact he
      · rw [em3, up2_c _ _ (by decide), up2_c _ _ (by decide), up2_k _ _ (by omega), up2_c _ _ (by decide), up2_k _ _ (by omega), up2_c _ _ (by decide), up2_k _ _ (by omega), up2_c _ _ (by decide), up2_c _ _ (by decide)]
        exact i3 j (by omega)
      · rw [em3, up2_c _ _ (by decide), up2_c _ _ (by decide), up2_c _ _ (by decide)]
        exact i4 p
theorem xcm_run (hT : aTabOk) {M : mHe} (hM : yTy M) {g : Nat → Nat → Int32} (hg : rdI M = g) {P Z : Nat} (hP : g 11 0 = Int32.ofNat P) (hP2 : P ≤ 40) (hZ : g 24 0 = Int32.ofNat Z) (hZ2 : Z ≤ 30) (hs : ∀ i, i < Z → (0 ≤ (g 25 i).toInt ∧ (g 25 i).toInt < (P : Int)) ∧ (0 ≤ (g 26 i).toInt ∧ (g 26 i).toInt ≤ 6)) {m : Int32} {d : Nat} (hd : 20 ≤ d) : ∃ K M', mRun none K d (133, 0, lv_args 0 [.ref 33, .int m, .ref 20], []) M = some (none, M') ∧ yTy M' ∧ ∃ g1, xcmI g Z m.toInt Z g1 ∧ rdI M' = up2 g1 24 0 (Int32.ofNat ((shL (g 25) (g 26) (g 27) Z).filter (shQ m.toInt)).length) := by
  have go : mEv none 20 (133, 0, lv_args 0 [.ref 33, .int m, .ref 20], []) M (fun r M' => r = none ∧ yTy M' ∧ ∃ g1, xcmI g Z m.toInt Z g1 ∧ rdI M' = up2 g1 24 0 (Int32.ofNat ((shL (g 25) (g 26) (g 27) Z).filter (shQ m.toInt)).length)) := by
    refine e_then (e_st hT (y := 133) (pc := 0) (q := (yX6_comeTill, cX6_comeTill, 5, none, 6)) rfl (show aTab 133 0 = some (.iconst 0, 1, 0, 0, 0, 0, 0, 0) from rfl) (fr' := (133, 1, (lv_args 0 [.ref 33, .int m, .ref 20]), [.int 0])) (M' := M) rfl) ?_
    refine e_then (e_is1 hT (y := 133) (pc := 1) (q := (yX6_comeTill, cX6_comeTill, 5, none, 6)) rfl (show aTab 133 1 = some (.istore_n 3, 1, 0, 0, 0, 0, 0, 0) from rfl) ⟨rfl, by decide⟩) ?_
    refine e_then (e_st hT (y := 133) (pc := 2) (q := (yX6_comeTill, cX6_comeTill, 5, none, 6)) rfl (show aTab 133 2 = some (.iconst 0, 1, 0, 0, 0, 0, 0, 0) from rfl) (fr' := (133, 3, (mlp 3 (.int 0) (lv_args 0 [.ref 33, .int m, .ref 20])), [.int 0])) (M' := M) rfl) ?_
    refine e_then (e_is2 hT (y := 133) (pc := 3) (q := (yX6_comeTill, cX6_comeTill, 5, none, 6)) rfl (show aTab 133 3 = some (.istore 4, 2, 0, 0, 0, 0, 0, 0) from rfl) ⟨rfl, by decide⟩) ?_
    refine xcm_loop hT hP hP2 hZ hZ2 hs Z 0 _ M (by omega) hM ?_ (mlg_r (mlg_r rfl (by decide)) (by decide)) (mlg_i (mlg_i rfl (by decide)) (by decide)) (mlg_r (mlg_r rfl (by decide)) (by decide)) (mlg_i (mlg_eq 3 _ _) (by decide)) (mlg_eq 4 _ _)
    rw [hg]
    exact ⟨fun _ _ _ _ _ _ => rfl, fun j e he => by simp at he, fun _ _ => ⟨rfl, rfl, rfl⟩, fun p => by show g 18 p = g 18 p ||| 0; rw [Int32.or_zero]⟩
  obtain ⟨K, r, M', q, rfl, q2, q3⟩ := go
  exact ⟨K, M', mRun_dm q hd, q2, q3⟩
