/-! HAND: the image taken, and gone back to: what every row is behind it -/
def gkp_X2_become (g : Nat → Nat → Int32) : Nat → Nat → Int32 := (cpy (cpy (cpy (up2 (cpy (cpy (cpy (cpy (cpy (up2 g 55 0 (g 2 0)) 3 56) 4 57) 5 58) 6 59) 7 60) 55 6 (g 2 6)) 8 61) 9 62) 10 63)
theorem kp_X2_become (hT : aTabOk) {M : mHe} (hM : yTy M) {g : Nat → Nat → Int32} (hg : rdI M = g) {d : Nat} (hd : 10 ≤ d) : ∃ M', (∃ K, mRun none K d (39, 0, lv_args 0 [.ref 64, .ref 11], []) M = some (none, M')) ∧ yTy M' ∧ rdI M' = gkp_X2_become g := by
  have go : mEv none 10 (39, 0, lv_args 0 [.ref 64, .ref 11], []) M (fun r M' => r = none ∧ yTy M' ∧ rdI M' = gkp_X2_become g) := by
    refine e_then (e_al1 hT (y := 39) (pc := 0) (q := (yX2_become, cX2_become, 2, none, 2)) rfl (show aTab 39 0 = some (.aload_n 0, 1, 0, 0, 0, 0, 0, 0) from rfl) rfl rfl) ?_
    refine e_then (e_al1 hT (y := 39) (pc := 1) (q := (yX2_become, cX2_become, 2, none, 2)) rfl (show aTab 39 1 = some (.aload_n 1, 1, 0, 0, 0, 0, 0, 0) from rfl) rfl rfl) ?_
    refine e_then (s_getV hT (y := 39) (pc := 2) (q := (yX2_become, cX2_become, 2, none, 2)) rfl (show aTab 39 2 = some (.getfield 36, 3, 0, 2, 0, 0, 0, 0) from rfl) rfl (by decide) hM hg 2 rfl rfl (v := (g 2 0)) rfl) ?_
    have bd5 := (rd_obj hM (c := 2) (k := 0) rfl rfl).2
    have be5 : (g 2 0) = rdI M 2 0 := by rw [hg]
    rw [← be5] at bd5
    obtain ⟨m1, sm1, tm1, em1⟩ := s_putI (sc := none) (d := _) (lv := (lv_args 0 [.ref 64, .ref 11])) (st := []) (z := (g 2 0)) hT (y := 39) (pc := 5) (q := (yX2_become, cX2_become, 2, none, 2)) rfl (show aTab 39 5 = some (.putfield 36, 3, 0, 2, 0, 0, 0, 0) from rfl) rfl rfl ⟨by decide, rfl, rfl⟩ hM hg 55 rfl rfl bd5 (kn := 0) rfl
    refine e_then sm1 ?_
    refine e_then (e_al1 hT (y := 39) (pc := 8) (q := (yX2_become, cX2_become, 2, none, 2)) rfl (show aTab 39 8 = some (.aload_n 1, 1, 0, 0, 0, 0, 0, 0) from rfl) rfl rfl) ?_
    refine e_then (e_getR hT (y := 39) (pc := 9) (q := (yX2_become, cX2_become, 2, none, 2)) rfl (show aTab 39 9 = some (.getfield 9, 3, 0, 2, 1, 0, 0, 0) from rfl) rfl (by decide) (by decide) tm1 rfl rfl) ?_
    refine e_then (e_al1 hT (y := 39) (pc := 12) (q := (yX2_become, cX2_become, 2, none, 2)) rfl (show aTab 39 12 = some (.aload_n 0, 1, 0, 0, 0, 0, 0, 0) from rfl) rfl rfl) ?_
    refine e_then (e_getR hT (y := 39) (pc := 13) (q := (yX2_become, cX2_become, 2, none, 2)) rfl (show aTab 39 13 = some (.getfield 9, 3, 0, 2, 1, 0, 0, 0) from rfl) rfl (by decide) (by decide) tm1 rfl rfl) ?_
    obtain ⟨m2, ⟨Km2, rm2⟩, tm2, em2⟩ := s_copy hT (a := 3) (b := 56) (L := 20) (by decide) rfl rfl (by decide) tm1 em1 (d := 9) (by decide)
    refine e_then (e_callsN hT (y := 39) (pc := 16) (q := (yX2_become, cX2_become, 2, none, 2)) rfl (show aTab 39 16 = some (.invokestatic 40, 3, 3, 237, 0, 2, 4, 11) from rfl) (Nat.le_of_ble_eq_true rfl) (Nat.le_of_ble_eq_true rfl) (Nat.le_of_ble_eq_true rfl) ⟨by decide, by decide⟩ rm2) ?_
    refine e_then (e_al1 hT (y := 39) (pc := 19) (q := (yX2_become, cX2_become, 2, none, 2)) rfl (show aTab 39 19 = some (.aload_n 1, 1, 0, 0, 0, 0, 0, 0) from rfl) rfl rfl) ?_
    refine e_then (e_getR hT (y := 39) (pc := 20) (q := (yX2_become, cX2_become, 2, none, 2)) rfl (show aTab 39 20 = some (.getfield 15, 3, 0, 2, 2, 0, 0, 0) from rfl) rfl (by decide) (by decide) tm2 rfl rfl) ?_
    refine e_then (e_al1 hT (y := 39) (pc := 23) (q := (yX2_become, cX2_become, 2, none, 2)) rfl (show aTab 39 23 = some (.aload_n 0, 1, 0, 0, 0, 0, 0, 0) from rfl) rfl rfl) ?_
    refine e_then (e_getR hT (y := 39) (pc := 24) (q := (yX2_become, cX2_become, 2, none, 2)) rfl (show aTab 39 24 = some (.getfield 15, 3, 0, 2, 2, 0, 0, 0) from rfl) rfl (by decide) (by decide) tm2 rfl rfl) ?_
    obtain ⟨m3, ⟨Km3, rm3⟩, tm3, em3⟩ := s_copy hT (a := 4) (b := 57) (L := 20) (by decide) rfl rfl (by decide) tm2 em2 (d := 9) (by decide)
    refine e_then (e_callsN hT (y := 39) (pc := 27) (q := (yX2_become, cX2_become, 2, none, 2)) rfl (show aTab 39 27 = some (.invokestatic 40, 3, 3, 237, 0, 2, 4, 11) from rfl) (Nat.le_of_ble_eq_true rfl) (Nat.le_of_ble_eq_true rfl) (Nat.le_of_ble_eq_true rfl) ⟨by decide, by decide⟩ rm3) ?_
    refine e_then (e_al1 hT (y := 39) (pc := 30) (q := (yX2_become, cX2_become, 2, none, 2)) rfl (show aTab 39 30 = some (.aload_n 1, 1, 0, 0, 0, 0, 0, 0) from rfl) rfl rfl) ?_
    refine e_then (e_getR hT (y := 39) (pc := 31) (q := (yX2_become, cX2_become, 2, none, 2)) rfl (show aTab 39 31 = some (.getfield 18, 3, 0, 2, 3, 0, 0, 0) from rfl) rfl (by decide) (by decide) tm3 rfl rfl) ?_
    refine e_then (e_al1 hT (y := 39) (pc := 34) (q := (yX2_become, cX2_become, 2, none, 2)) rfl (show aTab 39 34 = some (.aload_n 0, 1, 0, 0, 0, 0, 0, 0) from rfl) rfl rfl) ?_
    refine e_then (e_getR hT (y := 39) (pc := 35) (q := (yX2_become, cX2_become, 2, none, 2)) rfl (show aTab 39 35 = some (.getfield 18, 3, 0, 2, 3, 0, 0, 0) from rfl) rfl (by decide) (by decide) tm3 rfl rfl) ?_
    obtain ⟨m4, ⟨Km4, rm4⟩, tm4, em4⟩ := s_copy hT (a := 5) (b := 58) (L := 20) (by decide) rfl rfl (by decide) tm3 em3 (d := 9) (by decide)
    refine e_then (e_callsN hT (y := 39) (pc := 38) (q := (yX2_become, cX2_become, 2, none, 2)) rfl (show aTab 39 38 = some (.invokestatic 40, 3, 3, 237, 0, 2, 4, 11) from rfl) (Nat.le_of_ble_eq_true rfl) (Nat.le_of_ble_eq_true rfl) (Nat.le_of_ble_eq_true rfl) ⟨by decide, by decide⟩ rm4) ?_
    refine e_then (e_al1 hT (y := 39) (pc := 41) (q := (yX2_become, cX2_become, 2, none, 2)) rfl (show aTab 39 41 = some (.aload_n 1, 1, 0, 0, 0, 0, 0, 0) from rfl) rfl rfl) ?_
    refine e_then (e_getR hT (y := 39) (pc := 42) (q := (yX2_become, cX2_become, 2, none, 2)) rfl (show aTab 39 42 = some (.getfield 21, 3, 0, 2, 4, 0, 0, 0) from rfl) rfl (by decide) (by decide) tm4 rfl rfl) ?_
    refine e_then (e_al1 hT (y := 39) (pc := 45) (q := (yX2_become, cX2_become, 2, none, 2)) rfl (show aTab 39 45 = some (.aload_n 0, 1, 0, 0, 0, 0, 0, 0) from rfl) rfl rfl) ?_
    refine e_then (e_getR hT (y := 39) (pc := 46) (q := (yX2_become, cX2_become, 2, none, 2)) rfl (show aTab 39 46 = some (.getfield 21, 3, 0, 2, 4, 0, 0, 0) from rfl) rfl (by decide) (by decide) tm4 rfl rfl) ?_
    obtain ⟨m5, ⟨Km5, rm5⟩, tm5, em5⟩ := s_copy hT (a := 6) (b := 59) (L := 20) (by decide) rfl rfl (by decide) tm4 em4 (d := 9) (by decide)
    refine e_then (e_callsN hT (y := 39) (pc := 49) (q := (yX2_become, cX2_become, 2, none, 2)) rfl (show aTab 39 49 = some (.invokestatic 40, 3, 3, 237, 0, 2, 4, 11) from rfl) (Nat.le_of_ble_eq_true rfl) (Nat.le_of_ble_eq_true rfl) (Nat.le_of_ble_eq_true rfl) ⟨by decide, by decide⟩ rm5) ?_
    refine e_then (e_al1 hT (y := 39) (pc := 52) (q := (yX2_become, cX2_become, 2, none, 2)) rfl (show aTab 39 52 = some (.aload_n 1, 1, 0, 0, 0, 0, 0, 0) from rfl) rfl rfl) ?_
    refine e_then (e_getR hT (y := 39) (pc := 53) (q := (yX2_become, cX2_become, 2, none, 2)) rfl (show aTab 39 53 = some (.getfield 24, 3, 0, 2, 5, 0, 0, 0) from rfl) rfl (by decide) (by decide) tm5 rfl rfl) ?_
    refine e_then (e_al1 hT (y := 39) (pc := 56) (q := (yX2_become, cX2_become, 2, none, 2)) rfl (show aTab 39 56 = some (.aload_n 0, 1, 0, 0, 0, 0, 0, 0) from rfl) rfl rfl) ?_
    refine e_then (e_getR hT (y := 39) (pc := 57) (q := (yX2_become, cX2_become, 2, none, 2)) rfl (show aTab 39 57 = some (.getfield 24, 3, 0, 2, 5, 0, 0, 0) from rfl) rfl (by decide) (by decide) tm5 rfl rfl) ?_
    obtain ⟨m6, ⟨Km6, rm6⟩, tm6, em6⟩ := s_copy hT (a := 7) (b := 60) (L := 20) (by decide) rfl rfl (by decide) tm5 em5 (d := 9) (by decide)
    refine e_then (e_callsN hT (y := 39) (pc := 60) (q := (yX2_become, cX2_become, 2, none, 2)) rfl (show aTab 39 60 = some (.invokestatic 40, 3, 3, 237, 0, 2, 4, 11) from rfl) (Nat.le_of_ble_eq_true rfl) (Nat.le_of_ble_eq_true rfl) (Nat.le_of_ble_eq_true rfl) ⟨by decide, by decide⟩ rm6) ?_
    refine e_then (e_al1 hT (y := 39) (pc := 63) (q := (yX2_become, cX2_become, 2, none, 2)) rfl (show aTab 39 63 = some (.aload_n 0, 1, 0, 0, 0, 0, 0, 0) from rfl) rfl rfl) ?_
    refine e_then (e_al1 hT (y := 39) (pc := 64) (q := (yX2_become, cX2_become, 2, none, 2)) rfl (show aTab 39 64 = some (.aload_n 1, 1, 0, 0, 0, 0, 0, 0) from rfl) rfl rfl) ?_
    refine e_then (s_getV hT (y := 39) (pc := 65) (q := (yX2_become, cX2_become, 2, none, 2)) rfl (show aTab 39 65 = some (.getfield 44, 3, 0, 2, 6, 0, 0, 0) from rfl) rfl (by decide) tm6 em6 2 rfl rfl (v := (g 2 6)) rfl) ?_
    have bd68 := (rd_obj hM (c := 2) (k := 6) rfl rfl).2
    have be68 : (g 2 6) = rdI M 2 6 := by rw [hg]
    rw [← be68] at bd68
    obtain ⟨m7, sm7, tm7, em7⟩ := s_putI (sc := none) (d := _) (lv := (lv_args 0 [.ref 64, .ref 11])) (st := []) (z := (g 2 6)) hT (y := 39) (pc := 68) (q := (yX2_become, cX2_become, 2, none, 2)) rfl (show aTab 39 68 = some (.putfield 44, 3, 0, 2, 6, 0, 0, 0) from rfl) rfl rfl ⟨by decide, rfl, rfl⟩ tm6 em6 55 rfl rfl bd68 (kn := 6) rfl
    refine e_then sm7 ?_
    refine e_then (e_al1 hT (y := 39) (pc := 71) (q := (yX2_become, cX2_become, 2, none, 2)) rfl (show aTab 39 71 = some (.aload_n 1, 1, 0, 0, 0, 0, 0, 0) from rfl) rfl rfl) ?_
    refine e_then (e_getR hT (y := 39) (pc := 72) (q := (yX2_become, cX2_become, 2, none, 2)) rfl (show aTab 39 72 = some (.getfield 27, 3, 0, 2, 7, 0, 0, 0) from rfl) rfl (by decide) (by decide) tm7 rfl rfl) ?_
    refine e_then (e_al1 hT (y := 39) (pc := 75) (q := (yX2_become, cX2_become, 2, none, 2)) rfl (show aTab 39 75 = some (.aload_n 0, 1, 0, 0, 0, 0, 0, 0) from rfl) rfl rfl) ?_
    refine e_then (e_getR hT (y := 39) (pc := 76) (q := (yX2_become, cX2_become, 2, none, 2)) rfl (show aTab 39 76 = some (.getfield 27, 3, 0, 2, 7, 0, 0, 0) from rfl) rfl (by decide) (by decide) tm7 rfl rfl) ?_
    obtain ⟨m8, ⟨Km8, rm8⟩, tm8, em8⟩ := s_copy hT (a := 8) (b := 61) (L := 10) (by decide) rfl rfl (by decide) tm7 em7 (d := 9) (by decide)
    refine e_then (e_callsN hT (y := 39) (pc := 79) (q := (yX2_become, cX2_become, 2, none, 2)) rfl (show aTab 39 79 = some (.invokestatic 40, 3, 3, 237, 0, 2, 4, 11) from rfl) (Nat.le_of_ble_eq_true rfl) (Nat.le_of_ble_eq_true rfl) (Nat.le_of_ble_eq_true rfl) ⟨by decide, by decide⟩ rm8) ?_
    refine e_then (e_al1 hT (y := 39) (pc := 82) (q := (yX2_become, cX2_become, 2, none, 2)) rfl (show aTab 39 82 = some (.aload_n 1, 1, 0, 0, 0, 0, 0, 0) from rfl) rfl rfl) ?_
    refine e_then (e_getR hT (y := 39) (pc := 83) (q := (yX2_become, cX2_become, 2, none, 2)) rfl (show aTab 39 83 = some (.getfield 30, 3, 0, 2, 8, 0, 0, 0) from rfl) rfl (by decide) (by decide) tm8 rfl rfl) ?_
    refine e_then (e_al1 hT (y := 39) (pc := 86) (q := (yX2_become, cX2_become, 2, none, 2)) rfl (show aTab 39 86 = some (.aload_n 0, 1, 0, 0, 0, 0, 0, 0) from rfl) rfl rfl) ?_
    refine e_then (e_getR hT (y := 39) (pc := 87) (q := (yX2_become, cX2_become, 2, none, 2)) rfl (show aTab 39 87 = some (.getfield 30, 3, 0, 2, 8, 0, 0, 0) from rfl) rfl (by decide) (by decide) tm8 rfl rfl) ?_
    obtain ⟨m9, ⟨Km9, rm9⟩, tm9, em9⟩ := s_copy hT (a := 9) (b := 62) (L := 10) (by decide) rfl rfl (by decide) tm8 em8 (d := 9) (by decide)
    refine e_then (e_callsN hT (y := 39) (pc := 90) (q := (yX2_become, cX2_become, 2, none, 2)) rfl (show aTab 39 90 = some (.invokestatic 40, 3, 3, 237, 0, 2, 4, 11) from rfl) (Nat.le_of_ble_eq_true rfl) (Nat.le_of_ble_eq_true rfl) (Nat.le_of_ble_eq_true rfl) ⟨by decide, by decide⟩ rm9) ?_
    refine e_then (e_al1 hT (y := 39) (pc := 93) (q := (yX2_become, cX2_become, 2, none, 2)) rfl (show aTab 39 93 = some (.aload_n 1, 1, 0, 0, 0, 0, 0, 0) from rfl) rfl rfl) ?_
    refine e_then (e_getR hT (y := 39) (pc := 94) (q := (yX2_become, cX2_become, 2, none, 2)) rfl (show aTab 39 94 = some (.getfield 33, 3, 0, 2, 9, 0, 0, 0) from rfl) rfl (by decide) (by decide) tm9 rfl rfl) ?_
    refine e_then (e_al1 hT (y := 39) (pc := 97) (q := (yX2_become, cX2_become, 2, none, 2)) rfl (show aTab 39 97 = some (.aload_n 0, 1, 0, 0, 0, 0, 0, 0) from rfl) rfl rfl) ?_
    refine e_then (e_getR hT (y := 39) (pc := 98) (q := (yX2_become, cX2_become, 2, none, 2)) rfl (show aTab 39 98 = some (.getfield 33, 3, 0, 2, 9, 0, 0, 0) from rfl) rfl (by decide) (by decide) tm9 rfl rfl) ?_
    obtain ⟨m10, ⟨Km10, rm10⟩, tm10, em10⟩ := s_copy hT (a := 10) (b := 63) (L := 10) (by decide) rfl rfl (by decide) tm9 em9 (d := 9) (by decide)
    refine e_then (e_callsN hT (y := 39) (pc := 101) (q := (yX2_become, cX2_become, 2, none, 2)) rfl (show aTab 39 101 = some (.invokestatic 40, 3, 3, 237, 0, 2, 4, 11) from rfl) (Nat.le_of_ble_eq_true rfl) (Nat.le_of_ble_eq_true rfl) (Nat.le_of_ble_eq_true rfl) ⟨by decide, by decide⟩ rm10) ?_
    exact e_fin (e_vret hT (y := 39) (pc := 104) (q := (yX2_become, cX2_become, 2, none, 2)) rfl (show aTab 39 104 = some (.return_, 1, 0, 0, 0, 0, 0, 0) from rfl) ⟨rfl, rfl⟩) ⟨rfl, tm10, em10⟩
  obtain ⟨K, r, M', q1, rfl, q2, q3⟩ := go
  exact ⟨M', ⟨K, mRun_dm q1 hd⟩, q2, q3⟩
def gkp_X4_become (g : Nat → Nat → Int32) : Nat → Nat → Int32 := (cpy (cpy (cpy (cpy (cpy (cpy (cpy (cpy (cpy (cpy (cpy (up2 g 64 0 (g 11 0)) 12 65) 13 66) 14 67) 15 68) 16 69) 17 70) 18 71) 19 72) 20 73) 21 74) 22 75)
theorem kp_X4_become (hT : aTabOk) {M : mHe} (hM : yTy M) {g : Nat → Nat → Int32} (hg : rdI M = g) {d : Nat} (hd : 10 ≤ d) : ∃ M', (∃ K, mRun none K d (69, 0, lv_args 0 [.ref 73, .ref 20], []) M = some (none, M')) ∧ yTy M' ∧ rdI M' = gkp_X4_become g := by
  have go : mEv none 10 (69, 0, lv_args 0 [.ref 73, .ref 20], []) M (fun r M' => r = none ∧ yTy M' ∧ rdI M' = gkp_X4_become g) := by
    refine e_then (e_al1 hT (y := 69) (pc := 0) (q := (yX4_become, cX4_become, 2, none, 4)) rfl (show aTab 69 0 = some (.aload_n 0, 1, 0, 0, 0, 0, 0, 0) from rfl) rfl rfl) ?_
    refine e_then (e_al1 hT (y := 69) (pc := 1) (q := (yX4_become, cX4_become, 2, none, 4)) rfl (show aTab 69 1 = some (.aload_n 1, 1, 0, 0, 0, 0, 0, 0) from rfl) rfl rfl) ?_
    refine e_then (s_getV hT (y := 69) (pc := 2) (q := (yX4_become, cX4_become, 2, none, 4)) rfl (show aTab 69 2 = some (.getfield 48, 3, 0, 4, 0, 0, 0, 0) from rfl) rfl (by decide) hM hg 11 rfl rfl (v := (g 11 0)) rfl) ?_
    have bd5 := (rd_obj hM (c := 11) (k := 0) rfl rfl).2
    have be5 : (g 11 0) = rdI M 11 0 := by rw [hg]
    rw [← be5] at bd5
    obtain ⟨m1, sm1, tm1, em1⟩ := s_putI (sc := none) (d := _) (lv := (lv_args 0 [.ref 73, .ref 20])) (st := []) (z := (g 11 0)) hT (y := 69) (pc := 5) (q := (yX4_become, cX4_become, 2, none, 4)) rfl (show aTab 69 5 = some (.putfield 48, 3, 0, 4, 0, 0, 0, 0) from rfl) rfl rfl ⟨by decide, rfl, rfl⟩ hM hg 64 rfl rfl bd5 (kn := 0) rfl
    refine e_then sm1 ?_
    refine e_then (e_al1 hT (y := 69) (pc := 8) (q := (yX4_become, cX4_become, 2, none, 4)) rfl (show aTab 69 8 = some (.aload_n 1, 1, 0, 0, 0, 0, 0, 0) from rfl) rfl rfl) ?_
    refine e_then (e_getR hT (y := 69) (pc := 9) (q := (yX4_become, cX4_become, 2, none, 4)) rfl (show aTab 69 9 = some (.getfield 9, 3, 0, 4, 1, 0, 0, 0) from rfl) rfl (by decide) (by decide) tm1 rfl rfl) ?_
    refine e_then (e_al1 hT (y := 69) (pc := 12) (q := (yX4_become, cX4_become, 2, none, 4)) rfl (show aTab 69 12 = some (.aload_n 0, 1, 0, 0, 0, 0, 0, 0) from rfl) rfl rfl) ?_
    refine e_then (e_getR hT (y := 69) (pc := 13) (q := (yX4_become, cX4_become, 2, none, 4)) rfl (show aTab 69 13 = some (.getfield 9, 3, 0, 4, 1, 0, 0, 0) from rfl) rfl (by decide) (by decide) tm1 rfl rfl) ?_
    obtain ⟨m2, ⟨Km2, rm2⟩, tm2, em2⟩ := s_copy hT (a := 12) (b := 65) (L := 40) (by decide) rfl rfl (by decide) tm1 em1 (d := 9) (by decide)
    refine e_then (e_callsN hT (y := 69) (pc := 16) (q := (yX4_become, cX4_become, 2, none, 4)) rfl (show aTab 69 16 = some (.invokestatic 52, 3, 3, 237, 0, 2, 4, 11) from rfl) (Nat.le_of_ble_eq_true rfl) (Nat.le_of_ble_eq_true rfl) (Nat.le_of_ble_eq_true rfl) ⟨by decide, by decide⟩ rm2) ?_
    refine e_then (e_al1 hT (y := 69) (pc := 19) (q := (yX4_become, cX4_become, 2, none, 4)) rfl (show aTab 69 19 = some (.aload_n 1, 1, 0, 0, 0, 0, 0, 0) from rfl) rfl rfl) ?_
    refine e_then (e_getR hT (y := 69) (pc := 20) (q := (yX4_become, cX4_become, 2, none, 4)) rfl (show aTab 69 20 = some (.getfield 15, 3, 0, 4, 2, 0, 0, 0) from rfl) rfl (by decide) (by decide) tm2 rfl rfl) ?_
    refine e_then (e_al1 hT (y := 69) (pc := 23) (q := (yX4_become, cX4_become, 2, none, 4)) rfl (show aTab 69 23 = some (.aload_n 0, 1, 0, 0, 0, 0, 0, 0) from rfl) rfl rfl) ?_
    refine e_then (e_getR hT (y := 69) (pc := 24) (q := (yX4_become, cX4_become, 2, none, 4)) rfl (show aTab 69 24 = some (.getfield 15, 3, 0, 4, 2, 0, 0, 0) from rfl) rfl (by decide) (by decide) tm2 rfl rfl) ?_
    obtain ⟨m3, ⟨Km3, rm3⟩, tm3, em3⟩ := s_copy hT (a := 13) (b := 66) (L := 40) (by decide) rfl rfl (by decide) tm2 em2 (d := 9) (by decide)
    refine e_then (e_callsN hT (y := 69) (pc := 27) (q := (yX4_become, cX4_become, 2, none, 4)) rfl (show aTab 69 27 = some (.invokestatic 52, 3, 3, 237, 0, 2, 4, 11) from rfl) (Nat.le_of_ble_eq_true rfl) (Nat.le_of_ble_eq_true rfl) (Nat.le_of_ble_eq_true rfl) ⟨by decide, by decide⟩ rm3) ?_
    refine e_then (e_al1 hT (y := 69) (pc := 30) (q := (yX4_become, cX4_become, 2, none, 4)) rfl (show aTab 69 30 = some (.aload_n 1, 1, 0, 0, 0, 0, 0, 0) from rfl) rfl rfl) ?_
    refine e_then (e_getR hT (y := 69) (pc := 31) (q := (yX4_become, cX4_become, 2, none, 4)) rfl (show aTab 69 31 = some (.getfield 18, 3, 0, 4, 3, 0, 0, 0) from rfl) rfl (by decide) (by decide) tm3 rfl rfl) ?_
    refine e_then (e_al1 hT (y := 69) (pc := 34) (q := (yX4_become, cX4_become, 2, none, 4)) rfl (show aTab 69 34 = some (.aload_n 0, 1, 0, 0, 0, 0, 0, 0) from rfl) rfl rfl) ?_
    refine e_then (e_getR hT (y := 69) (pc := 35) (q := (yX4_become, cX4_become, 2, none, 4)) rfl (show aTab 69 35 = some (.getfield 18, 3, 0, 4, 3, 0, 0, 0) from rfl) rfl (by decide) (by decide) tm3 rfl rfl) ?_
    obtain ⟨m4, ⟨Km4, rm4⟩, tm4, em4⟩ := s_copy hT (a := 14) (b := 67) (L := 40) (by decide) rfl rfl (by decide) tm3 em3 (d := 9) (by decide)
    refine e_then (e_callsN hT (y := 69) (pc := 38) (q := (yX4_become, cX4_become, 2, none, 4)) rfl (show aTab 69 38 = some (.invokestatic 52, 3, 3, 237, 0, 2, 4, 11) from rfl) (Nat.le_of_ble_eq_true rfl) (Nat.le_of_ble_eq_true rfl) (Nat.le_of_ble_eq_true rfl) ⟨by decide, by decide⟩ rm4) ?_
    refine e_then (e_al1 hT (y := 69) (pc := 41) (q := (yX4_become, cX4_become, 2, none, 4)) rfl (show aTab 69 41 = some (.aload_n 1, 1, 0, 0, 0, 0, 0, 0) from rfl) rfl rfl) ?_
    refine e_then (e_getR hT (y := 69) (pc := 42) (q := (yX4_become, cX4_become, 2, none, 4)) rfl (show aTab 69 42 = some (.getfield 21, 3, 0, 4, 4, 0, 0, 0) from rfl) rfl (by decide) (by decide) tm4 rfl rfl) ?_
    refine e_then (e_al1 hT (y := 69) (pc := 45) (q := (yX4_become, cX4_become, 2, none, 4)) rfl (show aTab 69 45 = some (.aload_n 0, 1, 0, 0, 0, 0, 0, 0) from rfl) rfl rfl) ?_
    refine e_then (e_getR hT (y := 69) (pc := 46) (q := (yX4_become, cX4_become, 2, none, 4)) rfl (show aTab 69 46 = some (.getfield 21, 3, 0, 4, 4, 0, 0, 0) from rfl) rfl (by decide) (by decide) tm4 rfl rfl) ?_
    obtain ⟨m5, ⟨Km5, rm5⟩, tm5, em5⟩ := s_copy hT (a := 15) (b := 68) (L := 40) (by decide) rfl rfl (by decide) tm4 em4 (d := 9) (by decide)
    refine e_then (e_callsN hT (y := 69) (pc := 49) (q := (yX4_become, cX4_become, 2, none, 4)) rfl (show aTab 69 49 = some (.invokestatic 52, 3, 3, 237, 0, 2, 4, 11) from rfl) (Nat.le_of_ble_eq_true rfl) (Nat.le_of_ble_eq_true rfl) (Nat.le_of_ble_eq_true rfl) ⟨by decide, by decide⟩ rm5) ?_
    refine e_then (e_al1 hT (y := 69) (pc := 52) (q := (yX4_become, cX4_become, 2, none, 4)) rfl (show aTab 69 52 = some (.aload_n 1, 1, 0, 0, 0, 0, 0, 0) from rfl) rfl rfl) ?_
    refine e_then (e_getR hT (y := 69) (pc := 53) (q := (yX4_become, cX4_become, 2, none, 4)) rfl (show aTab 69 53 = some (.getfield 24, 3, 0, 4, 5, 0, 0, 0) from rfl) rfl (by decide) (by decide) tm5 rfl rfl) ?_
    refine e_then (e_al1 hT (y := 69) (pc := 56) (q := (yX4_become, cX4_become, 2, none, 4)) rfl (show aTab 69 56 = some (.aload_n 0, 1, 0, 0, 0, 0, 0, 0) from rfl) rfl rfl) ?_
    refine e_then (e_getR hT (y := 69) (pc := 57) (q := (yX4_become, cX4_become, 2, none, 4)) rfl (show aTab 69 57 = some (.getfield 24, 3, 0, 4, 5, 0, 0, 0) from rfl) rfl (by decide) (by decide) tm5 rfl rfl) ?_
    obtain ⟨m6, ⟨Km6, rm6⟩, tm6, em6⟩ := s_copy hT (a := 16) (b := 69) (L := 40) (by decide) rfl rfl (by decide) tm5 em5 (d := 9) (by decide)
    refine e_then (e_callsN hT (y := 69) (pc := 60) (q := (yX4_become, cX4_become, 2, none, 4)) rfl (show aTab 69 60 = some (.invokestatic 52, 3, 3, 237, 0, 2, 4, 11) from rfl) (Nat.le_of_ble_eq_true rfl) (Nat.le_of_ble_eq_true rfl) (Nat.le_of_ble_eq_true rfl) ⟨by decide, by decide⟩ rm6) ?_
    refine e_then (e_al1 hT (y := 69) (pc := 63) (q := (yX4_become, cX4_become, 2, none, 4)) rfl (show aTab 69 63 = some (.aload_n 1, 1, 0, 0, 0, 0, 0, 0) from rfl) rfl rfl) ?_
    refine e_then (e_getR hT (y := 69) (pc := 64) (q := (yX4_become, cX4_become, 2, none, 4)) rfl (show aTab 69 64 = some (.getfield 27, 3, 0, 4, 6, 0, 0, 0) from rfl) rfl (by decide) (by decide) tm6 rfl rfl) ?_
    refine e_then (e_al1 hT (y := 69) (pc := 67) (q := (yX4_become, cX4_become, 2, none, 4)) rfl (show aTab 69 67 = some (.aload_n 0, 1, 0, 0, 0, 0, 0, 0) from rfl) rfl rfl) ?_
    refine e_then (e_getR hT (y := 69) (pc := 68) (q := (yX4_become, cX4_become, 2, none, 4)) rfl (show aTab 69 68 = some (.getfield 27, 3, 0, 4, 6, 0, 0, 0) from rfl) rfl (by decide) (by decide) tm6 rfl rfl) ?_
    obtain ⟨m7, ⟨Km7, rm7⟩, tm7, em7⟩ := s_copy hT (a := 17) (b := 70) (L := 40) (by decide) rfl rfl (by decide) tm6 em6 (d := 9) (by decide)
    refine e_then (e_callsN hT (y := 69) (pc := 71) (q := (yX4_become, cX4_become, 2, none, 4)) rfl (show aTab 69 71 = some (.invokestatic 52, 3, 3, 237, 0, 2, 4, 11) from rfl) (Nat.le_of_ble_eq_true rfl) (Nat.le_of_ble_eq_true rfl) (Nat.le_of_ble_eq_true rfl) ⟨by decide, by decide⟩ rm7) ?_
    refine e_then (e_al1 hT (y := 69) (pc := 74) (q := (yX4_become, cX4_become, 2, none, 4)) rfl (show aTab 69 74 = some (.aload_n 1, 1, 0, 0, 0, 0, 0, 0) from rfl) rfl rfl) ?_
    refine e_then (e_getR hT (y := 69) (pc := 75) (q := (yX4_become, cX4_become, 2, none, 4)) rfl (show aTab 69 75 = some (.getfield 30, 3, 0, 4, 7, 0, 0, 0) from rfl) rfl (by decide) (by decide) tm7 rfl rfl) ?_
    refine e_then (e_al1 hT (y := 69) (pc := 78) (q := (yX4_become, cX4_become, 2, none, 4)) rfl (show aTab 69 78 = some (.aload_n 0, 1, 0, 0, 0, 0, 0, 0) from rfl) rfl rfl) ?_
    refine e_then (e_getR hT (y := 69) (pc := 79) (q := (yX4_become, cX4_become, 2, none, 4)) rfl (show aTab 69 79 = some (.getfield 30, 3, 0, 4, 7, 0, 0, 0) from rfl) rfl (by decide) (by decide) tm7 rfl rfl) ?_
    obtain ⟨m8, ⟨Km8, rm8⟩, tm8, em8⟩ := s_copy hT (a := 18) (b := 71) (L := 40) (by decide) rfl rfl (by decide) tm7 em7 (d := 9) (by decide)
    refine e_then (e_callsN hT (y := 69) (pc := 82) (q := (yX4_become, cX4_become, 2, none, 4)) rfl (show aTab 69 82 = some (.invokestatic 52, 3, 3, 237, 0, 2, 4, 11) from rfl) (Nat.le_of_ble_eq_true rfl) (Nat.le_of_ble_eq_true rfl) (Nat.le_of_ble_eq_true rfl) ⟨by decide, by decide⟩ rm8) ?_
    refine e_then (e_al1 hT (y := 69) (pc := 85) (q := (yX4_become, cX4_become, 2, none, 4)) rfl (show aTab 69 85 = some (.aload_n 1, 1, 0, 0, 0, 0, 0, 0) from rfl) rfl rfl) ?_
    refine e_then (e_getR hT (y := 69) (pc := 86) (q := (yX4_become, cX4_become, 2, none, 4)) rfl (show aTab 69 86 = some (.getfield 33, 3, 0, 4, 8, 0, 0, 0) from rfl) rfl (by decide) (by decide) tm8 rfl rfl) ?_
    refine e_then (e_al1 hT (y := 69) (pc := 89) (q := (yX4_become, cX4_become, 2, none, 4)) rfl (show aTab 69 89 = some (.aload_n 0, 1, 0, 0, 0, 0, 0, 0) from rfl) rfl rfl) ?_
    refine e_then (e_getR hT (y := 69) (pc := 90) (q := (yX4_become, cX4_become, 2, none, 4)) rfl (show aTab 69 90 = some (.getfield 33, 3, 0, 4, 8, 0, 0, 0) from rfl) rfl (by decide) (by decide) tm8 rfl rfl) ?_
    obtain ⟨m9, ⟨Km9, rm9⟩, tm9, em9⟩ := s_copy hT (a := 19) (b := 72) (L := 40) (by decide) rfl rfl (by decide) tm8 em8 (d := 9) (by decide)
    refine e_then (e_callsN hT (y := 69) (pc := 93) (q := (yX4_become, cX4_become, 2, none, 4)) rfl (show aTab 69 93 = some (.invokestatic 52, 3, 3, 237, 0, 2, 4, 11) from rfl) (Nat.le_of_ble_eq_true rfl) (Nat.le_of_ble_eq_true rfl) (Nat.le_of_ble_eq_true rfl) ⟨by decide, by decide⟩ rm9) ?_
    refine e_then (e_al1 hT (y := 69) (pc := 96) (q := (yX4_become, cX4_become, 2, none, 4)) rfl (show aTab 69 96 = some (.aload_n 1, 1, 0, 0, 0, 0, 0, 0) from rfl) rfl rfl) ?_
    refine e_then (e_getR hT (y := 69) (pc := 97) (q := (yX4_become, cX4_become, 2, none, 4)) rfl (show aTab 69 97 = some (.getfield 36, 3, 0, 4, 9, 0, 0, 0) from rfl) rfl (by decide) (by decide) tm9 rfl rfl) ?_
    refine e_then (e_al1 hT (y := 69) (pc := 100) (q := (yX4_become, cX4_become, 2, none, 4)) rfl (show aTab 69 100 = some (.aload_n 0, 1, 0, 0, 0, 0, 0, 0) from rfl) rfl rfl) ?_
    refine e_then (e_getR hT (y := 69) (pc := 101) (q := (yX4_become, cX4_become, 2, none, 4)) rfl (show aTab 69 101 = some (.getfield 36, 3, 0, 4, 9, 0, 0, 0) from rfl) rfl (by decide) (by decide) tm9 rfl rfl) ?_
    obtain ⟨m10, ⟨Km10, rm10⟩, tm10, em10⟩ := s_copy hT (a := 20) (b := 73) (L := 40) (by decide) rfl rfl (by decide) tm9 em9 (d := 9) (by decide)
    refine e_then (e_callsN hT (y := 69) (pc := 104) (q := (yX4_become, cX4_become, 2, none, 4)) rfl (show aTab 69 104 = some (.invokestatic 52, 3, 3, 237, 0, 2, 4, 11) from rfl) (Nat.le_of_ble_eq_true rfl) (Nat.le_of_ble_eq_true rfl) (Nat.le_of_ble_eq_true rfl) ⟨by decide, by decide⟩ rm10) ?_
    refine e_then (e_al1 hT (y := 69) (pc := 107) (q := (yX4_become, cX4_become, 2, none, 4)) rfl (show aTab 69 107 = some (.aload_n 1, 1, 0, 0, 0, 0, 0, 0) from rfl) rfl rfl) ?_
    refine e_then (e_getR hT (y := 69) (pc := 108) (q := (yX4_become, cX4_become, 2, none, 4)) rfl (show aTab 69 108 = some (.getfield 39, 3, 0, 4, 10, 0, 0, 0) from rfl) rfl (by decide) (by decide) tm10 rfl rfl) ?_
    refine e_then (e_al1 hT (y := 69) (pc := 111) (q := (yX4_become, cX4_become, 2, none, 4)) rfl (show aTab 69 111 = some (.aload_n 0, 1, 0, 0, 0, 0, 0, 0) from rfl) rfl rfl) ?_
    refine e_then (e_getR hT (y := 69) (pc := 112) (q := (yX4_become, cX4_become, 2, none, 4)) rfl (show aTab 69 112 = some (.getfield 39, 3, 0, 4, 10, 0, 0, 0) from rfl) rfl (by decide) (by decide) tm10 rfl rfl) ?_
    obtain ⟨m11, ⟨Km11, rm11⟩, tm11, em11⟩ := s_copy hT (a := 21) (b := 74) (L := 40) (by decide) rfl rfl (by decide) tm10 em10 (d := 9) (by decide)
    refine e_then (e_callsN hT (y := 69) (pc := 115) (q := (yX4_become, cX4_become, 2, none, 4)) rfl (show aTab 69 115 = some (.invokestatic 52, 3, 3, 237, 0, 2, 4, 11) from rfl) (Nat.le_of_ble_eq_true rfl) (Nat.le_of_ble_eq_true rfl) (Nat.le_of_ble_eq_true rfl) ⟨by decide, by decide⟩ rm11) ?_
    refine e_then (e_al1 hT (y := 69) (pc := 118) (q := (yX4_become, cX4_become, 2, none, 4)) rfl (show aTab 69 118 = some (.aload_n 1, 1, 0, 0, 0, 0, 0, 0) from rfl) rfl rfl) ?_
    refine e_then (e_getR hT (y := 69) (pc := 119) (q := (yX4_become, cX4_become, 2, none, 4)) rfl (show aTab 69 119 = some (.getfield 42, 3, 0, 4, 11, 0, 0, 0) from rfl) rfl (by decide) (by decide) tm11 rfl rfl) ?_
    refine e_then (e_al1 hT (y := 69) (pc := 122) (q := (yX4_become, cX4_become, 2, none, 4)) rfl (show aTab 69 122 = some (.aload_n 0, 1, 0, 0, 0, 0, 0, 0) from rfl) rfl rfl) ?_
    refine e_then (e_getR hT (y := 69) (pc := 123) (q := (yX4_become, cX4_become, 2, none, 4)) rfl (show aTab 69 123 = some (.getfield 42, 3, 0, 4, 11, 0, 0, 0) from rfl) rfl (by decide) (by decide) tm11 rfl rfl) ?_
    obtain ⟨m12, ⟨Km12, rm12⟩, tm12, em12⟩ := s_copy hT (a := 22) (b := 75) (L := 360) (by decide) rfl rfl (by decide) tm11 em11 (d := 9) (by decide)
    refine e_then (e_callsN hT (y := 69) (pc := 126) (q := (yX4_become, cX4_become, 2, none, 4)) rfl (show aTab 69 126 = some (.invokestatic 52, 3, 3, 237, 0, 2, 4, 11) from rfl) (Nat.le_of_ble_eq_true rfl) (Nat.le_of_ble_eq_true rfl) (Nat.le_of_ble_eq_true rfl) ⟨by decide, by decide⟩ rm12) ?_
    exact e_fin (e_vret hT (y := 69) (pc := 129) (q := (yX4_become, cX4_become, 2, none, 4)) rfl (show aTab 69 129 = some (.return_, 1, 0, 0, 0, 0, 0, 0) from rfl) ⟨rfl, rfl⟩) ⟨rfl, tm12, em12⟩
  obtain ⟨K, r, M', q1, rfl, q2, q3⟩ := go
  exact ⟨M', ⟨K, mRun_dm q1 hd⟩, q2, q3⟩
def gkp_X6_become (g : Nat → Nat → Int32) : Nat → Nat → Int32 := (cpy (cpy (cpy (up2 g 77 0 (g 24 0)) 25 78) 26 79) 27 80)
theorem kp_X6_become (hT : aTabOk) {M : mHe} (hM : yTy M) {g : Nat → Nat → Int32} (hg : rdI M = g) {d : Nat} (hd : 10 ≤ d) : ∃ M', (∃ K, mRun none K d (131, 0, lv_args 0 [.ref 86, .ref 33], []) M = some (none, M')) ∧ yTy M' ∧ rdI M' = gkp_X6_become g := by
  have go : mEv none 10 (131, 0, lv_args 0 [.ref 86, .ref 33], []) M (fun r M' => r = none ∧ yTy M' ∧ rdI M' = gkp_X6_become g) := by
    refine e_then (e_al1 hT (y := 131) (pc := 0) (q := (yX6_become, cX6_become, 2, none, 6)) rfl (show aTab 131 0 = some (.aload_n 0, 1, 0, 0, 0, 0, 0, 0) from rfl) rfl rfl) ?_
    refine e_then (e_al1 hT (y := 131) (pc := 1) (q := (yX6_become, cX6_become, 2, none, 6)) rfl (show aTab 131 1 = some (.aload_n 1, 1, 0, 0, 0, 0, 0, 0) from rfl) rfl rfl) ?_
    refine e_then (s_getV hT (y := 131) (pc := 2) (q := (yX6_become, cX6_become, 2, none, 6)) rfl (show aTab 131 2 = some (.getfield 21, 3, 0, 6, 0, 0, 0, 0) from rfl) rfl (by decide) hM hg 24 rfl rfl (v := (g 24 0)) rfl) ?_
    have bd5 := (rd_obj hM (c := 24) (k := 0) rfl rfl).2
    have be5 : (g 24 0) = rdI M 24 0 := by rw [hg]
    rw [← be5] at bd5
    obtain ⟨m1, sm1, tm1, em1⟩ := s_putI (sc := none) (d := _) (lv := (lv_args 0 [.ref 86, .ref 33])) (st := []) (z := (g 24 0)) hT (y := 131) (pc := 5) (q := (yX6_become, cX6_become, 2, none, 6)) rfl (show aTab 131 5 = some (.putfield 21, 3, 0, 6, 0, 0, 0, 0) from rfl) rfl rfl ⟨by decide, rfl, rfl⟩ hM hg 77 rfl rfl bd5 (kn := 0) rfl
    refine e_then sm1 ?_
    refine e_then (e_al1 hT (y := 131) (pc := 8) (q := (yX6_become, cX6_become, 2, none, 6)) rfl (show aTab 131 8 = some (.aload_n 1, 1, 0, 0, 0, 0, 0, 0) from rfl) rfl rfl) ?_
    refine e_then (e_getR hT (y := 131) (pc := 9) (q := (yX6_become, cX6_become, 2, none, 6)) rfl (show aTab 131 9 = some (.getfield 9, 3, 0, 6, 1, 0, 0, 0) from rfl) rfl (by decide) (by decide) tm1 rfl rfl) ?_
    refine e_then (e_al1 hT (y := 131) (pc := 12) (q := (yX6_become, cX6_become, 2, none, 6)) rfl (show aTab 131 12 = some (.aload_n 0, 1, 0, 0, 0, 0, 0, 0) from rfl) rfl rfl) ?_
    refine e_then (e_getR hT (y := 131) (pc := 13) (q := (yX6_become, cX6_become, 2, none, 6)) rfl (show aTab 131 13 = some (.getfield 9, 3, 0, 6, 1, 0, 0, 0) from rfl) rfl (by decide) (by decide) tm1 rfl rfl) ?_
    obtain ⟨m2, ⟨Km2, rm2⟩, tm2, em2⟩ := s_copy hT (a := 25) (b := 78) (L := 30) (by decide) rfl rfl (by decide) tm1 em1 (d := 9) (by decide)
    refine e_then (e_callsN hT (y := 131) (pc := 16) (q := (yX6_become, cX6_become, 2, none, 6)) rfl (show aTab 131 16 = some (.invokestatic 25, 3, 3, 237, 0, 2, 4, 11) from rfl) (Nat.le_of_ble_eq_true rfl) (Nat.le_of_ble_eq_true rfl) (Nat.le_of_ble_eq_true rfl) ⟨by decide, by decide⟩ rm2) ?_
    refine e_then (e_al1 hT (y := 131) (pc := 19) (q := (yX6_become, cX6_become, 2, none, 6)) rfl (show aTab 131 19 = some (.aload_n 1, 1, 0, 0, 0, 0, 0, 0) from rfl) rfl rfl) ?_
    refine e_then (e_getR hT (y := 131) (pc := 20) (q := (yX6_become, cX6_become, 2, none, 6)) rfl (show aTab 131 20 = some (.getfield 15, 3, 0, 6, 2, 0, 0, 0) from rfl) rfl (by decide) (by decide) tm2 rfl rfl) ?_
    refine e_then (e_al1 hT (y := 131) (pc := 23) (q := (yX6_become, cX6_become, 2, none, 6)) rfl (show aTab 131 23 = some (.aload_n 0, 1, 0, 0, 0, 0, 0, 0) from rfl) rfl rfl) ?_
    refine e_then (e_getR hT (y := 131) (pc := 24) (q := (yX6_become, cX6_become, 2, none, 6)) rfl (show aTab 131 24 = some (.getfield 15, 3, 0, 6, 2, 0, 0, 0) from rfl) rfl (by decide) (by decide) tm2 rfl rfl) ?_
    obtain ⟨m3, ⟨Km3, rm3⟩, tm3, em3⟩ := s_copy hT (a := 26) (b := 79) (L := 30) (by decide) rfl rfl (by decide) tm2 em2 (d := 9) (by decide)
    refine e_then (e_callsN hT (y := 131) (pc := 27) (q := (yX6_become, cX6_become, 2, none, 6)) rfl (show aTab 131 27 = some (.invokestatic 25, 3, 3, 237, 0, 2, 4, 11) from rfl) (Nat.le_of_ble_eq_true rfl) (Nat.le_of_ble_eq_true rfl) (Nat.le_of_ble_eq_true rfl) ⟨by decide, by decide⟩ rm3) ?_
    refine e_then (e_al1 hT (y := 131) (pc := 30) (q := (yX6_become, cX6_become, 2, none, 6)) rfl (show aTab 131 30 = some (.aload_n 1, 1, 0, 0, 0, 0, 0, 0) from rfl) rfl rfl) ?_
    refine e_then (e_getR hT (y := 131) (pc := 31) (q := (yX6_become, cX6_become, 2, none, 6)) rfl (show aTab 131 31 = some (.getfield 18, 3, 0, 6, 3, 0, 0, 0) from rfl) rfl (by decide) (by decide) tm3 rfl rfl) ?_
    refine e_then (e_al1 hT (y := 131) (pc := 34) (q := (yX6_become, cX6_become, 2, none, 6)) rfl (show aTab 131 34 = some (.aload_n 0, 1, 0, 0, 0, 0, 0, 0) from rfl) rfl rfl) ?_
    refine e_then (e_getR hT (y := 131) (pc := 35) (q := (yX6_become, cX6_become, 2, none, 6)) rfl (show aTab 131 35 = some (.getfield 18, 3, 0, 6, 3, 0, 0, 0) from rfl) rfl (by decide) (by decide) tm3 rfl rfl) ?_
    obtain ⟨m4, ⟨Km4, rm4⟩, tm4, em4⟩ := s_copy hT (a := 27) (b := 80) (L := 30) (by decide) rfl rfl (by decide) tm3 em3 (d := 9) (by decide)
    refine e_then (e_callsN hT (y := 131) (pc := 38) (q := (yX6_become, cX6_become, 2, none, 6)) rfl (show aTab 131 38 = some (.invokestatic 25, 3, 3, 237, 0, 2, 4, 11) from rfl) (Nat.le_of_ble_eq_true rfl) (Nat.le_of_ble_eq_true rfl) (Nat.le_of_ble_eq_true rfl) ⟨by decide, by decide⟩ rm4) ?_
    exact e_fin (e_vret hT (y := 131) (pc := 41) (q := (yX6_become, cX6_become, 2, none, 6)) rfl (show aTab 131 41 = some (.return_, 1, 0, 0, 0, 0, 0, 0) from rfl) ⟨rfl, rfl⟩) ⟨rfl, tm4, em4⟩
  obtain ⟨K, r, M', q1, rfl, q2, q3⟩ := go
  exact ⟨M', ⟨K, mRun_dm q1 hd⟩, q2, q3⟩
def gkp_X9_become (g : Nat → Nat → Int32) : Nat → Nat → Int32 := (cpy (cpy (cpy (cpy (cpy (up2 g 81 0 (g 28 0)) 29 82) 30 83) 31 84) 32 85) 33 86)
theorem kp_X9_become (hT : aTabOk) {M : mHe} (hM : yTy M) {g : Nat → Nat → Int32} (hg : rdI M = g) {d : Nat} (hd : 10 ≤ d) : ∃ M', (∃ K, mRun none K d (164, 0, lv_args 0 [.ref 90, .ref 37], []) M = some (none, M')) ∧ yTy M' ∧ rdI M' = gkp_X9_become g := by
  have go : mEv none 10 (164, 0, lv_args 0 [.ref 90, .ref 37], []) M (fun r M' => r = none ∧ yTy M' ∧ rdI M' = gkp_X9_become g) := by
    refine e_then (e_al1 hT (y := 164) (pc := 0) (q := (yX9_become, cX9_become, 2, none, 9)) rfl (show aTab 164 0 = some (.aload_n 0, 1, 0, 0, 0, 0, 0, 0) from rfl) rfl rfl) ?_
    refine e_then (e_al1 hT (y := 164) (pc := 1) (q := (yX9_become, cX9_become, 2, none, 9)) rfl (show aTab 164 1 = some (.aload_n 1, 1, 0, 0, 0, 0, 0, 0) from rfl) rfl rfl) ?_
    refine e_then (s_getV hT (y := 164) (pc := 2) (q := (yX9_become, cX9_become, 2, none, 9)) rfl (show aTab 164 2 = some (.getfield 33, 3, 0, 9, 0, 0, 0, 0) from rfl) rfl (by decide) hM hg 28 rfl rfl (v := (g 28 0)) rfl) ?_
    have bd5 := (rd_obj hM (c := 28) (k := 0) rfl rfl).2
    have be5 : (g 28 0) = rdI M 28 0 := by rw [hg]
    rw [← be5] at bd5
    obtain ⟨m1, sm1, tm1, em1⟩ := s_putI (sc := none) (d := _) (lv := (lv_args 0 [.ref 90, .ref 37])) (st := []) (z := (g 28 0)) hT (y := 164) (pc := 5) (q := (yX9_become, cX9_become, 2, none, 9)) rfl (show aTab 164 5 = some (.putfield 33, 3, 0, 9, 0, 0, 0, 0) from rfl) rfl rfl ⟨by decide, rfl, rfl⟩ hM hg 81 rfl rfl bd5 (kn := 0) rfl
    refine e_then sm1 ?_
    refine e_then (e_al1 hT (y := 164) (pc := 8) (q := (yX9_become, cX9_become, 2, none, 9)) rfl (show aTab 164 8 = some (.aload_n 1, 1, 0, 0, 0, 0, 0, 0) from rfl) rfl rfl) ?_
    refine e_then (e_getR hT (y := 164) (pc := 9) (q := (yX9_become, cX9_become, 2, none, 9)) rfl (show aTab 164 9 = some (.getfield 9, 3, 0, 9, 1, 0, 0, 0) from rfl) rfl (by decide) (by decide) tm1 rfl rfl) ?_
    refine e_then (e_al1 hT (y := 164) (pc := 12) (q := (yX9_become, cX9_become, 2, none, 9)) rfl (show aTab 164 12 = some (.aload_n 0, 1, 0, 0, 0, 0, 0, 0) from rfl) rfl rfl) ?_
    refine e_then (e_getR hT (y := 164) (pc := 13) (q := (yX9_become, cX9_become, 2, none, 9)) rfl (show aTab 164 13 = some (.getfield 9, 3, 0, 9, 1, 0, 0, 0) from rfl) rfl (by decide) (by decide) tm1 rfl rfl) ?_
    obtain ⟨m2, ⟨Km2, rm2⟩, tm2, em2⟩ := s_copy hT (a := 29) (b := 82) (L := 12) (by decide) rfl rfl (by decide) tm1 em1 (d := 9) (by decide)
    refine e_then (e_callsN hT (y := 164) (pc := 16) (q := (yX9_become, cX9_become, 2, none, 9)) rfl (show aTab 164 16 = some (.invokestatic 37, 3, 3, 237, 0, 2, 4, 11) from rfl) (Nat.le_of_ble_eq_true rfl) (Nat.le_of_ble_eq_true rfl) (Nat.le_of_ble_eq_true rfl) ⟨by decide, by decide⟩ rm2) ?_
    refine e_then (e_al1 hT (y := 164) (pc := 19) (q := (yX9_become, cX9_become, 2, none, 9)) rfl (show aTab 164 19 = some (.aload_n 1, 1, 0, 0, 0, 0, 0, 0) from rfl) rfl rfl) ?_
    refine e_then (e_getR hT (y := 164) (pc := 20) (q := (yX9_become, cX9_become, 2, none, 9)) rfl (show aTab 164 20 = some (.getfield 15, 3, 0, 9, 2, 0, 0, 0) from rfl) rfl (by decide) (by decide) tm2 rfl rfl) ?_
    refine e_then (e_al1 hT (y := 164) (pc := 23) (q := (yX9_become, cX9_become, 2, none, 9)) rfl (show aTab 164 23 = some (.aload_n 0, 1, 0, 0, 0, 0, 0, 0) from rfl) rfl rfl) ?_
    refine e_then (e_getR hT (y := 164) (pc := 24) (q := (yX9_become, cX9_become, 2, none, 9)) rfl (show aTab 164 24 = some (.getfield 15, 3, 0, 9, 2, 0, 0, 0) from rfl) rfl (by decide) (by decide) tm2 rfl rfl) ?_
    obtain ⟨m3, ⟨Km3, rm3⟩, tm3, em3⟩ := s_copy hT (a := 30) (b := 83) (L := 12) (by decide) rfl rfl (by decide) tm2 em2 (d := 9) (by decide)
    refine e_then (e_callsN hT (y := 164) (pc := 27) (q := (yX9_become, cX9_become, 2, none, 9)) rfl (show aTab 164 27 = some (.invokestatic 37, 3, 3, 237, 0, 2, 4, 11) from rfl) (Nat.le_of_ble_eq_true rfl) (Nat.le_of_ble_eq_true rfl) (Nat.le_of_ble_eq_true rfl) ⟨by decide, by decide⟩ rm3) ?_
    refine e_then (e_al1 hT (y := 164) (pc := 30) (q := (yX9_become, cX9_become, 2, none, 9)) rfl (show aTab 164 30 = some (.aload_n 1, 1, 0, 0, 0, 0, 0, 0) from rfl) rfl rfl) ?_
    refine e_then (e_getR hT (y := 164) (pc := 31) (q := (yX9_become, cX9_become, 2, none, 9)) rfl (show aTab 164 31 = some (.getfield 18, 3, 0, 9, 3, 0, 0, 0) from rfl) rfl (by decide) (by decide) tm3 rfl rfl) ?_
    refine e_then (e_al1 hT (y := 164) (pc := 34) (q := (yX9_become, cX9_become, 2, none, 9)) rfl (show aTab 164 34 = some (.aload_n 0, 1, 0, 0, 0, 0, 0, 0) from rfl) rfl rfl) ?_
    refine e_then (e_getR hT (y := 164) (pc := 35) (q := (yX9_become, cX9_become, 2, none, 9)) rfl (show aTab 164 35 = some (.getfield 18, 3, 0, 9, 3, 0, 0, 0) from rfl) rfl (by decide) (by decide) tm3 rfl rfl) ?_
    obtain ⟨m4, ⟨Km4, rm4⟩, tm4, em4⟩ := s_copy hT (a := 31) (b := 84) (L := 12) (by decide) rfl rfl (by decide) tm3 em3 (d := 9) (by decide)
    refine e_then (e_callsN hT (y := 164) (pc := 38) (q := (yX9_become, cX9_become, 2, none, 9)) rfl (show aTab 164 38 = some (.invokestatic 37, 3, 3, 237, 0, 2, 4, 11) from rfl) (Nat.le_of_ble_eq_true rfl) (Nat.le_of_ble_eq_true rfl) (Nat.le_of_ble_eq_true rfl) ⟨by decide, by decide⟩ rm4) ?_
    refine e_then (e_al1 hT (y := 164) (pc := 41) (q := (yX9_become, cX9_become, 2, none, 9)) rfl (show aTab 164 41 = some (.aload_n 1, 1, 0, 0, 0, 0, 0, 0) from rfl) rfl rfl) ?_
    refine e_then (e_getR hT (y := 164) (pc := 42) (q := (yX9_become, cX9_become, 2, none, 9)) rfl (show aTab 164 42 = some (.getfield 21, 3, 0, 9, 4, 0, 0, 0) from rfl) rfl (by decide) (by decide) tm4 rfl rfl) ?_
    refine e_then (e_al1 hT (y := 164) (pc := 45) (q := (yX9_become, cX9_become, 2, none, 9)) rfl (show aTab 164 45 = some (.aload_n 0, 1, 0, 0, 0, 0, 0, 0) from rfl) rfl rfl) ?_
    refine e_then (e_getR hT (y := 164) (pc := 46) (q := (yX9_become, cX9_become, 2, none, 9)) rfl (show aTab 164 46 = some (.getfield 21, 3, 0, 9, 4, 0, 0, 0) from rfl) rfl (by decide) (by decide) tm4 rfl rfl) ?_
    obtain ⟨m5, ⟨Km5, rm5⟩, tm5, em5⟩ := s_copy hT (a := 32) (b := 85) (L := 12) (by decide) rfl rfl (by decide) tm4 em4 (d := 9) (by decide)
    refine e_then (e_callsN hT (y := 164) (pc := 49) (q := (yX9_become, cX9_become, 2, none, 9)) rfl (show aTab 164 49 = some (.invokestatic 37, 3, 3, 237, 0, 2, 4, 11) from rfl) (Nat.le_of_ble_eq_true rfl) (Nat.le_of_ble_eq_true rfl) (Nat.le_of_ble_eq_true rfl) ⟨by decide, by decide⟩ rm5) ?_
    refine e_then (e_al1 hT (y := 164) (pc := 52) (q := (yX9_become, cX9_become, 2, none, 9)) rfl (show aTab 164 52 = some (.aload_n 1, 1, 0, 0, 0, 0, 0, 0) from rfl) rfl rfl) ?_
    refine e_then (e_getR hT (y := 164) (pc := 53) (q := (yX9_become, cX9_become, 2, none, 9)) rfl (show aTab 164 53 = some (.getfield 24, 3, 0, 9, 5, 0, 0, 0) from rfl) rfl (by decide) (by decide) tm5 rfl rfl) ?_
    refine e_then (e_al1 hT (y := 164) (pc := 56) (q := (yX9_become, cX9_become, 2, none, 9)) rfl (show aTab 164 56 = some (.aload_n 0, 1, 0, 0, 0, 0, 0, 0) from rfl) rfl rfl) ?_
    refine e_then (e_getR hT (y := 164) (pc := 57) (q := (yX9_become, cX9_become, 2, none, 9)) rfl (show aTab 164 57 = some (.getfield 24, 3, 0, 9, 5, 0, 0, 0) from rfl) rfl (by decide) (by decide) tm5 rfl rfl) ?_
    obtain ⟨m6, ⟨Km6, rm6⟩, tm6, em6⟩ := s_copy hT (a := 33) (b := 86) (L := 1152) (by decide) rfl rfl (by decide) tm5 em5 (d := 9) (by decide)
    refine e_then (e_callsN hT (y := 164) (pc := 60) (q := (yX9_become, cX9_become, 2, none, 9)) rfl (show aTab 164 60 = some (.invokestatic 37, 3, 3, 237, 0, 2, 4, 11) from rfl) (Nat.le_of_ble_eq_true rfl) (Nat.le_of_ble_eq_true rfl) (Nat.le_of_ble_eq_true rfl) ⟨by decide, by decide⟩ rm6) ?_
    exact e_fin (e_vret hT (y := 164) (pc := 63) (q := (yX9_become, cX9_become, 2, none, 9)) rfl (show aTab 164 63 = some (.return_, 1, 0, 0, 0, 0, 0, 0) from rfl) ⟨rfl, rfl⟩) ⟨rfl, tm6, em6⟩
  obtain ⟨K, r, M', q1, rfl, q2, q3⟩ := go
  exact ⟨M', ⟨K, mRun_dm q1 hd⟩, q2, q3⟩
def gkp_X10_become (g : Nat → Nat → Int32) : Nat → Nat → Int32 := (cpy g 37 90)
theorem kp_X10_become (hT : aTabOk) {M : mHe} (hM : yTy M) {g : Nat → Nat → Int32} (hg : rdI M = g) {d : Nat} (hd : 10 ≤ d) : ∃ M', (∃ K, mRun none K d (174, 0, lv_args 0 [.ref 98, .ref 45], []) M = some (none, M')) ∧ yTy M' ∧ rdI M' = gkp_X10_become g := by
  have go : mEv none 10 (174, 0, lv_args 0 [.ref 98, .ref 45], []) M (fun r M' => r = none ∧ yTy M' ∧ rdI M' = gkp_X10_become g) := by
    refine e_then (e_al1 hT (y := 174) (pc := 0) (q := (yX10_become, cX10_become, 2, none, 10)) rfl (show aTab 174 0 = some (.aload_n 1, 1, 0, 0, 0, 0, 0, 0) from rfl) rfl rfl) ?_
    refine e_then (e_getR hT (y := 174) (pc := 1) (q := (yX10_become, cX10_become, 2, none, 10)) rfl (show aTab 174 1 = some (.getfield 9, 3, 0, 10, 0, 0, 0, 0) from rfl) rfl (by decide) (by decide) hM rfl rfl) ?_
    refine e_then (e_al1 hT (y := 174) (pc := 4) (q := (yX10_become, cX10_become, 2, none, 10)) rfl (show aTab 174 4 = some (.aload_n 0, 1, 0, 0, 0, 0, 0, 0) from rfl) rfl rfl) ?_
    refine e_then (e_getR hT (y := 174) (pc := 5) (q := (yX10_become, cX10_become, 2, none, 10)) rfl (show aTab 174 5 = some (.getfield 9, 3, 0, 10, 0, 0, 0, 0) from rfl) rfl (by decide) (by decide) hM rfl rfl) ?_
    obtain ⟨m1, ⟨Km1, rm1⟩, tm1, em1⟩ := s_copy hT (a := 37) (b := 90) (L := 9) (by decide) rfl rfl (by decide) hM hg (d := 9) (by decide)
    refine e_then (e_callsN hT (y := 174) (pc := 8) (q := (yX10_become, cX10_become, 2, none, 10)) rfl (show aTab 174 8 = some (.invokestatic 21, 3, 3, 237, 0, 2, 4, 11) from rfl) (Nat.le_of_ble_eq_true rfl) (Nat.le_of_ble_eq_true rfl) (Nat.le_of_ble_eq_true rfl) ⟨by decide, by decide⟩ rm1) ?_
    exact e_fin (e_vret hT (y := 174) (pc := 11) (q := (yX10_become, cX10_become, 2, none, 10)) rfl (show aTab 174 11 = some (.return_, 1, 0, 0, 0, 0, 0, 0) from rfl) ⟨rfl, rfl⟩) ⟨rfl, tm1, em1⟩
  obtain ⟨K, r, M', q1, rfl, q2, q3⟩ := go
  exact ⟨M', ⟨K, mRun_dm q1 hd⟩, q2, q3⟩
def gkp_X7_become (g : Nat → Nat → Int32) : Nat → Nat → Int32 := (cpy (cpy (up2 g 93 0 (g 40 0)) 41 94) 42 95)
theorem kp_X7_become (hT : aTabOk) {M : mHe} (hM : yTy M) {g : Nat → Nat → Int32} (hg : rdI M = g) {d : Nat} (hd : 10 ≤ d) : ∃ M', (∃ K, mRun none K d (136, 0, lv_args 0 [.ref 102, .ref 49], []) M = some (none, M')) ∧ yTy M' ∧ rdI M' = gkp_X7_become g := by
  have go : mEv none 10 (136, 0, lv_args 0 [.ref 102, .ref 49], []) M (fun r M' => r = none ∧ yTy M' ∧ rdI M' = gkp_X7_become g) := by
    refine e_then (e_al1 hT (y := 136) (pc := 0) (q := (yX7_become, cX7_become, 2, none, 7)) rfl (show aTab 136 0 = some (.aload_n 0, 1, 0, 0, 0, 0, 0, 0) from rfl) rfl rfl) ?_
    refine e_then (e_al1 hT (y := 136) (pc := 1) (q := (yX7_become, cX7_become, 2, none, 7)) rfl (show aTab 136 1 = some (.aload_n 1, 1, 0, 0, 0, 0, 0, 0) from rfl) rfl rfl) ?_
    refine e_then (s_getV hT (y := 136) (pc := 2) (q := (yX7_become, cX7_become, 2, none, 7)) rfl (show aTab 136 2 = some (.getfield 21, 3, 0, 7, 0, 0, 0, 0) from rfl) rfl (by decide) hM hg 40 rfl rfl (v := (g 40 0)) rfl) ?_
    have bd5 := (rd_obj hM (c := 40) (k := 0) rfl rfl).2
    have be5 : (g 40 0) = rdI M 40 0 := by rw [hg]
    rw [← be5] at bd5
    obtain ⟨m1, sm1, tm1, em1⟩ := s_putI (sc := none) (d := _) (lv := (lv_args 0 [.ref 102, .ref 49])) (st := []) (z := (g 40 0)) hT (y := 136) (pc := 5) (q := (yX7_become, cX7_become, 2, none, 7)) rfl (show aTab 136 5 = some (.putfield 21, 3, 0, 7, 0, 0, 0, 0) from rfl) rfl rfl ⟨by decide, rfl, rfl⟩ hM hg 93 rfl rfl bd5 (kn := 0) rfl
    refine e_then sm1 ?_
    refine e_then (e_al1 hT (y := 136) (pc := 8) (q := (yX7_become, cX7_become, 2, none, 7)) rfl (show aTab 136 8 = some (.aload_n 1, 1, 0, 0, 0, 0, 0, 0) from rfl) rfl rfl) ?_
    refine e_then (e_getR hT (y := 136) (pc := 9) (q := (yX7_become, cX7_become, 2, none, 7)) rfl (show aTab 136 9 = some (.getfield 9, 3, 0, 7, 1, 0, 0, 0) from rfl) rfl (by decide) (by decide) tm1 rfl rfl) ?_
    refine e_then (e_al1 hT (y := 136) (pc := 12) (q := (yX7_become, cX7_become, 2, none, 7)) rfl (show aTab 136 12 = some (.aload_n 0, 1, 0, 0, 0, 0, 0, 0) from rfl) rfl rfl) ?_
    refine e_then (e_getR hT (y := 136) (pc := 13) (q := (yX7_become, cX7_become, 2, none, 7)) rfl (show aTab 136 13 = some (.getfield 9, 3, 0, 7, 1, 0, 0, 0) from rfl) rfl (by decide) (by decide) tm1 rfl rfl) ?_
    obtain ⟨m2, ⟨Km2, rm2⟩, tm2, em2⟩ := s_copy hT (a := 41) (b := 94) (L := 6) (by decide) rfl rfl (by decide) tm1 em1 (d := 9) (by decide)
    refine e_then (e_callsN hT (y := 136) (pc := 16) (q := (yX7_become, cX7_become, 2, none, 7)) rfl (show aTab 136 16 = some (.invokestatic 25, 3, 3, 237, 0, 2, 4, 11) from rfl) (Nat.le_of_ble_eq_true rfl) (Nat.le_of_ble_eq_true rfl) (Nat.le_of_ble_eq_true rfl) ⟨by decide, by decide⟩ rm2) ?_
    refine e_then (e_al1 hT (y := 136) (pc := 19) (q := (yX7_become, cX7_become, 2, none, 7)) rfl (show aTab 136 19 = some (.aload_n 1, 1, 0, 0, 0, 0, 0, 0) from rfl) rfl rfl) ?_
    refine e_then (e_getR hT (y := 136) (pc := 20) (q := (yX7_become, cX7_become, 2, none, 7)) rfl (show aTab 136 20 = some (.getfield 15, 3, 0, 7, 2, 0, 0, 0) from rfl) rfl (by decide) (by decide) tm2 rfl rfl) ?_
    refine e_then (e_al1 hT (y := 136) (pc := 23) (q := (yX7_become, cX7_become, 2, none, 7)) rfl (show aTab 136 23 = some (.aload_n 0, 1, 0, 0, 0, 0, 0, 0) from rfl) rfl rfl) ?_
    refine e_then (e_getR hT (y := 136) (pc := 24) (q := (yX7_become, cX7_become, 2, none, 7)) rfl (show aTab 136 24 = some (.getfield 15, 3, 0, 7, 2, 0, 0, 0) from rfl) rfl (by decide) (by decide) tm2 rfl rfl) ?_
    obtain ⟨m3, ⟨Km3, rm3⟩, tm3, em3⟩ := s_copy hT (a := 42) (b := 95) (L := 8) (by decide) rfl rfl (by decide) tm2 em2 (d := 9) (by decide)
    refine e_then (e_callsN hT (y := 136) (pc := 27) (q := (yX7_become, cX7_become, 2, none, 7)) rfl (show aTab 136 27 = some (.invokestatic 25, 3, 3, 237, 0, 2, 4, 11) from rfl) (Nat.le_of_ble_eq_true rfl) (Nat.le_of_ble_eq_true rfl) (Nat.le_of_ble_eq_true rfl) ⟨by decide, by decide⟩ rm3) ?_
    exact e_fin (e_vret hT (y := 136) (pc := 30) (q := (yX7_become, cX7_become, 2, none, 7)) rfl (show aTab 136 30 = some (.return_, 1, 0, 0, 0, 0, 0, 0) from rfl) ⟨rfl, rfl⟩) ⟨rfl, tm3, em3⟩
  obtain ⟨K, r, M', q1, rfl, q2, q3⟩ := go
  exact ⟨M', ⟨K, mRun_dm q1 hd⟩, q2, q3⟩
def gkp_X3_become (g : Nat → Nat → Int32) : Nat → Nat → Int32 := (cpy (cpy (cpy (cpy (up2 g 97 0 (g 44 0)) 45 98) 46 99) 47 100) 48 101)
theorem kp_X3_become (hT : aTabOk) {M : mHe} (hM : yTy M) {g : Nat → Nat → Int32} (hg : rdI M = g) {d : Nat} (hd : 10 ≤ d) : ∃ M', (∃ K, mRun none K d (60, 0, lv_args 0 [.ref 106, .ref 53], []) M = some (none, M')) ∧ yTy M' ∧ rdI M' = gkp_X3_become g := by
  have go : mEv none 10 (60, 0, lv_args 0 [.ref 106, .ref 53], []) M (fun r M' => r = none ∧ yTy M' ∧ rdI M' = gkp_X3_become g) := by
    refine e_then (e_al1 hT (y := 60) (pc := 0) (q := (yX3_become, cX3_become, 2, none, 3)) rfl (show aTab 60 0 = some (.aload_n 0, 1, 0, 0, 0, 0, 0, 0) from rfl) rfl rfl) ?_
    refine e_then (e_al1 hT (y := 60) (pc := 1) (q := (yX3_become, cX3_become, 2, none, 3)) rfl (show aTab 60 1 = some (.aload_n 1, 1, 0, 0, 0, 0, 0, 0) from rfl) rfl rfl) ?_
    refine e_then (s_getV hT (y := 60) (pc := 2) (q := (yX3_become, cX3_become, 2, none, 3)) rfl (show aTab 60 2 = some (.getfield 24, 3, 0, 3, 0, 0, 0, 0) from rfl) rfl (by decide) hM hg 44 rfl rfl (v := (g 44 0)) rfl) ?_
    have bd5 := (rd_obj hM (c := 44) (k := 0) rfl rfl).2
    have be5 : (g 44 0) = rdI M 44 0 := by rw [hg]
    rw [← be5] at bd5
    obtain ⟨m1, sm1, tm1, em1⟩ := s_putI (sc := none) (d := _) (lv := (lv_args 0 [.ref 106, .ref 53])) (st := []) (z := (g 44 0)) hT (y := 60) (pc := 5) (q := (yX3_become, cX3_become, 2, none, 3)) rfl (show aTab 60 5 = some (.putfield 24, 3, 0, 3, 0, 0, 0, 0) from rfl) rfl rfl ⟨by decide, rfl, rfl⟩ hM hg 97 rfl rfl bd5 (kn := 0) rfl
    refine e_then sm1 ?_
    refine e_then (e_al1 hT (y := 60) (pc := 8) (q := (yX3_become, cX3_become, 2, none, 3)) rfl (show aTab 60 8 = some (.aload_n 1, 1, 0, 0, 0, 0, 0, 0) from rfl) rfl rfl) ?_
    refine e_then (e_getR hT (y := 60) (pc := 9) (q := (yX3_become, cX3_become, 2, none, 3)) rfl (show aTab 60 9 = some (.getfield 9, 3, 0, 3, 1, 0, 0, 0) from rfl) rfl (by decide) (by decide) tm1 rfl rfl) ?_
    refine e_then (e_al1 hT (y := 60) (pc := 12) (q := (yX3_become, cX3_become, 2, none, 3)) rfl (show aTab 60 12 = some (.aload_n 0, 1, 0, 0, 0, 0, 0, 0) from rfl) rfl rfl) ?_
    refine e_then (e_getR hT (y := 60) (pc := 13) (q := (yX3_become, cX3_become, 2, none, 3)) rfl (show aTab 60 13 = some (.getfield 9, 3, 0, 3, 1, 0, 0, 0) from rfl) rfl (by decide) (by decide) tm1 rfl rfl) ?_
    obtain ⟨m2, ⟨Km2, rm2⟩, tm2, em2⟩ := s_copy hT (a := 45) (b := 98) (L := 8) (by decide) rfl rfl (by decide) tm1 em1 (d := 9) (by decide)
    refine e_then (e_callsN hT (y := 60) (pc := 16) (q := (yX3_become, cX3_become, 2, none, 3)) rfl (show aTab 60 16 = some (.invokestatic 28, 3, 3, 237, 0, 2, 4, 11) from rfl) (Nat.le_of_ble_eq_true rfl) (Nat.le_of_ble_eq_true rfl) (Nat.le_of_ble_eq_true rfl) ⟨by decide, by decide⟩ rm2) ?_
    refine e_then (e_al1 hT (y := 60) (pc := 19) (q := (yX3_become, cX3_become, 2, none, 3)) rfl (show aTab 60 19 = some (.aload_n 1, 1, 0, 0, 0, 0, 0, 0) from rfl) rfl rfl) ?_
    refine e_then (e_getR hT (y := 60) (pc := 20) (q := (yX3_become, cX3_become, 2, none, 3)) rfl (show aTab 60 20 = some (.getfield 15, 3, 0, 3, 2, 0, 0, 0) from rfl) rfl (by decide) (by decide) tm2 rfl rfl) ?_
    refine e_then (e_al1 hT (y := 60) (pc := 23) (q := (yX3_become, cX3_become, 2, none, 3)) rfl (show aTab 60 23 = some (.aload_n 0, 1, 0, 0, 0, 0, 0, 0) from rfl) rfl rfl) ?_
    refine e_then (e_getR hT (y := 60) (pc := 24) (q := (yX3_become, cX3_become, 2, none, 3)) rfl (show aTab 60 24 = some (.getfield 15, 3, 0, 3, 2, 0, 0, 0) from rfl) rfl (by decide) (by decide) tm2 rfl rfl) ?_
    obtain ⟨m3, ⟨Km3, rm3⟩, tm3, em3⟩ := s_copy hT (a := 46) (b := 99) (L := 8) (by decide) rfl rfl (by decide) tm2 em2 (d := 9) (by decide)
    refine e_then (e_callsN hT (y := 60) (pc := 27) (q := (yX3_become, cX3_become, 2, none, 3)) rfl (show aTab 60 27 = some (.invokestatic 28, 3, 3, 237, 0, 2, 4, 11) from rfl) (Nat.le_of_ble_eq_true rfl) (Nat.le_of_ble_eq_true rfl) (Nat.le_of_ble_eq_true rfl) ⟨by decide, by decide⟩ rm3) ?_
    refine e_then (e_al1 hT (y := 60) (pc := 30) (q := (yX3_become, cX3_become, 2, none, 3)) rfl (show aTab 60 30 = some (.aload_n 1, 1, 0, 0, 0, 0, 0, 0) from rfl) rfl rfl) ?_
    refine e_then (e_getR hT (y := 60) (pc := 31) (q := (yX3_become, cX3_become, 2, none, 3)) rfl (show aTab 60 31 = some (.getfield 18, 3, 0, 3, 3, 0, 0, 0) from rfl) rfl (by decide) (by decide) tm3 rfl rfl) ?_
    refine e_then (e_al1 hT (y := 60) (pc := 34) (q := (yX3_become, cX3_become, 2, none, 3)) rfl (show aTab 60 34 = some (.aload_n 0, 1, 0, 0, 0, 0, 0, 0) from rfl) rfl rfl) ?_
    refine e_then (e_getR hT (y := 60) (pc := 35) (q := (yX3_become, cX3_become, 2, none, 3)) rfl (show aTab 60 35 = some (.getfield 18, 3, 0, 3, 3, 0, 0, 0) from rfl) rfl (by decide) (by decide) tm3 rfl rfl) ?_
    obtain ⟨m4, ⟨Km4, rm4⟩, tm4, em4⟩ := s_copy hT (a := 47) (b := 100) (L := 8) (by decide) rfl rfl (by decide) tm3 em3 (d := 9) (by decide)
    refine e_then (e_callsN hT (y := 60) (pc := 38) (q := (yX3_become, cX3_become, 2, none, 3)) rfl (show aTab 60 38 = some (.invokestatic 28, 3, 3, 237, 0, 2, 4, 11) from rfl) (Nat.le_of_ble_eq_true rfl) (Nat.le_of_ble_eq_true rfl) (Nat.le_of_ble_eq_true rfl) ⟨by decide, by decide⟩ rm4) ?_
    refine e_then (e_al1 hT (y := 60) (pc := 41) (q := (yX3_become, cX3_become, 2, none, 3)) rfl (show aTab 60 41 = some (.aload_n 1, 1, 0, 0, 0, 0, 0, 0) from rfl) rfl rfl) ?_
    refine e_then (e_getR hT (y := 60) (pc := 42) (q := (yX3_become, cX3_become, 2, none, 3)) rfl (show aTab 60 42 = some (.getfield 21, 3, 0, 3, 4, 0, 0, 0) from rfl) rfl (by decide) (by decide) tm4 rfl rfl) ?_
    refine e_then (e_al1 hT (y := 60) (pc := 45) (q := (yX3_become, cX3_become, 2, none, 3)) rfl (show aTab 60 45 = some (.aload_n 0, 1, 0, 0, 0, 0, 0, 0) from rfl) rfl rfl) ?_
    refine e_then (e_getR hT (y := 60) (pc := 46) (q := (yX3_become, cX3_become, 2, none, 3)) rfl (show aTab 60 46 = some (.getfield 21, 3, 0, 3, 4, 0, 0, 0) from rfl) rfl (by decide) (by decide) tm4 rfl rfl) ?_
    obtain ⟨m5, ⟨Km5, rm5⟩, tm5, em5⟩ := s_copy hT (a := 48) (b := 101) (L := 8) (by decide) rfl rfl (by decide) tm4 em4 (d := 9) (by decide)
    refine e_then (e_callsN hT (y := 60) (pc := 49) (q := (yX3_become, cX3_become, 2, none, 3)) rfl (show aTab 60 49 = some (.invokestatic 28, 3, 3, 237, 0, 2, 4, 11) from rfl) (Nat.le_of_ble_eq_true rfl) (Nat.le_of_ble_eq_true rfl) (Nat.le_of_ble_eq_true rfl) ⟨by decide, by decide⟩ rm5) ?_
    exact e_fin (e_vret hT (y := 60) (pc := 52) (q := (yX3_become, cX3_become, 2, none, 3)) rfl (show aTab 60 52 = some (.return_, 1, 0, 0, 0, 0, 0, 0) from rfl) ⟨rfl, rfl⟩) ⟨rfl, tm5, em5⟩
  obtain ⟨K, r, M', q1, rfl, q2, q3⟩ := go
  exact ⟨M', ⟨K, mRun_dm q1 hd⟩, q2, q3⟩
def gkp_X1_become (g : Nat → Nat → Int32) : Nat → Nat → Int32 := (cpy (cpy (up2 (gkp_X3_become (gkp_X7_become (gkp_X10_become (gkp_X9_become (gkp_X6_become (gkp_X4_become (gkp_X2_become (up2 (up2 (up2 g 54 0 (g 1 0)) 54 1 (g 1 1)) 54 2 (g 1 2))))))))) 54 10 (g 1 10)) 49 102) 50 103)
theorem kp_X1_become (hT : aTabOk) {M : mHe} (hM : yTy M) {g : Nat → Nat → Int32} (hg : rdI M = g) {d : Nat} (hd : 20 ≤ d) : ∃ M', (∃ K, mRun none K d (12, 0, lv_args 0 [.ref 63, .ref 10], []) M = some (none, M')) ∧ yTy M' ∧ rdI M' = gkp_X1_become g := by
  have go : mEv none 20 (12, 0, lv_args 0 [.ref 63, .ref 10], []) M (fun r M' => r = none ∧ yTy M' ∧ rdI M' = gkp_X1_become g) := by
    refine e_then (e_al1 hT (y := 12) (pc := 0) (q := (yX1_become, cX1_become, 2, none, 1)) rfl (show aTab 12 0 = some (.aload_n 0, 1, 0, 0, 0, 0, 0, 0) from rfl) rfl rfl) ?_
    refine e_then (e_al1 hT (y := 12) (pc := 1) (q := (yX1_become, cX1_become, 2, none, 1)) rfl (show aTab 12 1 = some (.aload_n 1, 1, 0, 0, 0, 0, 0, 0) from rfl) rfl rfl) ?_
    refine e_then (s_getV hT (y := 12) (pc := 2) (q := (yX1_become, cX1_become, 2, none, 1)) rfl (show aTab 12 2 = some (.getfield 76, 3, 0, 1, 0, 0, 0, 0) from rfl) rfl (by decide) hM hg 1 rfl rfl (v := (g 1 0)) rfl) ?_
    have bd5 := (rd_obj hM (c := 1) (k := 0) rfl rfl).2
    have be5 : (g 1 0) = rdI M 1 0 := by rw [hg]
    rw [← be5] at bd5
    obtain ⟨m1, sm1, tm1, em1⟩ := s_putI (sc := none) (d := _) (lv := (lv_args 0 [.ref 63, .ref 10])) (st := []) (z := (g 1 0)) hT (y := 12) (pc := 5) (q := (yX1_become, cX1_become, 2, none, 1)) rfl (show aTab 12 5 = some (.putfield 76, 3, 0, 1, 0, 0, 0, 0) from rfl) rfl rfl ⟨by decide, rfl, rfl⟩ hM hg 54 rfl rfl bd5 (kn := 0) rfl
    refine e_then sm1 ?_
    refine e_then (e_al1 hT (y := 12) (pc := 8) (q := (yX1_become, cX1_become, 2, none, 1)) rfl (show aTab 12 8 = some (.aload_n 0, 1, 0, 0, 0, 0, 0, 0) from rfl) rfl rfl) ?_
    refine e_then (e_al1 hT (y := 12) (pc := 9) (q := (yX1_become, cX1_become, 2, none, 1)) rfl (show aTab 12 9 = some (.aload_n 1, 1, 0, 0, 0, 0, 0, 0) from rfl) rfl rfl) ?_
    refine e_then (s_getV hT (y := 12) (pc := 10) (q := (yX1_become, cX1_become, 2, none, 1)) rfl (show aTab 12 10 = some (.getfield 80, 3, 0, 1, 1, 0, 0, 0) from rfl) rfl (by decide) tm1 em1 1 rfl rfl (v := (g 1 1)) rfl) ?_
    have bd13 := (rd_obj hM (c := 1) (k := 1) rfl rfl).2
    have be13 : (g 1 1) = rdI M 1 1 := by rw [hg]
    rw [← be13] at bd13
    obtain ⟨m2, sm2, tm2, em2⟩ := s_putI (sc := none) (d := _) (lv := (lv_args 0 [.ref 63, .ref 10])) (st := []) (z := (g 1 1)) hT (y := 12) (pc := 13) (q := (yX1_become, cX1_become, 2, none, 1)) rfl (show aTab 12 13 = some (.putfield 80, 3, 0, 1, 1, 0, 0, 0) from rfl) rfl rfl ⟨by decide, rfl, rfl⟩ tm1 em1 54 rfl rfl bd13 (kn := 1) rfl
    refine e_then sm2 ?_
    refine e_then (e_al1 hT (y := 12) (pc := 16) (q := (yX1_become, cX1_become, 2, none, 1)) rfl (show aTab 12 16 = some (.aload_n 0, 1, 0, 0, 0, 0, 0, 0) from rfl) rfl rfl) ?_
    refine e_then (e_al1 hT (y := 12) (pc := 17) (q := (yX1_become, cX1_become, 2, none, 1)) rfl (show aTab 12 17 = some (.aload_n 1, 1, 0, 0, 0, 0, 0, 0) from rfl) rfl rfl) ?_
    refine e_then (s_getV hT (y := 12) (pc := 18) (q := (yX1_become, cX1_become, 2, none, 1)) rfl (show aTab 12 18 = some (.getfield 83, 3, 0, 1, 2, 0, 0, 0) from rfl) rfl (by decide) tm2 em2 1 rfl rfl (v := (g 1 2)) rfl) ?_
    have bd21 := (rd_obj hM (c := 1) (k := 2) rfl rfl).2
    have be21 : (g 1 2) = rdI M 1 2 := by rw [hg]
    rw [← be21] at bd21
    obtain ⟨m3, sm3, tm3, em3⟩ := s_putB (sc := none) (d := _) (lv := (lv_args 0 [.ref 63, .ref 10])) (st := []) (z := (g 1 2)) hT (y := 12) (pc := 21) (q := (yX1_become, cX1_become, 2, none, 1)) rfl (show aTab 12 21 = some (.putfield 83, 3, 0, 1, 2, 0, 0, 0) from rfl) rfl rfl ⟨by decide, rfl, rfl⟩ tm2 em2 54 rfl rfl bd21 (kn := 2) rfl
    refine e_then sm3 ?_
    refine e_then (e_al1 hT (y := 12) (pc := 24) (q := (yX1_become, cX1_become, 2, none, 1)) rfl (show aTab 12 24 = some (.aload_n 0, 1, 0, 0, 0, 0, 0, 0) from rfl) rfl rfl) ?_
    refine e_then (e_getR hT (y := 12) (pc := 25) (q := (yX1_become, cX1_become, 2, none, 1)) rfl (show aTab 12 25 = some (.getfield 12, 3, 0, 1, 3, 0, 0, 0) from rfl) rfl (by decide) (by decide) tm3 rfl rfl) ?_
    refine e_then (e_al1 hT (y := 12) (pc := 28) (q := (yX1_become, cX1_become, 2, none, 1)) rfl (show aTab 12 28 = some (.aload_n 1, 1, 0, 0, 0, 0, 0, 0) from rfl) rfl rfl) ?_
    refine e_then (e_getR hT (y := 12) (pc := 29) (q := (yX1_become, cX1_become, 2, none, 1)) rfl (show aTab 12 29 = some (.getfield 12, 3, 0, 1, 3, 0, 0, 0) from rfl) rfl (by decide) (by decide) tm3 rfl rfl) ?_
    obtain ⟨m4, ⟨Km4, rm4⟩, tm4, em4⟩ := kp_X2_become hT tm3 em3 (d := 19) (by decide)
    refine e_then (e_call hT (y := 12) (pc := 32) (q := (yX1_become, cX1_become, 2, none, 1)) rfl (show aTab 12 32 = some (.invokevirtual 87, 3, 1, 39, 0, 1, 2, 2) from rfl) rfl ⟨by decide, Nat.le_of_ble_eq_true rfl⟩ (ob_at tm3 (rfl : tTy 55 = some (.inr (2, _)))).choose_spec (Nat.le_of_ble_eq_true rfl) (Nat.le_of_ble_eq_true rfl) ⟨by decide, by decide⟩ rm4) ?_
    refine e_then (e_al1 hT (y := 12) (pc := 35) (q := (yX1_become, cX1_become, 2, none, 1)) rfl (show aTab 12 35 = some (.aload_n 0, 1, 0, 0, 0, 0, 0, 0) from rfl) rfl rfl) ?_
    refine e_then (e_getR hT (y := 12) (pc := 36) (q := (yX1_become, cX1_become, 2, none, 1)) rfl (show aTab 12 36 = some (.getfield 21, 3, 0, 1, 4, 0, 0, 0) from rfl) rfl (by decide) (by decide) tm4 rfl rfl) ?_
    refine e_then (e_al1 hT (y := 12) (pc := 39) (q := (yX1_become, cX1_become, 2, none, 1)) rfl (show aTab 12 39 = some (.aload_n 1, 1, 0, 0, 0, 0, 0, 0) from rfl) rfl rfl) ?_
    refine e_then (e_getR hT (y := 12) (pc := 40) (q := (yX1_become, cX1_become, 2, none, 1)) rfl (show aTab 12 40 = some (.getfield 21, 3, 0, 1, 4, 0, 0, 0) from rfl) rfl (by decide) (by decide) tm4 rfl rfl) ?_
    obtain ⟨m5, ⟨Km5, rm5⟩, tm5, em5⟩ := kp_X4_become hT tm4 em4 (d := 19) (by decide)
    refine e_then (e_call hT (y := 12) (pc := 43) (q := (yX1_become, cX1_become, 2, none, 1)) rfl (show aTab 12 43 = some (.invokevirtual 91, 3, 1, 69, 0, 1, 2, 4) from rfl) rfl ⟨by decide, Nat.le_of_ble_eq_true rfl⟩ (ob_at tm4 (rfl : tTy 64 = some (.inr (4, _)))).choose_spec (Nat.le_of_ble_eq_true rfl) (Nat.le_of_ble_eq_true rfl) ⟨by decide, by decide⟩ rm5) ?_
    refine e_then (e_al1 hT (y := 12) (pc := 46) (q := (yX1_become, cX1_become, 2, none, 1)) rfl (show aTab 12 46 = some (.aload_n 0, 1, 0, 0, 0, 0, 0, 0) from rfl) rfl rfl) ?_
    refine e_then (e_getR hT (y := 12) (pc := 47) (q := (yX1_become, cX1_become, 2, none, 1)) rfl (show aTab 12 47 = some (.getfield 28, 3, 0, 1, 5, 0, 0, 0) from rfl) rfl (by decide) (by decide) tm5 rfl rfl) ?_
    refine e_then (e_al1 hT (y := 12) (pc := 50) (q := (yX1_become, cX1_become, 2, none, 1)) rfl (show aTab 12 50 = some (.aload_n 1, 1, 0, 0, 0, 0, 0, 0) from rfl) rfl rfl) ?_
    refine e_then (e_getR hT (y := 12) (pc := 51) (q := (yX1_become, cX1_become, 2, none, 1)) rfl (show aTab 12 51 = some (.getfield 28, 3, 0, 1, 5, 0, 0, 0) from rfl) rfl (by decide) (by decide) tm5 rfl rfl) ?_
    obtain ⟨m6, ⟨Km6, rm6⟩, tm6, em6⟩ := kp_X6_become hT tm5 em5 (d := 19) (by decide)
    refine e_then (e_call hT (y := 12) (pc := 54) (q := (yX1_become, cX1_become, 2, none, 1)) rfl (show aTab 12 54 = some (.invokevirtual 94, 3, 1, 131, 0, 1, 2, 6) from rfl) rfl ⟨by decide, Nat.le_of_ble_eq_true rfl⟩ (ob_at tm5 (rfl : tTy 77 = some (.inr (6, _)))).choose_spec (Nat.le_of_ble_eq_true rfl) (Nat.le_of_ble_eq_true rfl) ⟨by decide, by decide⟩ rm6) ?_
    refine e_then (e_al1 hT (y := 12) (pc := 57) (q := (yX1_become, cX1_become, 2, none, 1)) rfl (show aTab 12 57 = some (.aload_n 0, 1, 0, 0, 0, 0, 0, 0) from rfl) rfl rfl) ?_
    refine e_then (e_getR hT (y := 12) (pc := 58) (q := (yX1_become, cX1_become, 2, none, 1)) rfl (show aTab 12 58 = some (.getfield 35, 3, 0, 1, 6, 0, 0, 0) from rfl) rfl (by decide) (by decide) tm6 rfl rfl) ?_
    refine e_then (e_al1 hT (y := 12) (pc := 61) (q := (yX1_become, cX1_become, 2, none, 1)) rfl (show aTab 12 61 = some (.aload_n 1, 1, 0, 0, 0, 0, 0, 0) from rfl) rfl rfl) ?_
    refine e_then (e_getR hT (y := 12) (pc := 62) (q := (yX1_become, cX1_become, 2, none, 1)) rfl (show aTab 12 62 = some (.getfield 35, 3, 0, 1, 6, 0, 0, 0) from rfl) rfl (by decide) (by decide) tm6 rfl rfl) ?_
    obtain ⟨m7, ⟨Km7, rm7⟩, tm7, em7⟩ := kp_X9_become hT tm6 em6 (d := 19) (by decide)
    refine e_then (e_call hT (y := 12) (pc := 65) (q := (yX1_become, cX1_become, 2, none, 1)) rfl (show aTab 12 65 = some (.invokevirtual 97, 3, 1, 164, 0, 1, 2, 9) from rfl) rfl ⟨by decide, Nat.le_of_ble_eq_true rfl⟩ (ob_at tm6 (rfl : tTy 81 = some (.inr (9, _)))).choose_spec (Nat.le_of_ble_eq_true rfl) (Nat.le_of_ble_eq_true rfl) ⟨by decide, by decide⟩ rm7) ?_
    refine e_then (e_al1 hT (y := 12) (pc := 68) (q := (yX1_become, cX1_become, 2, none, 1)) rfl (show aTab 12 68 = some (.aload_n 0, 1, 0, 0, 0, 0, 0, 0) from rfl) rfl rfl) ?_
    refine e_then (e_getR hT (y := 12) (pc := 69) (q := (yX1_become, cX1_become, 2, none, 1)) rfl (show aTab 12 69 = some (.getfield 42, 3, 0, 1, 7, 0, 0, 0) from rfl) rfl (by decide) (by decide) tm7 rfl rfl) ?_
    refine e_then (e_al1 hT (y := 12) (pc := 72) (q := (yX1_become, cX1_become, 2, none, 1)) rfl (show aTab 12 72 = some (.aload_n 1, 1, 0, 0, 0, 0, 0, 0) from rfl) rfl rfl) ?_
    refine e_then (e_getR hT (y := 12) (pc := 73) (q := (yX1_become, cX1_become, 2, none, 1)) rfl (show aTab 12 73 = some (.getfield 42, 3, 0, 1, 7, 0, 0, 0) from rfl) rfl (by decide) (by decide) tm7 rfl rfl) ?_
    obtain ⟨m8, ⟨Km8, rm8⟩, tm8, em8⟩ := kp_X10_become hT tm7 em7 (d := 19) (by decide)
    refine e_then (e_call hT (y := 12) (pc := 76) (q := (yX1_become, cX1_become, 2, none, 1)) rfl (show aTab 12 76 = some (.invokevirtual 100, 3, 1, 174, 0, 1, 2, 10) from rfl) rfl ⟨by decide, Nat.le_of_ble_eq_true rfl⟩ (ob_at tm7 (rfl : tTy 89 = some (.inr (10, _)))).choose_spec (Nat.le_of_ble_eq_true rfl) (Nat.le_of_ble_eq_true rfl) ⟨by decide, by decide⟩ rm8) ?_
    refine e_then (e_al1 hT (y := 12) (pc := 79) (q := (yX1_become, cX1_become, 2, none, 1)) rfl (show aTab 12 79 = some (.aload_n 0, 1, 0, 0, 0, 0, 0, 0) from rfl) rfl rfl) ?_
    refine e_then (e_getR hT (y := 12) (pc := 80) (q := (yX1_become, cX1_become, 2, none, 1)) rfl (show aTab 12 80 = some (.getfield 49, 3, 0, 1, 8, 0, 0, 0) from rfl) rfl (by decide) (by decide) tm8 rfl rfl) ?_
    refine e_then (e_al1 hT (y := 12) (pc := 83) (q := (yX1_become, cX1_become, 2, none, 1)) rfl (show aTab 12 83 = some (.aload_n 1, 1, 0, 0, 0, 0, 0, 0) from rfl) rfl rfl) ?_
    refine e_then (e_getR hT (y := 12) (pc := 84) (q := (yX1_become, cX1_become, 2, none, 1)) rfl (show aTab 12 84 = some (.getfield 49, 3, 0, 1, 8, 0, 0, 0) from rfl) rfl (by decide) (by decide) tm8 rfl rfl) ?_
    obtain ⟨m9, ⟨Km9, rm9⟩, tm9, em9⟩ := kp_X7_become hT tm8 em8 (d := 19) (by decide)
    refine e_then (e_call hT (y := 12) (pc := 87) (q := (yX1_become, cX1_become, 2, none, 1)) rfl (show aTab 12 87 = some (.invokevirtual 103, 3, 1, 136, 0, 1, 2, 7) from rfl) rfl ⟨by decide, Nat.le_of_ble_eq_true rfl⟩ (ob_at tm8 (rfl : tTy 93 = some (.inr (7, _)))).choose_spec (Nat.le_of_ble_eq_true rfl) (Nat.le_of_ble_eq_true rfl) ⟨by decide, by decide⟩ rm9) ?_
    refine e_then (e_al1 hT (y := 12) (pc := 90) (q := (yX1_become, cX1_become, 2, none, 1)) rfl (show aTab 12 90 = some (.aload_n 0, 1, 0, 0, 0, 0, 0, 0) from rfl) rfl rfl) ?_
    refine e_then (e_getR hT (y := 12) (pc := 91) (q := (yX1_become, cX1_become, 2, none, 1)) rfl (show aTab 12 91 = some (.getfield 56, 3, 0, 1, 9, 0, 0, 0) from rfl) rfl (by decide) (by decide) tm9 rfl rfl) ?_
    refine e_then (e_al1 hT (y := 12) (pc := 94) (q := (yX1_become, cX1_become, 2, none, 1)) rfl (show aTab 12 94 = some (.aload_n 1, 1, 0, 0, 0, 0, 0, 0) from rfl) rfl rfl) ?_
    refine e_then (e_getR hT (y := 12) (pc := 95) (q := (yX1_become, cX1_become, 2, none, 1)) rfl (show aTab 12 95 = some (.getfield 56, 3, 0, 1, 9, 0, 0, 0) from rfl) rfl (by decide) (by decide) tm9 rfl rfl) ?_
    obtain ⟨m10, ⟨Km10, rm10⟩, tm10, em10⟩ := kp_X3_become hT tm9 em9 (d := 19) (by decide)
    refine e_then (e_call hT (y := 12) (pc := 98) (q := (yX1_become, cX1_become, 2, none, 1)) rfl (show aTab 12 98 = some (.invokevirtual 106, 3, 1, 60, 0, 1, 2, 3) from rfl) rfl ⟨by decide, Nat.le_of_ble_eq_true rfl⟩ (ob_at tm9 (rfl : tTy 97 = some (.inr (3, _)))).choose_spec (Nat.le_of_ble_eq_true rfl) (Nat.le_of_ble_eq_true rfl) ⟨by decide, by decide⟩ rm10) ?_
    refine e_then (e_al1 hT (y := 12) (pc := 101) (q := (yX1_become, cX1_become, 2, none, 1)) rfl (show aTab 12 101 = some (.aload_n 0, 1, 0, 0, 0, 0, 0, 0) from rfl) rfl rfl) ?_
    refine e_then (e_al1 hT (y := 12) (pc := 102) (q := (yX1_become, cX1_become, 2, none, 1)) rfl (show aTab 12 102 = some (.aload_n 1, 1, 0, 0, 0, 0, 0, 0) from rfl) rfl rfl) ?_
    refine e_then (s_getV hT (y := 12) (pc := 103) (q := (yX1_become, cX1_become, 2, none, 1)) rfl (show aTab 12 103 = some (.getfield 109, 3, 0, 1, 10, 0, 0, 0) from rfl) rfl (by decide) tm10 em10 1 rfl rfl (v := (g 1 10)) rfl) ?_
    have bd106 := (rd_obj hM (c := 1) (k := 10) rfl rfl).2
    have be106 : (g 1 10) = rdI M 1 10 := by rw [hg]
    rw [← be106] at bd106
    obtain ⟨m11, sm11, tm11, em11⟩ := s_putI (sc := none) (d := _) (lv := (lv_args 0 [.ref 63, .ref 10])) (st := []) (z := (g 1 10)) hT (y := 12) (pc := 106) (q := (yX1_become, cX1_become, 2, none, 1)) rfl (show aTab 12 106 = some (.putfield 109, 3, 0, 1, 10, 0, 0, 0) from rfl) rfl rfl ⟨by decide, rfl, rfl⟩ tm10 em10 54 rfl rfl bd106 (kn := 10) rfl
    refine e_then sm11 ?_
    refine e_then (e_al1 hT (y := 12) (pc := 109) (q := (yX1_become, cX1_become, 2, none, 1)) rfl (show aTab 12 109 = some (.aload_n 1, 1, 0, 0, 0, 0, 0, 0) from rfl) rfl rfl) ?_
    refine e_then (e_getR hT (y := 12) (pc := 110) (q := (yX1_become, cX1_become, 2, none, 1)) rfl (show aTab 12 110 = some (.getfield 60, 3, 0, 1, 11, 0, 0, 0) from rfl) rfl (by decide) (by decide) tm11 rfl rfl) ?_
    refine e_then (e_al1 hT (y := 12) (pc := 113) (q := (yX1_become, cX1_become, 2, none, 1)) rfl (show aTab 12 113 = some (.aload_n 0, 1, 0, 0, 0, 0, 0, 0) from rfl) rfl rfl) ?_
    refine e_then (e_getR hT (y := 12) (pc := 114) (q := (yX1_become, cX1_become, 2, none, 1)) rfl (show aTab 12 114 = some (.getfield 60, 3, 0, 1, 11, 0, 0, 0) from rfl) rfl (by decide) (by decide) tm11 rfl rfl) ?_
    obtain ⟨m12, ⟨Km12, rm12⟩, tm12, em12⟩ := s_copy hT (a := 49) (b := 102) (L := 8) (by decide) rfl rfl (by decide) tm11 em11 (d := 19) (by decide)
    refine e_then (e_callsN hT (y := 12) (pc := 117) (q := (yX1_become, cX1_become, 2, none, 1)) rfl (show aTab 12 117 = some (.invokestatic 112, 3, 3, 237, 0, 2, 4, 11) from rfl) (Nat.le_of_ble_eq_true rfl) (Nat.le_of_ble_eq_true rfl) (Nat.le_of_ble_eq_true rfl) ⟨by decide, by decide⟩ rm12) ?_
    refine e_then (e_al1 hT (y := 12) (pc := 120) (q := (yX1_become, cX1_become, 2, none, 1)) rfl (show aTab 12 120 = some (.aload_n 1, 1, 0, 0, 0, 0, 0, 0) from rfl) rfl rfl) ?_
    refine e_then (e_getR hT (y := 12) (pc := 121) (q := (yX1_become, cX1_become, 2, none, 1)) rfl (show aTab 12 121 = some (.getfield 64, 3, 0, 1, 12, 0, 0, 0) from rfl) rfl (by decide) (by decide) tm12 rfl rfl) ?_
    refine e_then (e_al1 hT (y := 12) (pc := 124) (q := (yX1_become, cX1_become, 2, none, 1)) rfl (show aTab 12 124 = some (.aload_n 0, 1, 0, 0, 0, 0, 0, 0) from rfl) rfl rfl) ?_
    refine e_then (e_getR hT (y := 12) (pc := 125) (q := (yX1_become, cX1_become, 2, none, 1)) rfl (show aTab 12 125 = some (.getfield 64, 3, 0, 1, 12, 0, 0, 0) from rfl) rfl (by decide) (by decide) tm12 rfl rfl) ?_
    obtain ⟨m13, ⟨Km13, rm13⟩, tm13, em13⟩ := s_copy hT (a := 50) (b := 103) (L := 8) (by decide) rfl rfl (by decide) tm12 em12 (d := 19) (by decide)
    refine e_then (e_callsN hT (y := 12) (pc := 128) (q := (yX1_become, cX1_become, 2, none, 1)) rfl (show aTab 12 128 = some (.invokestatic 112, 3, 3, 237, 0, 2, 4, 11) from rfl) (Nat.le_of_ble_eq_true rfl) (Nat.le_of_ble_eq_true rfl) (Nat.le_of_ble_eq_true rfl) ⟨by decide, by decide⟩ rm13) ?_
    exact e_fin (e_vret hT (y := 12) (pc := 131) (q := (yX1_become, cX1_become, 2, none, 1)) rfl (show aTab 12 131 = some (.return_, 1, 0, 0, 0, 0, 0, 0) from rfl) ⟨rfl, rfl⟩) ⟨rfl, tm13, em13⟩
  obtain ⟨K, r, M', q1, rfl, q2, q3⟩ := go
  exact ⟨M', ⟨K, mRun_dm q1 hd⟩, q2, q3⟩
def gbk_X2_become (g : Nat → Nat → Int32) : Nat → Nat → Int32 := (cpy (cpy (cpy (up2 (cpy (cpy (cpy (cpy (cpy (up2 g 2 0 (g 55 0)) 56 3) 57 4) 58 5) 59 6) 60 7) 2 6 (g 55 6)) 61 8) 62 9) 63 10)
theorem bk_X2_become (hT : aTabOk) {M : mHe} (hM : yTy M) {g : Nat → Nat → Int32} (hg : rdI M = g) {d : Nat} (hd : 10 ≤ d) : ∃ M', (∃ K, mRun none K d (39, 0, lv_args 0 [.ref 11, .ref 64], []) M = some (none, M')) ∧ yTy M' ∧ rdI M' = gbk_X2_become g := by
  have go : mEv none 10 (39, 0, lv_args 0 [.ref 11, .ref 64], []) M (fun r M' => r = none ∧ yTy M' ∧ rdI M' = gbk_X2_become g) := by
    refine e_then (e_al1 hT (y := 39) (pc := 0) (q := (yX2_become, cX2_become, 2, none, 2)) rfl (show aTab 39 0 = some (.aload_n 0, 1, 0, 0, 0, 0, 0, 0) from rfl) rfl rfl) ?_
    refine e_then (e_al1 hT (y := 39) (pc := 1) (q := (yX2_become, cX2_become, 2, none, 2)) rfl (show aTab 39 1 = some (.aload_n 1, 1, 0, 0, 0, 0, 0, 0) from rfl) rfl rfl) ?_
    refine e_then (s_getV hT (y := 39) (pc := 2) (q := (yX2_become, cX2_become, 2, none, 2)) rfl (show aTab 39 2 = some (.getfield 36, 3, 0, 2, 0, 0, 0, 0) from rfl) rfl (by decide) hM hg 55 rfl rfl (v := (g 55 0)) rfl) ?_
    have bd5 := (rd_obj hM (c := 55) (k := 0) rfl rfl).2
    have be5 : (g 55 0) = rdI M 55 0 := by rw [hg]
    rw [← be5] at bd5
    obtain ⟨m1, sm1, tm1, em1⟩ := s_putI (sc := none) (d := _) (lv := (lv_args 0 [.ref 11, .ref 64])) (st := []) (z := (g 55 0)) hT (y := 39) (pc := 5) (q := (yX2_become, cX2_become, 2, none, 2)) rfl (show aTab 39 5 = some (.putfield 36, 3, 0, 2, 0, 0, 0, 0) from rfl) rfl rfl ⟨by decide, rfl, rfl⟩ hM hg 2 rfl rfl bd5 (kn := 0) rfl
    refine e_then sm1 ?_
    refine e_then (e_al1 hT (y := 39) (pc := 8) (q := (yX2_become, cX2_become, 2, none, 2)) rfl (show aTab 39 8 = some (.aload_n 1, 1, 0, 0, 0, 0, 0, 0) from rfl) rfl rfl) ?_
    refine e_then (e_getR hT (y := 39) (pc := 9) (q := (yX2_become, cX2_become, 2, none, 2)) rfl (show aTab 39 9 = some (.getfield 9, 3, 0, 2, 1, 0, 0, 0) from rfl) rfl (by decide) (by decide) tm1 rfl rfl) ?_
    refine e_then (e_al1 hT (y := 39) (pc := 12) (q := (yX2_become, cX2_become, 2, none, 2)) rfl (show aTab 39 12 = some (.aload_n 0, 1, 0, 0, 0, 0, 0, 0) from rfl) rfl rfl) ?_
    refine e_then (e_getR hT (y := 39) (pc := 13) (q := (yX2_become, cX2_become, 2, none, 2)) rfl (show aTab 39 13 = some (.getfield 9, 3, 0, 2, 1, 0, 0, 0) from rfl) rfl (by decide) (by decide) tm1 rfl rfl) ?_
    obtain ⟨m2, ⟨Km2, rm2⟩, tm2, em2⟩ := s_copy hT (a := 56) (b := 3) (L := 20) (by decide) rfl rfl (by decide) tm1 em1 (d := 9) (by decide)
    refine e_then (e_callsN hT (y := 39) (pc := 16) (q := (yX2_become, cX2_become, 2, none, 2)) rfl (show aTab 39 16 = some (.invokestatic 40, 3, 3, 237, 0, 2, 4, 11) from rfl) (Nat.le_of_ble_eq_true rfl) (Nat.le_of_ble_eq_true rfl) (Nat.le_of_ble_eq_true rfl) ⟨by decide, by decide⟩ rm2) ?_
    refine e_then (e_al1 hT (y := 39) (pc := 19) (q := (yX2_become, cX2_become, 2, none, 2)) rfl (show aTab 39 19 = some (.aload_n 1, 1, 0, 0, 0, 0, 0, 0) from rfl) rfl rfl) ?_
    refine e_then (e_getR hT (y := 39) (pc := 20) (q := (yX2_become, cX2_become, 2, none, 2)) rfl (show aTab 39 20 = some (.getfield 15, 3, 0, 2, 2, 0, 0, 0) from rfl) rfl (by decide) (by decide) tm2 rfl rfl) ?_
    refine e_then (e_al1 hT (y := 39) (pc := 23) (q := (yX2_become, cX2_become, 2, none, 2)) rfl (show aTab 39 23 = some (.aload_n 0, 1, 0, 0, 0, 0, 0, 0) from rfl) rfl rfl) ?_
    refine e_then (e_getR hT (y := 39) (pc := 24) (q := (yX2_become, cX2_become, 2, none, 2)) rfl (show aTab 39 24 = some (.getfield 15, 3, 0, 2, 2, 0, 0, 0) from rfl) rfl (by decide) (by decide) tm2 rfl rfl) ?_
    obtain ⟨m3, ⟨Km3, rm3⟩, tm3, em3⟩ := s_copy hT (a := 57) (b := 4) (L := 20) (by decide) rfl rfl (by decide) tm2 em2 (d := 9) (by decide)
    refine e_then (e_callsN hT (y := 39) (pc := 27) (q := (yX2_become, cX2_become, 2, none, 2)) rfl (show aTab 39 27 = some (.invokestatic 40, 3, 3, 237, 0, 2, 4, 11) from rfl) (Nat.le_of_ble_eq_true rfl) (Nat.le_of_ble_eq_true rfl) (Nat.le_of_ble_eq_true rfl) ⟨by decide, by decide⟩ rm3) ?_
    refine e_then (e_al1 hT (y := 39) (pc := 30) (q := (yX2_become, cX2_become, 2, none, 2)) rfl (show aTab 39 30 = some (.aload_n 1, 1, 0, 0, 0, 0, 0, 0) from rfl) rfl rfl) ?_
    refine e_then (e_getR hT (y := 39) (pc := 31) (q := (yX2_become, cX2_become, 2, none, 2)) rfl (show aTab 39 31 = some (.getfield 18, 3, 0, 2, 3, 0, 0, 0) from rfl) rfl (by decide) (by decide) tm3 rfl rfl) ?_
    refine e_then (e_al1 hT (y := 39) (pc := 34) (q := (yX2_become, cX2_become, 2, none, 2)) rfl (show aTab 39 34 = some (.aload_n 0, 1, 0, 0, 0, 0, 0, 0) from rfl) rfl rfl) ?_
    refine e_then (e_getR hT (y := 39) (pc := 35) (q := (yX2_become, cX2_become, 2, none, 2)) rfl (show aTab 39 35 = some (.getfield 18, 3, 0, 2, 3, 0, 0, 0) from rfl) rfl (by decide) (by decide) tm3 rfl rfl) ?_
    obtain ⟨m4, ⟨Km4, rm4⟩, tm4, em4⟩ := s_copy hT (a := 58) (b := 5) (L := 20) (by decide) rfl rfl (by decide) tm3 em3 (d := 9) (by decide)
    refine e_then (e_callsN hT (y := 39) (pc := 38) (q := (yX2_become, cX2_become, 2, none, 2)) rfl (show aTab 39 38 = some (.invokestatic 40, 3, 3, 237, 0, 2, 4, 11) from rfl) (Nat.le_of_ble_eq_true rfl) (Nat.le_of_ble_eq_true rfl) (Nat.le_of_ble_eq_true rfl) ⟨by decide, by decide⟩ rm4) ?_
    refine e_then (e_al1 hT (y := 39) (pc := 41) (q := (yX2_become, cX2_become, 2, none, 2)) rfl (show aTab 39 41 = some (.aload_n 1, 1, 0, 0, 0, 0, 0, 0) from rfl) rfl rfl) ?_
    refine e_then (e_getR hT (y := 39) (pc := 42) (q := (yX2_become, cX2_become, 2, none, 2)) rfl (show aTab 39 42 = some (.getfield 21, 3, 0, 2, 4, 0, 0, 0) from rfl) rfl (by decide) (by decide) tm4 rfl rfl) ?_
    refine e_then (e_al1 hT (y := 39) (pc := 45) (q := (yX2_become, cX2_become, 2, none, 2)) rfl (show aTab 39 45 = some (.aload_n 0, 1, 0, 0, 0, 0, 0, 0) from rfl) rfl rfl) ?_
    refine e_then (e_getR hT (y := 39) (pc := 46) (q := (yX2_become, cX2_become, 2, none, 2)) rfl (show aTab 39 46 = some (.getfield 21, 3, 0, 2, 4, 0, 0, 0) from rfl) rfl (by decide) (by decide) tm4 rfl rfl) ?_
    obtain ⟨m5, ⟨Km5, rm5⟩, tm5, em5⟩ := s_copy hT (a := 59) (b := 6) (L := 20) (by decide) rfl rfl (by decide) tm4 em4 (d := 9) (by decide)
    refine e_then (e_callsN hT (y := 39) (pc := 49) (q := (yX2_become, cX2_become, 2, none, 2)) rfl (show aTab 39 49 = some (.invokestatic 40, 3, 3, 237, 0, 2, 4, 11) from rfl) (Nat.le_of_ble_eq_true rfl) (Nat.le_of_ble_eq_true rfl) (Nat.le_of_ble_eq_true rfl) ⟨by decide, by decide⟩ rm5) ?_
    refine e_then (e_al1 hT (y := 39) (pc := 52) (q := (yX2_become, cX2_become, 2, none, 2)) rfl (show aTab 39 52 = some (.aload_n 1, 1, 0, 0, 0, 0, 0, 0) from rfl) rfl rfl) ?_
    refine e_then (e_getR hT (y := 39) (pc := 53) (q := (yX2_become, cX2_become, 2, none, 2)) rfl (show aTab 39 53 = some (.getfield 24, 3, 0, 2, 5, 0, 0, 0) from rfl) rfl (by decide) (by decide) tm5 rfl rfl) ?_
    refine e_then (e_al1 hT (y := 39) (pc := 56) (q := (yX2_become, cX2_become, 2, none, 2)) rfl (show aTab 39 56 = some (.aload_n 0, 1, 0, 0, 0, 0, 0, 0) from rfl) rfl rfl) ?_
    refine e_then (e_getR hT (y := 39) (pc := 57) (q := (yX2_become, cX2_become, 2, none, 2)) rfl (show aTab 39 57 = some (.getfield 24, 3, 0, 2, 5, 0, 0, 0) from rfl) rfl (by decide) (by decide) tm5 rfl rfl) ?_
    obtain ⟨m6, ⟨Km6, rm6⟩, tm6, em6⟩ := s_copy hT (a := 60) (b := 7) (L := 20) (by decide) rfl rfl (by decide) tm5 em5 (d := 9) (by decide)
    refine e_then (e_callsN hT (y := 39) (pc := 60) (q := (yX2_become, cX2_become, 2, none, 2)) rfl (show aTab 39 60 = some (.invokestatic 40, 3, 3, 237, 0, 2, 4, 11) from rfl) (Nat.le_of_ble_eq_true rfl) (Nat.le_of_ble_eq_true rfl) (Nat.le_of_ble_eq_true rfl) ⟨by decide, by decide⟩ rm6) ?_
    refine e_then (e_al1 hT (y := 39) (pc := 63) (q := (yX2_become, cX2_become, 2, none, 2)) rfl (show aTab 39 63 = some (.aload_n 0, 1, 0, 0, 0, 0, 0, 0) from rfl) rfl rfl) ?_
    refine e_then (e_al1 hT (y := 39) (pc := 64) (q := (yX2_become, cX2_become, 2, none, 2)) rfl (show aTab 39 64 = some (.aload_n 1, 1, 0, 0, 0, 0, 0, 0) from rfl) rfl rfl) ?_
    refine e_then (s_getV hT (y := 39) (pc := 65) (q := (yX2_become, cX2_become, 2, none, 2)) rfl (show aTab 39 65 = some (.getfield 44, 3, 0, 2, 6, 0, 0, 0) from rfl) rfl (by decide) tm6 em6 55 rfl rfl (v := (g 55 6)) rfl) ?_
    have bd68 := (rd_obj hM (c := 55) (k := 6) rfl rfl).2
    have be68 : (g 55 6) = rdI M 55 6 := by rw [hg]
    rw [← be68] at bd68
    obtain ⟨m7, sm7, tm7, em7⟩ := s_putI (sc := none) (d := _) (lv := (lv_args 0 [.ref 11, .ref 64])) (st := []) (z := (g 55 6)) hT (y := 39) (pc := 68) (q := (yX2_become, cX2_become, 2, none, 2)) rfl (show aTab 39 68 = some (.putfield 44, 3, 0, 2, 6, 0, 0, 0) from rfl) rfl rfl ⟨by decide, rfl, rfl⟩ tm6 em6 2 rfl rfl bd68 (kn := 6) rfl
    refine e_then sm7 ?_
    refine e_then (e_al1 hT (y := 39) (pc := 71) (q := (yX2_become, cX2_become, 2, none, 2)) rfl (show aTab 39 71 = some (.aload_n 1, 1, 0, 0, 0, 0, 0, 0) from rfl) rfl rfl) ?_
    refine e_then (e_getR hT (y := 39) (pc := 72) (q := (yX2_become, cX2_become, 2, none, 2)) rfl (show aTab 39 72 = some (.getfield 27, 3, 0, 2, 7, 0, 0, 0) from rfl) rfl (by decide) (by decide) tm7 rfl rfl) ?_
    refine e_then (e_al1 hT (y := 39) (pc := 75) (q := (yX2_become, cX2_become, 2, none, 2)) rfl (show aTab 39 75 = some (.aload_n 0, 1, 0, 0, 0, 0, 0, 0) from rfl) rfl rfl) ?_
    refine e_then (e_getR hT (y := 39) (pc := 76) (q := (yX2_become, cX2_become, 2, none, 2)) rfl (show aTab 39 76 = some (.getfield 27, 3, 0, 2, 7, 0, 0, 0) from rfl) rfl (by decide) (by decide) tm7 rfl rfl) ?_
    obtain ⟨m8, ⟨Km8, rm8⟩, tm8, em8⟩ := s_copy hT (a := 61) (b := 8) (L := 10) (by decide) rfl rfl (by decide) tm7 em7 (d := 9) (by decide)
    refine e_then (e_callsN hT (y := 39) (pc := 79) (q := (yX2_become, cX2_become, 2, none, 2)) rfl (show aTab 39 79 = some (.invokestatic 40, 3, 3, 237, 0, 2, 4, 11) from rfl) (Nat.le_of_ble_eq_true rfl) (Nat.le_of_ble_eq_true rfl) (Nat.le_of_ble_eq_true rfl) ⟨by decide, by decide⟩ rm8) ?_
    refine e_then (e_al1 hT (y := 39) (pc := 82) (q := (yX2_become, cX2_become, 2, none, 2)) rfl (show aTab 39 82 = some (.aload_n 1, 1, 0, 0, 0, 0, 0, 0) from rfl) rfl rfl) ?_
    refine e_then (e_getR hT (y := 39) (pc := 83) (q := (yX2_become, cX2_become, 2, none, 2)) rfl (show aTab 39 83 = some (.getfield 30, 3, 0, 2, 8, 0, 0, 0) from rfl) rfl (by decide) (by decide) tm8 rfl rfl) ?_
    refine e_then (e_al1 hT (y := 39) (pc := 86) (q := (yX2_become, cX2_become, 2, none, 2)) rfl (show aTab 39 86 = some (.aload_n 0, 1, 0, 0, 0, 0, 0, 0) from rfl) rfl rfl) ?_
    refine e_then (e_getR hT (y := 39) (pc := 87) (q := (yX2_become, cX2_become, 2, none, 2)) rfl (show aTab 39 87 = some (.getfield 30, 3, 0, 2, 8, 0, 0, 0) from rfl) rfl (by decide) (by decide) tm8 rfl rfl) ?_
    obtain ⟨m9, ⟨Km9, rm9⟩, tm9, em9⟩ := s_copy hT (a := 62) (b := 9) (L := 10) (by decide) rfl rfl (by decide) tm8 em8 (d := 9) (by decide)
    refine e_then (e_callsN hT (y := 39) (pc := 90) (q := (yX2_become, cX2_become, 2, none, 2)) rfl (show aTab 39 90 = some (.invokestatic 40, 3, 3, 237, 0, 2, 4, 11) from rfl) (Nat.le_of_ble_eq_true rfl) (Nat.le_of_ble_eq_true rfl) (Nat.le_of_ble_eq_true rfl) ⟨by decide, by decide⟩ rm9) ?_
    refine e_then (e_al1 hT (y := 39) (pc := 93) (q := (yX2_become, cX2_become, 2, none, 2)) rfl (show aTab 39 93 = some (.aload_n 1, 1, 0, 0, 0, 0, 0, 0) from rfl) rfl rfl) ?_
    refine e_then (e_getR hT (y := 39) (pc := 94) (q := (yX2_become, cX2_become, 2, none, 2)) rfl (show aTab 39 94 = some (.getfield 33, 3, 0, 2, 9, 0, 0, 0) from rfl) rfl (by decide) (by decide) tm9 rfl rfl) ?_
    refine e_then (e_al1 hT (y := 39) (pc := 97) (q := (yX2_become, cX2_become, 2, none, 2)) rfl (show aTab 39 97 = some (.aload_n 0, 1, 0, 0, 0, 0, 0, 0) from rfl) rfl rfl) ?_
    refine e_then (e_getR hT (y := 39) (pc := 98) (q := (yX2_become, cX2_become, 2, none, 2)) rfl (show aTab 39 98 = some (.getfield 33, 3, 0, 2, 9, 0, 0, 0) from rfl) rfl (by decide) (by decide) tm9 rfl rfl) ?_
    obtain ⟨m10, ⟨Km10, rm10⟩, tm10, em10⟩ := s_copy hT (a := 63) (b := 10) (L := 10) (by decide) rfl rfl (by decide) tm9 em9 (d := 9) (by decide)
    refine e_then (e_callsN hT (y := 39) (pc := 101) (q := (yX2_become, cX2_become, 2, none, 2)) rfl (show aTab 39 101 = some (.invokestatic 40, 3, 3, 237, 0, 2, 4, 11) from rfl) (Nat.le_of_ble_eq_true rfl) (Nat.le_of_ble_eq_true rfl) (Nat.le_of_ble_eq_true rfl) ⟨by decide, by decide⟩ rm10) ?_
    exact e_fin (e_vret hT (y := 39) (pc := 104) (q := (yX2_become, cX2_become, 2, none, 2)) rfl (show aTab 39 104 = some (.return_, 1, 0, 0, 0, 0, 0, 0) from rfl) ⟨rfl, rfl⟩) ⟨rfl, tm10, em10⟩
  obtain ⟨K, r, M', q1, rfl, q2, q3⟩ := go
  exact ⟨M', ⟨K, mRun_dm q1 hd⟩, q2, q3⟩
def gbk_X4_become (g : Nat → Nat → Int32) : Nat → Nat → Int32 := (cpy (cpy (cpy (cpy (cpy (cpy (cpy (cpy (cpy (cpy (cpy (up2 g 11 0 (g 64 0)) 65 12) 66 13) 67 14) 68 15) 69 16) 70 17) 71 18) 72 19) 73 20) 74 21) 75 22)
theorem bk_X4_become (hT : aTabOk) {M : mHe} (hM : yTy M) {g : Nat → Nat → Int32} (hg : rdI M = g) {d : Nat} (hd : 10 ≤ d) : ∃ M', (∃ K, mRun none K d (69, 0, lv_args 0 [.ref 20, .ref 73], []) M = some (none, M')) ∧ yTy M' ∧ rdI M' = gbk_X4_become g := by
  have go : mEv none 10 (69, 0, lv_args 0 [.ref 20, .ref 73], []) M (fun r M' => r = none ∧ yTy M' ∧ rdI M' = gbk_X4_become g) := by
    refine e_then (e_al1 hT (y := 69) (pc := 0) (q := (yX4_become, cX4_become, 2, none, 4)) rfl (show aTab 69 0 = some (.aload_n 0, 1, 0, 0, 0, 0, 0, 0) from rfl) rfl rfl) ?_
    refine e_then (e_al1 hT (y := 69) (pc := 1) (q := (yX4_become, cX4_become, 2, none, 4)) rfl (show aTab 69 1 = some (.aload_n 1, 1, 0, 0, 0, 0, 0, 0) from rfl) rfl rfl) ?_
    refine e_then (s_getV hT (y := 69) (pc := 2) (q := (yX4_become, cX4_become, 2, none, 4)) rfl (show aTab 69 2 = some (.getfield 48, 3, 0, 4, 0, 0, 0, 0) from rfl) rfl (by decide) hM hg 64 rfl rfl (v := (g 64 0)) rfl) ?_
    have bd5 := (rd_obj hM (c := 64) (k := 0) rfl rfl).2
    have be5 : (g 64 0) = rdI M 64 0 := by rw [hg]
    rw [← be5] at bd5
    obtain ⟨m1, sm1, tm1, em1⟩ := s_putI (sc := none) (d := _) (lv := (lv_args 0 [.ref 20, .ref 73])) (st := []) (z := (g 64 0)) hT (y := 69) (pc := 5) (q := (yX4_become, cX4_become, 2, none, 4)) rfl (show aTab 69 5 = some (.putfield 48, 3, 0, 4, 0, 0, 0, 0) from rfl) rfl rfl ⟨by decide, rfl, rfl⟩ hM hg 11 rfl rfl bd5 (kn := 0) rfl
    refine e_then sm1 ?_
    refine e_then (e_al1 hT (y := 69) (pc := 8) (q := (yX4_become, cX4_become, 2, none, 4)) rfl (show aTab 69 8 = some (.aload_n 1, 1, 0, 0, 0, 0, 0, 0) from rfl) rfl rfl) ?_
    refine e_then (e_getR hT (y := 69) (pc := 9) (q := (yX4_become, cX4_become, 2, none, 4)) rfl (show aTab 69 9 = some (.getfield 9, 3, 0, 4, 1, 0, 0, 0) from rfl) rfl (by decide) (by decide) tm1 rfl rfl) ?_
    refine e_then (e_al1 hT (y := 69) (pc := 12) (q := (yX4_become, cX4_become, 2, none, 4)) rfl (show aTab 69 12 = some (.aload_n 0, 1, 0, 0, 0, 0, 0, 0) from rfl) rfl rfl) ?_
    refine e_then (e_getR hT (y := 69) (pc := 13) (q := (yX4_become, cX4_become, 2, none, 4)) rfl (show aTab 69 13 = some (.getfield 9, 3, 0, 4, 1, 0, 0, 0) from rfl) rfl (by decide) (by decide) tm1 rfl rfl) ?_
    obtain ⟨m2, ⟨Km2, rm2⟩, tm2, em2⟩ := s_copy hT (a := 65) (b := 12) (L := 40) (by decide) rfl rfl (by decide) tm1 em1 (d := 9) (by decide)
    refine e_then (e_callsN hT (y := 69) (pc := 16) (q := (yX4_become, cX4_become, 2, none, 4)) rfl (show aTab 69 16 = some (.invokestatic 52, 3, 3, 237, 0, 2, 4, 11) from rfl) (Nat.le_of_ble_eq_true rfl) (Nat.le_of_ble_eq_true rfl) (Nat.le_of_ble_eq_true rfl) ⟨by decide, by decide⟩ rm2) ?_
    refine e_then (e_al1 hT (y := 69) (pc := 19) (q := (yX4_become, cX4_become, 2, none, 4)) rfl (show aTab 69 19 = some (.aload_n 1, 1, 0, 0, 0, 0, 0, 0) from rfl) rfl rfl) ?_
    refine e_then (e_getR hT (y := 69) (pc := 20) (q := (yX4_become, cX4_become, 2, none, 4)) rfl (show aTab 69 20 = some (.getfield 15, 3, 0, 4, 2, 0, 0, 0) from rfl) rfl (by decide) (by decide) tm2 rfl rfl) ?_
    refine e_then (e_al1 hT (y := 69) (pc := 23) (q := (yX4_become, cX4_become, 2, none, 4)) rfl (show aTab 69 23 = some (.aload_n 0, 1, 0, 0, 0, 0, 0, 0) from rfl) rfl rfl) ?_
    refine e_then (e_getR hT (y := 69) (pc := 24) (q := (yX4_become, cX4_become, 2, none, 4)) rfl (show aTab 69 24 = some (.getfield 15, 3, 0, 4, 2, 0, 0, 0) from rfl) rfl (by decide) (by decide) tm2 rfl rfl) ?_
    obtain ⟨m3, ⟨Km3, rm3⟩, tm3, em3⟩ := s_copy hT (a := 66) (b := 13) (L := 40) (by decide) rfl rfl (by decide) tm2 em2 (d := 9) (by decide)
    refine e_then (e_callsN hT (y := 69) (pc := 27) (q := (yX4_become, cX4_become, 2, none, 4)) rfl (show aTab 69 27 = some (.invokestatic 52, 3, 3, 237, 0, 2, 4, 11) from rfl) (Nat.le_of_ble_eq_true rfl) (Nat.le_of_ble_eq_true rfl) (Nat.le_of_ble_eq_true rfl) ⟨by decide, by decide⟩ rm3) ?_
    refine e_then (e_al1 hT (y := 69) (pc := 30) (q := (yX4_become, cX4_become, 2, none, 4)) rfl (show aTab 69 30 = some (.aload_n 1, 1, 0, 0, 0, 0, 0, 0) from rfl) rfl rfl) ?_
    refine e_then (e_getR hT (y := 69) (pc := 31) (q := (yX4_become, cX4_become, 2, none, 4)) rfl (show aTab 69 31 = some (.getfield 18, 3, 0, 4, 3, 0, 0, 0) from rfl) rfl (by decide) (by decide) tm3 rfl rfl) ?_
    refine e_then (e_al1 hT (y := 69) (pc := 34) (q := (yX4_become, cX4_become, 2, none, 4)) rfl (show aTab 69 34 = some (.aload_n 0, 1, 0, 0, 0, 0, 0, 0) from rfl) rfl rfl) ?_
    refine e_then (e_getR hT (y := 69) (pc := 35) (q := (yX4_become, cX4_become, 2, none, 4)) rfl (show aTab 69 35 = some (.getfield 18, 3, 0, 4, 3, 0, 0, 0) from rfl) rfl (by decide) (by decide) tm3 rfl rfl) ?_
    obtain ⟨m4, ⟨Km4, rm4⟩, tm4, em4⟩ := s_copy hT (a := 67) (b := 14) (L := 40) (by decide) rfl rfl (by decide) tm3 em3 (d := 9) (by decide)
    refine e_then (e_callsN hT (y := 69) (pc := 38) (q := (yX4_become, cX4_become, 2, none, 4)) rfl (show aTab 69 38 = some (.invokestatic 52, 3, 3, 237, 0, 2, 4, 11) from rfl) (Nat.le_of_ble_eq_true rfl) (Nat.le_of_ble_eq_true rfl) (Nat.le_of_ble_eq_true rfl) ⟨by decide, by decide⟩ rm4) ?_
    refine e_then (e_al1 hT (y := 69) (pc := 41) (q := (yX4_become, cX4_become, 2, none, 4)) rfl (show aTab 69 41 = some (.aload_n 1, 1, 0, 0, 0, 0, 0, 0) from rfl) rfl rfl) ?_
    refine e_then (e_getR hT (y := 69) (pc := 42) (q := (yX4_become, cX4_become, 2, none, 4)) rfl (show aTab 69 42 = some (.getfield 21, 3, 0, 4, 4, 0, 0, 0) from rfl) rfl (by decide) (by decide) tm4 rfl rfl) ?_
    refine e_then (e_al1 hT (y := 69) (pc := 45) (q := (yX4_become, cX4_become, 2, none, 4)) rfl (show aTab 69 45 = some (.aload_n 0, 1, 0, 0, 0, 0, 0, 0) from rfl) rfl rfl) ?_
    refine e_then (e_getR hT (y := 69) (pc := 46) (q := (yX4_become, cX4_become, 2, none, 4)) rfl (show aTab 69 46 = some (.getfield 21, 3, 0, 4, 4, 0, 0, 0) from rfl) rfl (by decide) (by decide) tm4 rfl rfl) ?_
    obtain ⟨m5, ⟨Km5, rm5⟩, tm5, em5⟩ := s_copy hT (a := 68) (b := 15) (L := 40) (by decide) rfl rfl (by decide) tm4 em4 (d := 9) (by decide)
    refine e_then (e_callsN hT (y := 69) (pc := 49) (q := (yX4_become, cX4_become, 2, none, 4)) rfl (show aTab 69 49 = some (.invokestatic 52, 3, 3, 237, 0, 2, 4, 11) from rfl) (Nat.le_of_ble_eq_true rfl) (Nat.le_of_ble_eq_true rfl) (Nat.le_of_ble_eq_true rfl) ⟨by decide, by decide⟩ rm5) ?_
    refine e_then (e_al1 hT (y := 69) (pc := 52) (q := (yX4_become, cX4_become, 2, none, 4)) rfl (show aTab 69 52 = some (.aload_n 1, 1, 0, 0, 0, 0, 0, 0) from rfl) rfl rfl) ?_
    refine e_then (e_getR hT (y := 69) (pc := 53) (q := (yX4_become, cX4_become, 2, none, 4)) rfl (show aTab 69 53 = some (.getfield 24, 3, 0, 4, 5, 0, 0, 0) from rfl) rfl (by decide) (by decide) tm5 rfl rfl) ?_
    refine e_then (e_al1 hT (y := 69) (pc := 56) (q := (yX4_become, cX4_become, 2, none, 4)) rfl (show aTab 69 56 = some (.aload_n 0, 1, 0, 0, 0, 0, 0, 0) from rfl) rfl rfl) ?_
    refine e_then (e_getR hT (y := 69) (pc := 57) (q := (yX4_become, cX4_become, 2, none, 4)) rfl (show aTab 69 57 = some (.getfield 24, 3, 0, 4, 5, 0, 0, 0) from rfl) rfl (by decide) (by decide) tm5 rfl rfl) ?_
    obtain ⟨m6, ⟨Km6, rm6⟩, tm6, em6⟩ := s_copy hT (a := 69) (b := 16) (L := 40) (by decide) rfl rfl (by decide) tm5 em5 (d := 9) (by decide)
    refine e_then (e_callsN hT (y := 69) (pc := 60) (q := (yX4_become, cX4_become, 2, none, 4)) rfl (show aTab 69 60 = some (.invokestatic 52, 3, 3, 237, 0, 2, 4, 11) from rfl) (Nat.le_of_ble_eq_true rfl) (Nat.le_of_ble_eq_true rfl) (Nat.le_of_ble_eq_true rfl) ⟨by decide, by decide⟩ rm6) ?_
    refine e_then (e_al1 hT (y := 69) (pc := 63) (q := (yX4_become, cX4_become, 2, none, 4)) rfl (show aTab 69 63 = some (.aload_n 1, 1, 0, 0, 0, 0, 0, 0) from rfl) rfl rfl) ?_
    refine e_then (e_getR hT (y := 69) (pc := 64) (q := (yX4_become, cX4_become, 2, none, 4)) rfl (show aTab 69 64 = some (.getfield 27, 3, 0, 4, 6, 0, 0, 0) from rfl) rfl (by decide) (by decide) tm6 rfl rfl) ?_
    refine e_then (e_al1 hT (y := 69) (pc := 67) (q := (yX4_become, cX4_become, 2, none, 4)) rfl (show aTab 69 67 = some (.aload_n 0, 1, 0, 0, 0, 0, 0, 0) from rfl) rfl rfl) ?_
    refine e_then (e_getR hT (y := 69) (pc := 68) (q := (yX4_become, cX4_become, 2, none, 4)) rfl (show aTab 69 68 = some (.getfield 27, 3, 0, 4, 6, 0, 0, 0) from rfl) rfl (by decide) (by decide) tm6 rfl rfl) ?_
    obtain ⟨m7, ⟨Km7, rm7⟩, tm7, em7⟩ := s_copy hT (a := 70) (b := 17) (L := 40) (by decide) rfl rfl (by decide) tm6 em6 (d := 9) (by decide)
    refine e_then (e_callsN hT (y := 69) (pc := 71) (q := (yX4_become, cX4_become, 2, none, 4)) rfl (show aTab 69 71 = some (.invokestatic 52, 3, 3, 237, 0, 2, 4, 11) from rfl) (Nat.le_of_ble_eq_true rfl) (Nat.le_of_ble_eq_true rfl) (Nat.le_of_ble_eq_true rfl) ⟨by decide, by decide⟩ rm7) ?_
    refine e_then (e_al1 hT (y := 69) (pc := 74) (q := (yX4_become, cX4_become, 2, none, 4)) rfl (show aTab 69 74 = some (.aload_n 1, 1, 0, 0, 0, 0, 0, 0) from rfl) rfl rfl) ?_
    refine e_then (e_getR hT (y := 69) (pc := 75) (q := (yX4_become, cX4_become, 2, none, 4)) rfl (show aTab 69 75 = some (.getfield 30, 3, 0, 4, 7, 0, 0, 0) from rfl) rfl (by decide) (by decide) tm7 rfl rfl) ?_
    refine e_then (e_al1 hT (y := 69) (pc := 78) (q := (yX4_become, cX4_become, 2, none, 4)) rfl (show aTab 69 78 = some (.aload_n 0, 1, 0, 0, 0, 0, 0, 0) from rfl) rfl rfl) ?_
    refine e_then (e_getR hT (y := 69) (pc := 79) (q := (yX4_become, cX4_become, 2, none, 4)) rfl (show aTab 69 79 = some (.getfield 30, 3, 0, 4, 7, 0, 0, 0) from rfl) rfl (by decide) (by decide) tm7 rfl rfl) ?_
    obtain ⟨m8, ⟨Km8, rm8⟩, tm8, em8⟩ := s_copy hT (a := 71) (b := 18) (L := 40) (by decide) rfl rfl (by decide) tm7 em7 (d := 9) (by decide)
    refine e_then (e_callsN hT (y := 69) (pc := 82) (q := (yX4_become, cX4_become, 2, none, 4)) rfl (show aTab 69 82 = some (.invokestatic 52, 3, 3, 237, 0, 2, 4, 11) from rfl) (Nat.le_of_ble_eq_true rfl) (Nat.le_of_ble_eq_true rfl) (Nat.le_of_ble_eq_true rfl) ⟨by decide, by decide⟩ rm8) ?_
    refine e_then (e_al1 hT (y := 69) (pc := 85) (q := (yX4_become, cX4_become, 2, none, 4)) rfl (show aTab 69 85 = some (.aload_n 1, 1, 0, 0, 0, 0, 0, 0) from rfl) rfl rfl) ?_
    refine e_then (e_getR hT (y := 69) (pc := 86) (q := (yX4_become, cX4_become, 2, none, 4)) rfl (show aTab 69 86 = some (.getfield 33, 3, 0, 4, 8, 0, 0, 0) from rfl) rfl (by decide) (by decide) tm8 rfl rfl) ?_
    refine e_then (e_al1 hT (y := 69) (pc := 89) (q := (yX4_become, cX4_become, 2, none, 4)) rfl (show aTab 69 89 = some (.aload_n 0, 1, 0, 0, 0, 0, 0, 0) from rfl) rfl rfl) ?_
    refine e_then (e_getR hT (y := 69) (pc := 90) (q := (yX4_become, cX4_become, 2, none, 4)) rfl (show aTab 69 90 = some (.getfield 33, 3, 0, 4, 8, 0, 0, 0) from rfl) rfl (by decide) (by decide) tm8 rfl rfl) ?_
    obtain ⟨m9, ⟨Km9, rm9⟩, tm9, em9⟩ := s_copy hT (a := 72) (b := 19) (L := 40) (by decide) rfl rfl (by decide) tm8 em8 (d := 9) (by decide)
    refine e_then (e_callsN hT (y := 69) (pc := 93) (q := (yX4_become, cX4_become, 2, none, 4)) rfl (show aTab 69 93 = some (.invokestatic 52, 3, 3, 237, 0, 2, 4, 11) from rfl) (Nat.le_of_ble_eq_true rfl) (Nat.le_of_ble_eq_true rfl) (Nat.le_of_ble_eq_true rfl) ⟨by decide, by decide⟩ rm9) ?_
    refine e_then (e_al1 hT (y := 69) (pc := 96) (q := (yX4_become, cX4_become, 2, none, 4)) rfl (show aTab 69 96 = some (.aload_n 1, 1, 0, 0, 0, 0, 0, 0) from rfl) rfl rfl) ?_
    refine e_then (e_getR hT (y := 69) (pc := 97) (q := (yX4_become, cX4_become, 2, none, 4)) rfl (show aTab 69 97 = some (.getfield 36, 3, 0, 4, 9, 0, 0, 0) from rfl) rfl (by decide) (by decide) tm9 rfl rfl) ?_
    refine e_then (e_al1 hT (y := 69) (pc := 100) (q := (yX4_become, cX4_become, 2, none, 4)) rfl (show aTab 69 100 = some (.aload_n 0, 1, 0, 0, 0, 0, 0, 0) from rfl) rfl rfl) ?_
    refine e_then (e_getR hT (y := 69) (pc := 101) (q := (yX4_become, cX4_become, 2, none, 4)) rfl (show aTab 69 101 = some (.getfield 36, 3, 0, 4, 9, 0, 0, 0) from rfl) rfl (by decide) (by decide) tm9 rfl rfl) ?_
    obtain ⟨m10, ⟨Km10, rm10⟩, tm10, em10⟩ := s_copy hT (a := 73) (b := 20) (L := 40) (by decide) rfl rfl (by decide) tm9 em9 (d := 9) (by decide)
    refine e_then (e_callsN hT (y := 69) (pc := 104) (q := (yX4_become, cX4_become, 2, none, 4)) rfl (show aTab 69 104 = some (.invokestatic 52, 3, 3, 237, 0, 2, 4, 11) from rfl) (Nat.le_of_ble_eq_true rfl) (Nat.le_of_ble_eq_true rfl) (Nat.le_of_ble_eq_true rfl) ⟨by decide, by decide⟩ rm10) ?_
    refine e_then (e_al1 hT (y := 69) (pc := 107) (q := (yX4_become, cX4_become, 2, none, 4)) rfl (show aTab 69 107 = some (.aload_n 1, 1, 0, 0, 0, 0, 0, 0) from rfl) rfl rfl) ?_
    refine e_then (e_getR hT (y := 69) (pc := 108) (q := (yX4_become, cX4_become, 2, none, 4)) rfl (show aTab 69 108 = some (.getfield 39, 3, 0, 4, 10, 0, 0, 0) from rfl) rfl (by decide) (by decide) tm10 rfl rfl) ?_
    refine e_then (e_al1 hT (y := 69) (pc := 111) (q := (yX4_become, cX4_become, 2, none, 4)) rfl (show aTab 69 111 = some (.aload_n 0, 1, 0, 0, 0, 0, 0, 0) from rfl) rfl rfl) ?_
    refine e_then (e_getR hT (y := 69) (pc := 112) (q := (yX4_become, cX4_become, 2, none, 4)) rfl (show aTab 69 112 = some (.getfield 39, 3, 0, 4, 10, 0, 0, 0) from rfl) rfl (by decide) (by decide) tm10 rfl rfl) ?_
    obtain ⟨m11, ⟨Km11, rm11⟩, tm11, em11⟩ := s_copy hT (a := 74) (b := 21) (L := 40) (by decide) rfl rfl (by decide) tm10 em10 (d := 9) (by decide)
    refine e_then (e_callsN hT (y := 69) (pc := 115) (q := (yX4_become, cX4_become, 2, none, 4)) rfl (show aTab 69 115 = some (.invokestatic 52, 3, 3, 237, 0, 2, 4, 11) from rfl) (Nat.le_of_ble_eq_true rfl) (Nat.le_of_ble_eq_true rfl) (Nat.le_of_ble_eq_true rfl) ⟨by decide, by decide⟩ rm11) ?_
    refine e_then (e_al1 hT (y := 69) (pc := 118) (q := (yX4_become, cX4_become, 2, none, 4)) rfl (show aTab 69 118 = some (.aload_n 1, 1, 0, 0, 0, 0, 0, 0) from rfl) rfl rfl) ?_
    refine e_then (e_getR hT (y := 69) (pc := 119) (q := (yX4_become, cX4_become, 2, none, 4)) rfl (show aTab 69 119 = some (.getfield 42, 3, 0, 4, 11, 0, 0, 0) from rfl) rfl (by decide) (by decide) tm11 rfl rfl) ?_
    refine e_then (e_al1 hT (y := 69) (pc := 122) (q := (yX4_become, cX4_become, 2, none, 4)) rfl (show aTab 69 122 = some (.aload_n 0, 1, 0, 0, 0, 0, 0, 0) from rfl) rfl rfl) ?_
    refine e_then (e_getR hT (y := 69) (pc := 123) (q := (yX4_become, cX4_become, 2, none, 4)) rfl (show aTab 69 123 = some (.getfield 42, 3, 0, 4, 11, 0, 0, 0) from rfl) rfl (by decide) (by decide) tm11 rfl rfl) ?_
    obtain ⟨m12, ⟨Km12, rm12⟩, tm12, em12⟩ := s_copy hT (a := 75) (b := 22) (L := 360) (by decide) rfl rfl (by decide) tm11 em11 (d := 9) (by decide)
    refine e_then (e_callsN hT (y := 69) (pc := 126) (q := (yX4_become, cX4_become, 2, none, 4)) rfl (show aTab 69 126 = some (.invokestatic 52, 3, 3, 237, 0, 2, 4, 11) from rfl) (Nat.le_of_ble_eq_true rfl) (Nat.le_of_ble_eq_true rfl) (Nat.le_of_ble_eq_true rfl) ⟨by decide, by decide⟩ rm12) ?_
    exact e_fin (e_vret hT (y := 69) (pc := 129) (q := (yX4_become, cX4_become, 2, none, 4)) rfl (show aTab 69 129 = some (.return_, 1, 0, 0, 0, 0, 0, 0) from rfl) ⟨rfl, rfl⟩) ⟨rfl, tm12, em12⟩
  obtain ⟨K, r, M', q1, rfl, q2, q3⟩ := go
  exact ⟨M', ⟨K, mRun_dm q1 hd⟩, q2, q3⟩
def gbk_X6_become (g : Nat → Nat → Int32) : Nat → Nat → Int32 := (cpy (cpy (cpy (up2 g 24 0 (g 77 0)) 78 25) 79 26) 80 27)
theorem bk_X6_become (hT : aTabOk) {M : mHe} (hM : yTy M) {g : Nat → Nat → Int32} (hg : rdI M = g) {d : Nat} (hd : 10 ≤ d) : ∃ M', (∃ K, mRun none K d (131, 0, lv_args 0 [.ref 33, .ref 86], []) M = some (none, M')) ∧ yTy M' ∧ rdI M' = gbk_X6_become g := by
  have go : mEv none 10 (131, 0, lv_args 0 [.ref 33, .ref 86], []) M (fun r M' => r = none ∧ yTy M' ∧ rdI M' = gbk_X6_become g) := by
    refine e_then (e_al1 hT (y := 131) (pc := 0) (q := (yX6_become, cX6_become, 2, none, 6)) rfl (show aTab 131 0 = some (.aload_n 0, 1, 0, 0, 0, 0, 0, 0) from rfl) rfl rfl) ?_
    refine e_then (e_al1 hT (y := 131) (pc := 1) (q := (yX6_become, cX6_become, 2, none, 6)) rfl (show aTab 131 1 = some (.aload_n 1, 1, 0, 0, 0, 0, 0, 0) from rfl) rfl rfl) ?_
    refine e_then (s_getV hT (y := 131) (pc := 2) (q := (yX6_become, cX6_become, 2, none, 6)) rfl (show aTab 131 2 = some (.getfield 21, 3, 0, 6, 0, 0, 0, 0) from rfl) rfl (by decide) hM hg 77 rfl rfl (v := (g 77 0)) rfl) ?_
    have bd5 := (rd_obj hM (c := 77) (k := 0) rfl rfl).2
    have be5 : (g 77 0) = rdI M 77 0 := by rw [hg]
    rw [← be5] at bd5
    obtain ⟨m1, sm1, tm1, em1⟩ := s_putI (sc := none) (d := _) (lv := (lv_args 0 [.ref 33, .ref 86])) (st := []) (z := (g 77 0)) hT (y := 131) (pc := 5) (q := (yX6_become, cX6_become, 2, none, 6)) rfl (show aTab 131 5 = some (.putfield 21, 3, 0, 6, 0, 0, 0, 0) from rfl) rfl rfl ⟨by decide, rfl, rfl⟩ hM hg 24 rfl rfl bd5 (kn := 0) rfl
    refine e_then sm1 ?_
    refine e_then (e_al1 hT (y := 131) (pc := 8) (q := (yX6_become, cX6_become, 2, none, 6)) rfl (show aTab 131 8 = some (.aload_n 1, 1, 0, 0, 0, 0, 0, 0) from rfl) rfl rfl) ?_
    refine e_then (e_getR hT (y := 131) (pc := 9) (q := (yX6_become, cX6_become, 2, none, 6)) rfl (show aTab 131 9 = some (.getfield 9, 3, 0, 6, 1, 0, 0, 0) from rfl) rfl (by decide) (by decide) tm1 rfl rfl) ?_
    refine e_then (e_al1 hT (y := 131) (pc := 12) (q := (yX6_become, cX6_become, 2, none, 6)) rfl (show aTab 131 12 = some (.aload_n 0, 1, 0, 0, 0, 0, 0, 0) from rfl) rfl rfl) ?_
    refine e_then (e_getR hT (y := 131) (pc := 13) (q := (yX6_become, cX6_become, 2, none, 6)) rfl (show aTab 131 13 = some (.getfield 9, 3, 0, 6, 1, 0, 0, 0) from rfl) rfl (by decide) (by decide) tm1 rfl rfl) ?_
    obtain ⟨m2, ⟨Km2, rm2⟩, tm2, em2⟩ := s_copy hT (a := 78) (b := 25) (L := 30) (by decide) rfl rfl (by decide) tm1 em1 (d := 9) (by decide)
    refine e_then (e_callsN hT (y := 131) (pc := 16) (q := (yX6_become, cX6_become, 2, none, 6)) rfl (show aTab 131 16 = some (.invokestatic 25, 3, 3, 237, 0, 2, 4, 11) from rfl) (Nat.le_of_ble_eq_true rfl) (Nat.le_of_ble_eq_true rfl) (Nat.le_of_ble_eq_true rfl) ⟨by decide, by decide⟩ rm2) ?_
    refine e_then (e_al1 hT (y := 131) (pc := 19) (q := (yX6_become, cX6_become, 2, none, 6)) rfl (show aTab 131 19 = some (.aload_n 1, 1, 0, 0, 0, 0, 0, 0) from rfl) rfl rfl) ?_
    refine e_then (e_getR hT (y := 131) (pc := 20) (q := (yX6_become, cX6_become, 2, none, 6)) rfl (show aTab 131 20 = some (.getfield 15, 3, 0, 6, 2, 0, 0, 0) from rfl) rfl (by decide) (by decide) tm2 rfl rfl) ?_
    refine e_then (e_al1 hT (y := 131) (pc := 23) (q := (yX6_become, cX6_become, 2, none, 6)) rfl (show aTab 131 23 = some (.aload_n 0, 1, 0, 0, 0, 0, 0, 0) from rfl) rfl rfl) ?_
    refine e_then (e_getR hT (y := 131) (pc := 24) (q := (yX6_become, cX6_become, 2, none, 6)) rfl (show aTab 131 24 = some (.getfield 15, 3, 0, 6, 2, 0, 0, 0) from rfl) rfl (by decide) (by decide) tm2 rfl rfl) ?_
    obtain ⟨m3, ⟨Km3, rm3⟩, tm3, em3⟩ := s_copy hT (a := 79) (b := 26) (L := 30) (by decide) rfl rfl (by decide) tm2 em2 (d := 9) (by decide)
    refine e_then (e_callsN hT (y := 131) (pc := 27) (q := (yX6_become, cX6_become, 2, none, 6)) rfl (show aTab 131 27 = some (.invokestatic 25, 3, 3, 237, 0, 2, 4, 11) from rfl) (Nat.le_of_ble_eq_true rfl) (Nat.le_of_ble_eq_true rfl) (Nat.le_of_ble_eq_true rfl) ⟨by decide, by decide⟩ rm3) ?_
    refine e_then (e_al1 hT (y := 131) (pc := 30) (q := (yX6_become, cX6_become, 2, none, 6)) rfl (show aTab 131 30 = some (.aload_n 1, 1, 0, 0, 0, 0, 0, 0) from rfl) rfl rfl) ?_
    refine e_then (e_getR hT (y := 131) (pc := 31) (q := (yX6_become, cX6_become, 2, none, 6)) rfl (show aTab 131 31 = some (.getfield 18, 3, 0, 6, 3, 0, 0, 0) from rfl) rfl (by decide) (by decide) tm3 rfl rfl) ?_
    refine e_then (e_al1 hT (y := 131) (pc := 34) (q := (yX6_become, cX6_become, 2, none, 6)) rfl (show aTab 131 34 = some (.aload_n 0, 1, 0, 0, 0, 0, 0, 0) from rfl) rfl rfl) ?_
    refine e_then (e_getR hT (y := 131) (pc := 35) (q := (yX6_become, cX6_become, 2, none, 6)) rfl (show aTab 131 35 = some (.getfield 18, 3, 0, 6, 3, 0, 0, 0) from rfl) rfl (by decide) (by decide) tm3 rfl rfl) ?_
    obtain ⟨m4, ⟨Km4, rm4⟩, tm4, em4⟩ := s_copy hT (a := 80) (b := 27) (L := 30) (by decide) rfl rfl (by decide) tm3 em3 (d := 9) (by decide)
    refine e_then (e_callsN hT (y := 131) (pc := 38) (q := (yX6_become, cX6_become, 2, none, 6)) rfl (show aTab 131 38 = some (.invokestatic 25, 3, 3, 237, 0, 2, 4, 11) from rfl) (Nat.le_of_ble_eq_true rfl) (Nat.le_of_ble_eq_true rfl) (Nat.le_of_ble_eq_true rfl) ⟨by decide, by decide⟩ rm4) ?_
    exact e_fin (e_vret hT (y := 131) (pc := 41) (q := (yX6_become, cX6_become, 2, none, 6)) rfl (show aTab 131 41 = some (.return_, 1, 0, 0, 0, 0, 0, 0) from rfl) ⟨rfl, rfl⟩) ⟨rfl, tm4, em4⟩
  obtain ⟨K, r, M', q1, rfl, q2, q3⟩ := go
  exact ⟨M', ⟨K, mRun_dm q1 hd⟩, q2, q3⟩
def gbk_X9_become (g : Nat → Nat → Int32) : Nat → Nat → Int32 := (cpy (cpy (cpy (cpy (cpy (up2 g 28 0 (g 81 0)) 82 29) 83 30) 84 31) 85 32) 86 33)
theorem bk_X9_become (hT : aTabOk) {M : mHe} (hM : yTy M) {g : Nat → Nat → Int32} (hg : rdI M = g) {d : Nat} (hd : 10 ≤ d) : ∃ M', (∃ K, mRun none K d (164, 0, lv_args 0 [.ref 37, .ref 90], []) M = some (none, M')) ∧ yTy M' ∧ rdI M' = gbk_X9_become g := by
  have go : mEv none 10 (164, 0, lv_args 0 [.ref 37, .ref 90], []) M (fun r M' => r = none ∧ yTy M' ∧ rdI M' = gbk_X9_become g) := by
    refine e_then (e_al1 hT (y := 164) (pc := 0) (q := (yX9_become, cX9_become, 2, none, 9)) rfl (show aTab 164 0 = some (.aload_n 0, 1, 0, 0, 0, 0, 0, 0) from rfl) rfl rfl) ?_
    refine e_then (e_al1 hT (y := 164) (pc := 1) (q := (yX9_become, cX9_become, 2, none, 9)) rfl (show aTab 164 1 = some (.aload_n 1, 1, 0, 0, 0, 0, 0, 0) from rfl) rfl rfl) ?_
    refine e_then (s_getV hT (y := 164) (pc := 2) (q := (yX9_become, cX9_become, 2, none, 9)) rfl (show aTab 164 2 = some (.getfield 33, 3, 0, 9, 0, 0, 0, 0) from rfl) rfl (by decide) hM hg 81 rfl rfl (v := (g 81 0)) rfl) ?_
    have bd5 := (rd_obj hM (c := 81) (k := 0) rfl rfl).2
    have be5 : (g 81 0) = rdI M 81 0 := by rw [hg]
    rw [← be5] at bd5
    obtain ⟨m1, sm1, tm1, em1⟩ := s_putI (sc := none) (d := _) (lv := (lv_args 0 [.ref 37, .ref 90])) (st := []) (z := (g 81 0)) hT (y := 164) (pc := 5) (q := (yX9_become, cX9_become, 2, none, 9)) rfl (show aTab 164 5 = some (.putfield 33, 3, 0, 9, 0, 0, 0, 0) from rfl) rfl rfl ⟨by decide, rfl, rfl⟩ hM hg 28 rfl rfl bd5 (kn := 0) rfl
    refine e_then sm1 ?_
    refine e_then (e_al1 hT (y := 164) (pc := 8) (q := (yX9_become, cX9_become, 2, none, 9)) rfl (show aTab 164 8 = some (.aload_n 1, 1, 0, 0, 0, 0, 0, 0) from rfl) rfl rfl) ?_
    refine e_then (e_getR hT (y := 164) (pc := 9) (q := (yX9_become, cX9_become, 2, none, 9)) rfl (show aTab 164 9 = some (.getfield 9, 3, 0, 9, 1, 0, 0, 0) from rfl) rfl (by decide) (by decide) tm1 rfl rfl) ?_
    refine e_then (e_al1 hT (y := 164) (pc := 12) (q := (yX9_become, cX9_become, 2, none, 9)) rfl (show aTab 164 12 = some (.aload_n 0, 1, 0, 0, 0, 0, 0, 0) from rfl) rfl rfl) ?_
    refine e_then (e_getR hT (y := 164) (pc := 13) (q := (yX9_become, cX9_become, 2, none, 9)) rfl (show aTab 164 13 = some (.getfield 9, 3, 0, 9, 1, 0, 0, 0) from rfl) rfl (by decide) (by decide) tm1 rfl rfl) ?_
    obtain ⟨m2, ⟨Km2, rm2⟩, tm2, em2⟩ := s_copy hT (a := 82) (b := 29) (L := 12) (by decide) rfl rfl (by decide) tm1 em1 (d := 9) (by decide)
    refine e_then (e_callsN hT (y := 164) (pc := 16) (q := (yX9_become, cX9_become, 2, none, 9)) rfl (show aTab 164 16 = some (.invokestatic 37, 3, 3, 237, 0, 2, 4, 11) from rfl) (Nat.le_of_ble_eq_true rfl) (Nat.le_of_ble_eq_true rfl) (Nat.le_of_ble_eq_true rfl) ⟨by decide, by decide⟩ rm2) ?_
    refine e_then (e_al1 hT (y := 164) (pc := 19) (q := (yX9_become, cX9_become, 2, none, 9)) rfl (show aTab 164 19 = some (.aload_n 1, 1, 0, 0, 0, 0, 0, 0) from rfl) rfl rfl) ?_
    refine e_then (e_getR hT (y := 164) (pc := 20) (q := (yX9_become, cX9_become, 2, none, 9)) rfl (show aTab 164 20 = some (.getfield 15, 3, 0, 9, 2, 0, 0, 0) from rfl) rfl (by decide) (by decide) tm2 rfl rfl) ?_
    refine e_then (e_al1 hT (y := 164) (pc := 23) (q := (yX9_become, cX9_become, 2, none, 9)) rfl (show aTab 164 23 = some (.aload_n 0, 1, 0, 0, 0, 0, 0, 0) from rfl) rfl rfl) ?_
    refine e_then (e_getR hT (y := 164) (pc := 24) (q := (yX9_become, cX9_become, 2, none, 9)) rfl (show aTab 164 24 = some (.getfield 15, 3, 0, 9, 2, 0, 0, 0) from rfl) rfl (by decide) (by decide) tm2 rfl rfl) ?_
    obtain ⟨m3, ⟨Km3, rm3⟩, tm3, em3⟩ := s_copy hT (a := 83) (b := 30) (L := 12) (by decide) rfl rfl (by decide) tm2 em2 (d := 9) (by decide)
    refine e_then (e_callsN hT (y := 164) (pc := 27) (q := (yX9_become, cX9_become, 2, none, 9)) rfl (show aTab 164 27 = some (.invokestatic 37, 3, 3, 237, 0, 2, 4, 11) from rfl) (Nat.le_of_ble_eq_true rfl) (Nat.le_of_ble_eq_true rfl) (Nat.le_of_ble_eq_true rfl) ⟨by decide, by decide⟩ rm3) ?_
    refine e_then (e_al1 hT (y := 164) (pc := 30) (q := (yX9_become, cX9_become, 2, none, 9)) rfl (show aTab 164 30 = some (.aload_n 1, 1, 0, 0, 0, 0, 0, 0) from rfl) rfl rfl) ?_
    refine e_then (e_getR hT (y := 164) (pc := 31) (q := (yX9_become, cX9_become, 2, none, 9)) rfl (show aTab 164 31 = some (.getfield 18, 3, 0, 9, 3, 0, 0, 0) from rfl) rfl (by decide) (by decide) tm3 rfl rfl) ?_
    refine e_then (e_al1 hT (y := 164) (pc := 34) (q := (yX9_become, cX9_become, 2, none, 9)) rfl (show aTab 164 34 = some (.aload_n 0, 1, 0, 0, 0, 0, 0, 0) from rfl) rfl rfl) ?_
    refine e_then (e_getR hT (y := 164) (pc := 35) (q := (yX9_become, cX9_become, 2, none, 9)) rfl (show aTab 164 35 = some (.getfield 18, 3, 0, 9, 3, 0, 0, 0) from rfl) rfl (by decide) (by decide) tm3 rfl rfl) ?_
    obtain ⟨m4, ⟨Km4, rm4⟩, tm4, em4⟩ := s_copy hT (a := 84) (b := 31) (L := 12) (by decide) rfl rfl (by decide) tm3 em3 (d := 9) (by decide)
    refine e_then (e_callsN hT (y := 164) (pc := 38) (q := (yX9_become, cX9_become, 2, none, 9)) rfl (show aTab 164 38 = some (.invokestatic 37, 3, 3, 237, 0, 2, 4, 11) from rfl) (Nat.le_of_ble_eq_true rfl) (Nat.le_of_ble_eq_true rfl) (Nat.le_of_ble_eq_true rfl) ⟨by decide, by decide⟩ rm4) ?_
    refine e_then (e_al1 hT (y := 164) (pc := 41) (q := (yX9_become, cX9_become, 2, none, 9)) rfl (show aTab 164 41 = some (.aload_n 1, 1, 0, 0, 0, 0, 0, 0) from rfl) rfl rfl) ?_
    refine e_then (e_getR hT (y := 164) (pc := 42) (q := (yX9_become, cX9_become, 2, none, 9)) rfl (show aTab 164 42 = some (.getfield 21, 3, 0, 9, 4, 0, 0, 0) from rfl) rfl (by decide) (by decide) tm4 rfl rfl) ?_
    refine e_then (e_al1 hT (y := 164) (pc := 45) (q := (yX9_become, cX9_become, 2, none, 9)) rfl (show aTab 164 45 = some (.aload_n 0, 1, 0, 0, 0, 0, 0, 0) from rfl) rfl rfl) ?_
    refine e_then (e_getR hT (y := 164) (pc := 46) (q := (yX9_become, cX9_become, 2, none, 9)) rfl (show aTab 164 46 = some (.getfield 21, 3, 0, 9, 4, 0, 0, 0) from rfl) rfl (by decide) (by decide) tm4 rfl rfl) ?_
    obtain ⟨m5, ⟨Km5, rm5⟩, tm5, em5⟩ := s_copy hT (a := 85) (b := 32) (L := 12) (by decide) rfl rfl (by decide) tm4 em4 (d := 9) (by decide)
    refine e_then (e_callsN hT (y := 164) (pc := 49) (q := (yX9_become, cX9_become, 2, none, 9)) rfl (show aTab 164 49 = some (.invokestatic 37, 3, 3, 237, 0, 2, 4, 11) from rfl) (Nat.le_of_ble_eq_true rfl) (Nat.le_of_ble_eq_true rfl) (Nat.le_of_ble_eq_true rfl) ⟨by decide, by decide⟩ rm5) ?_
    refine e_then (e_al1 hT (y := 164) (pc := 52) (q := (yX9_become, cX9_become, 2, none, 9)) rfl (show aTab 164 52 = some (.aload_n 1, 1, 0, 0, 0, 0, 0, 0) from rfl) rfl rfl) ?_
    refine e_then (e_getR hT (y := 164) (pc := 53) (q := (yX9_become, cX9_become, 2, none, 9)) rfl (show aTab 164 53 = some (.getfield 24, 3, 0, 9, 5, 0, 0, 0) from rfl) rfl (by decide) (by decide) tm5 rfl rfl) ?_
    refine e_then (e_al1 hT (y := 164) (pc := 56) (q := (yX9_become, cX9_become, 2, none, 9)) rfl (show aTab 164 56 = some (.aload_n 0, 1, 0, 0, 0, 0, 0, 0) from rfl) rfl rfl) ?_
    refine e_then (e_getR hT (y := 164) (pc := 57) (q := (yX9_become, cX9_become, 2, none, 9)) rfl (show aTab 164 57 = some (.getfield 24, 3, 0, 9, 5, 0, 0, 0) from rfl) rfl (by decide) (by decide) tm5 rfl rfl) ?_
    obtain ⟨m6, ⟨Km6, rm6⟩, tm6, em6⟩ := s_copy hT (a := 86) (b := 33) (L := 1152) (by decide) rfl rfl (by decide) tm5 em5 (d := 9) (by decide)
    refine e_then (e_callsN hT (y := 164) (pc := 60) (q := (yX9_become, cX9_become, 2, none, 9)) rfl (show aTab 164 60 = some (.invokestatic 37, 3, 3, 237, 0, 2, 4, 11) from rfl) (Nat.le_of_ble_eq_true rfl) (Nat.le_of_ble_eq_true rfl) (Nat.le_of_ble_eq_true rfl) ⟨by decide, by decide⟩ rm6) ?_
    exact e_fin (e_vret hT (y := 164) (pc := 63) (q := (yX9_become, cX9_become, 2, none, 9)) rfl (show aTab 164 63 = some (.return_, 1, 0, 0, 0, 0, 0, 0) from rfl) ⟨rfl, rfl⟩) ⟨rfl, tm6, em6⟩
  obtain ⟨K, r, M', q1, rfl, q2, q3⟩ := go
  exact ⟨M', ⟨K, mRun_dm q1 hd⟩, q2, q3⟩
def gbk_X10_become (g : Nat → Nat → Int32) : Nat → Nat → Int32 := (cpy g 90 37)
theorem bk_X10_become (hT : aTabOk) {M : mHe} (hM : yTy M) {g : Nat → Nat → Int32} (hg : rdI M = g) {d : Nat} (hd : 10 ≤ d) : ∃ M', (∃ K, mRun none K d (174, 0, lv_args 0 [.ref 45, .ref 98], []) M = some (none, M')) ∧ yTy M' ∧ rdI M' = gbk_X10_become g := by
  have go : mEv none 10 (174, 0, lv_args 0 [.ref 45, .ref 98], []) M (fun r M' => r = none ∧ yTy M' ∧ rdI M' = gbk_X10_become g) := by
    refine e_then (e_al1 hT (y := 174) (pc := 0) (q := (yX10_become, cX10_become, 2, none, 10)) rfl (show aTab 174 0 = some (.aload_n 1, 1, 0, 0, 0, 0, 0, 0) from rfl) rfl rfl) ?_
    refine e_then (e_getR hT (y := 174) (pc := 1) (q := (yX10_become, cX10_become, 2, none, 10)) rfl (show aTab 174 1 = some (.getfield 9, 3, 0, 10, 0, 0, 0, 0) from rfl) rfl (by decide) (by decide) hM rfl rfl) ?_
    refine e_then (e_al1 hT (y := 174) (pc := 4) (q := (yX10_become, cX10_become, 2, none, 10)) rfl (show aTab 174 4 = some (.aload_n 0, 1, 0, 0, 0, 0, 0, 0) from rfl) rfl rfl) ?_
    refine e_then (e_getR hT (y := 174) (pc := 5) (q := (yX10_become, cX10_become, 2, none, 10)) rfl (show aTab 174 5 = some (.getfield 9, 3, 0, 10, 0, 0, 0, 0) from rfl) rfl (by decide) (by decide) hM rfl rfl) ?_
    obtain ⟨m1, ⟨Km1, rm1⟩, tm1, em1⟩ := s_copy hT (a := 90) (b := 37) (L := 9) (by decide) rfl rfl (by decide) hM hg (d := 9) (by decide)
    refine e_then (e_callsN hT (y := 174) (pc := 8) (q := (yX10_become, cX10_become, 2, none, 10)) rfl (show aTab 174 8 = some (.invokestatic 21, 3, 3, 237, 0, 2, 4, 11) from rfl) (Nat.le_of_ble_eq_true rfl) (Nat.le_of_ble_eq_true rfl) (Nat.le_of_ble_eq_true rfl) ⟨by decide, by decide⟩ rm1) ?_
    exact e_fin (e_vret hT (y := 174) (pc := 11) (q := (yX10_become, cX10_become, 2, none, 10)) rfl (show aTab 174 11 = some (.return_, 1, 0, 0, 0, 0, 0, 0) from rfl) ⟨rfl, rfl⟩) ⟨rfl, tm1, em1⟩
  obtain ⟨K, r, M', q1, rfl, q2, q3⟩ := go
  exact ⟨M', ⟨K, mRun_dm q1 hd⟩, q2, q3⟩
def gbk_X7_become (g : Nat → Nat → Int32) : Nat → Nat → Int32 := (cpy (cpy (up2 g 40 0 (g 93 0)) 94 41) 95 42)
theorem bk_X7_become (hT : aTabOk) {M : mHe} (hM : yTy M) {g : Nat → Nat → Int32} (hg : rdI M = g) {d : Nat} (hd : 10 ≤ d) : ∃ M', (∃ K, mRun none K d (136, 0, lv_args 0 [.ref 49, .ref 102], []) M = some (none, M')) ∧ yTy M' ∧ rdI M' = gbk_X7_become g := by
  have go : mEv none 10 (136, 0, lv_args 0 [.ref 49, .ref 102], []) M (fun r M' => r = none ∧ yTy M' ∧ rdI M' = gbk_X7_become g) := by
    refine e_then (e_al1 hT (y := 136) (pc := 0) (q := (yX7_become, cX7_become, 2, none, 7)) rfl (show aTab 136 0 = some (.aload_n 0, 1, 0, 0, 0, 0, 0, 0) from rfl) rfl rfl) ?_
    refine e_then (e_al1 hT (y := 136) (pc := 1) (q := (yX7_become, cX7_become, 2, none, 7)) rfl (show aTab 136 1 = some (.aload_n 1, 1, 0, 0, 0, 0, 0, 0) from rfl) rfl rfl) ?_
    refine e_then (s_getV hT (y := 136) (pc := 2) (q := (yX7_become, cX7_become, 2, none, 7)) rfl (show aTab 136 2 = some (.getfield 21, 3, 0, 7, 0, 0, 0, 0) from rfl) rfl (by decide) hM hg 93 rfl rfl (v := (g 93 0)) rfl) ?_
    have bd5 := (rd_obj hM (c := 93) (k := 0) rfl rfl).2
    have be5 : (g 93 0) = rdI M 93 0 := by rw [hg]
    rw [← be5] at bd5
    obtain ⟨m1, sm1, tm1, em1⟩ := s_putI (sc := none) (d := _) (lv := (lv_args 0 [.ref 49, .ref 102])) (st := []) (z := (g 93 0)) hT (y := 136) (pc := 5) (q := (yX7_become, cX7_become, 2, none, 7)) rfl (show aTab 136 5 = some (.putfield 21, 3, 0, 7, 0, 0, 0, 0) from rfl) rfl rfl ⟨by decide, rfl, rfl⟩ hM hg 40 rfl rfl bd5 (kn := 0) rfl
    refine e_then sm1 ?_
    refine e_then (e_al1 hT (y := 136) (pc := 8) (q := (yX7_become, cX7_become, 2, none, 7)) rfl (show aTab 136 8 = some (.aload_n 1, 1, 0, 0, 0, 0, 0, 0) from rfl) rfl rfl) ?_
    refine e_then (e_getR hT (y := 136) (pc := 9) (q := (yX7_become, cX7_become, 2, none, 7)) rfl (show aTab 136 9 = some (.getfield 9, 3, 0, 7, 1, 0, 0, 0) from rfl) rfl (by decide) (by decide) tm1 rfl rfl) ?_
    refine e_then (e_al1 hT (y := 136) (pc := 12) (q := (yX7_become, cX7_become, 2, none, 7)) rfl (show aTab 136 12 = some (.aload_n 0, 1, 0, 0, 0, 0, 0, 0) from rfl) rfl rfl) ?_
    refine e_then (e_getR hT (y := 136) (pc := 13) (q := (yX7_become, cX7_become, 2, none, 7)) rfl (show aTab 136 13 = some (.getfield 9, 3, 0, 7, 1, 0, 0, 0) from rfl) rfl (by decide) (by decide) tm1 rfl rfl) ?_
    obtain ⟨m2, ⟨Km2, rm2⟩, tm2, em2⟩ := s_copy hT (a := 94) (b := 41) (L := 6) (by decide) rfl rfl (by decide) tm1 em1 (d := 9) (by decide)
    refine e_then (e_callsN hT (y := 136) (pc := 16) (q := (yX7_become, cX7_become, 2, none, 7)) rfl (show aTab 136 16 = some (.invokestatic 25, 3, 3, 237, 0, 2, 4, 11) from rfl) (Nat.le_of_ble_eq_true rfl) (Nat.le_of_ble_eq_true rfl) (Nat.le_of_ble_eq_true rfl) ⟨by decide, by decide⟩ rm2) ?_
    refine e_then (e_al1 hT (y := 136) (pc := 19) (q := (yX7_become, cX7_become, 2, none, 7)) rfl (show aTab 136 19 = some (.aload_n 1, 1, 0, 0, 0, 0, 0, 0) from rfl) rfl rfl) ?_
    refine e_then (e_getR hT (y := 136) (pc := 20) (q := (yX7_become, cX7_become, 2, none, 7)) rfl (show aTab 136 20 = some (.getfield 15, 3, 0, 7, 2, 0, 0, 0) from rfl) rfl (by decide) (by decide) tm2 rfl rfl) ?_
    refine e_then (e_al1 hT (y := 136) (pc := 23) (q := (yX7_become, cX7_become, 2, none, 7)) rfl (show aTab 136 23 = some (.aload_n 0, 1, 0, 0, 0, 0, 0, 0) from rfl) rfl rfl) ?_
    refine e_then (e_getR hT (y := 136) (pc := 24) (q := (yX7_become, cX7_become, 2, none, 7)) rfl (show aTab 136 24 = some (.getfield 15, 3, 0, 7, 2, 0, 0, 0) from rfl) rfl (by decide) (by decide) tm2 rfl rfl) ?_
    obtain ⟨m3, ⟨Km3, rm3⟩, tm3, em3⟩ := s_copy hT (a := 95) (b := 42) (L := 8) (by decide) rfl rfl (by decide) tm2 em2 (d := 9) (by decide)
    refine e_then (e_callsN hT (y := 136) (pc := 27) (q := (yX7_become, cX7_become, 2, none, 7)) rfl (show aTab 136 27 = some (.invokestatic 25, 3, 3, 237, 0, 2, 4, 11) from rfl) (Nat.le_of_ble_eq_true rfl) (Nat.le_of_ble_eq_true rfl) (Nat.le_of_ble_eq_true rfl) ⟨by decide, by decide⟩ rm3) ?_
    exact e_fin (e_vret hT (y := 136) (pc := 30) (q := (yX7_become, cX7_become, 2, none, 7)) rfl (show aTab 136 30 = some (.return_, 1, 0, 0, 0, 0, 0, 0) from rfl) ⟨rfl, rfl⟩) ⟨rfl, tm3, em3⟩
  obtain ⟨K, r, M', q1, rfl, q2, q3⟩ := go
  exact ⟨M', ⟨K, mRun_dm q1 hd⟩, q2, q3⟩
def gbk_X3_become (g : Nat → Nat → Int32) : Nat → Nat → Int32 := (cpy (cpy (cpy (cpy (up2 g 44 0 (g 97 0)) 98 45) 99 46) 100 47) 101 48)
theorem bk_X3_become (hT : aTabOk) {M : mHe} (hM : yTy M) {g : Nat → Nat → Int32} (hg : rdI M = g) {d : Nat} (hd : 10 ≤ d) : ∃ M', (∃ K, mRun none K d (60, 0, lv_args 0 [.ref 53, .ref 106], []) M = some (none, M')) ∧ yTy M' ∧ rdI M' = gbk_X3_become g := by
  have go : mEv none 10 (60, 0, lv_args 0 [.ref 53, .ref 106], []) M (fun r M' => r = none ∧ yTy M' ∧ rdI M' = gbk_X3_become g) := by
    refine e_then (e_al1 hT (y := 60) (pc := 0) (q := (yX3_become, cX3_become, 2, none, 3)) rfl (show aTab 60 0 = some (.aload_n 0, 1, 0, 0, 0, 0, 0, 0) from rfl) rfl rfl) ?_
    refine e_then (e_al1 hT (y := 60) (pc := 1) (q := (yX3_become, cX3_become, 2, none, 3)) rfl (show aTab 60 1 = some (.aload_n 1, 1, 0, 0, 0, 0, 0, 0) from rfl) rfl rfl) ?_
    refine e_then (s_getV hT (y := 60) (pc := 2) (q := (yX3_become, cX3_become, 2, none, 3)) rfl (show aTab 60 2 = some (.getfield 24, 3, 0, 3, 0, 0, 0, 0) from rfl) rfl (by decide) hM hg 97 rfl rfl (v := (g 97 0)) rfl) ?_
    have bd5 := (rd_obj hM (c := 97) (k := 0) rfl rfl).2
    have be5 : (g 97 0) = rdI M 97 0 := by rw [hg]
    rw [← be5] at bd5
    obtain ⟨m1, sm1, tm1, em1⟩ := s_putI (sc := none) (d := _) (lv := (lv_args 0 [.ref 53, .ref 106])) (st := []) (z := (g 97 0)) hT (y := 60) (pc := 5) (q := (yX3_become, cX3_become, 2, none, 3)) rfl (show aTab 60 5 = some (.putfield 24, 3, 0, 3, 0, 0, 0, 0) from rfl) rfl rfl ⟨by decide, rfl, rfl⟩ hM hg 44 rfl rfl bd5 (kn := 0) rfl
    refine e_then sm1 ?_
    refine e_then (e_al1 hT (y := 60) (pc := 8) (q := (yX3_become, cX3_become, 2, none, 3)) rfl (show aTab 60 8 = some (.aload_n 1, 1, 0, 0, 0, 0, 0, 0) from rfl) rfl rfl) ?_
    refine e_then (e_getR hT (y := 60) (pc := 9) (q := (yX3_become, cX3_become, 2, none, 3)) rfl (show aTab 60 9 = some (.getfield 9, 3, 0, 3, 1, 0, 0, 0) from rfl) rfl (by decide) (by decide) tm1 rfl rfl) ?_
    refine e_then (e_al1 hT (y := 60) (pc := 12) (q := (yX3_become, cX3_become, 2, none, 3)) rfl (show aTab 60 12 = some (.aload_n 0, 1, 0, 0, 0, 0, 0, 0) from rfl) rfl rfl) ?_
    refine e_then (e_getR hT (y := 60) (pc := 13) (q := (yX3_become, cX3_become, 2, none, 3)) rfl (show aTab 60 13 = some (.getfield 9, 3, 0, 3, 1, 0, 0, 0) from rfl) rfl (by decide) (by decide) tm1 rfl rfl) ?_
    obtain ⟨m2, ⟨Km2, rm2⟩, tm2, em2⟩ := s_copy hT (a := 98) (b := 45) (L := 8) (by decide) rfl rfl (by decide) tm1 em1 (d := 9) (by decide)
    refine e_then (e_callsN hT (y := 60) (pc := 16) (q := (yX3_become, cX3_become, 2, none, 3)) rfl (show aTab 60 16 = some (.invokestatic 28, 3, 3, 237, 0, 2, 4, 11) from rfl) (Nat.le_of_ble_eq_true rfl) (Nat.le_of_ble_eq_true rfl) (Nat.le_of_ble_eq_true rfl) ⟨by decide, by decide⟩ rm2) ?_
    refine e_then (e_al1 hT (y := 60) (pc := 19) (q := (yX3_become, cX3_become, 2, none, 3)) rfl (show aTab 60 19 = some (.aload_n 1, 1, 0, 0, 0, 0, 0, 0) from rfl) rfl rfl) ?_
    refine e_then (e_getR hT (y := 60) (pc := 20) (q := (yX3_become, cX3_become, 2, none, 3)) rfl (show aTab 60 20 = some (.getfield 15, 3, 0, 3, 2, 0, 0, 0) from rfl) rfl (by decide) (by decide) tm2 rfl rfl) ?_
    refine e_then (e_al1 hT (y := 60) (pc := 23) (q := (yX3_become, cX3_become, 2, none, 3)) rfl (show aTab 60 23 = some (.aload_n 0, 1, 0, 0, 0, 0, 0, 0) from rfl) rfl rfl) ?_
    refine e_then (e_getR hT (y := 60) (pc := 24) (q := (yX3_become, cX3_become, 2, none, 3)) rfl (show aTab 60 24 = some (.getfield 15, 3, 0, 3, 2, 0, 0, 0) from rfl) rfl (by decide) (by decide) tm2 rfl rfl) ?_
    obtain ⟨m3, ⟨Km3, rm3⟩, tm3, em3⟩ := s_copy hT (a := 99) (b := 46) (L := 8) (by decide) rfl rfl (by decide) tm2 em2 (d := 9) (by decide)
    refine e_then (e_callsN hT (y := 60) (pc := 27) (q := (yX3_become, cX3_become, 2, none, 3)) rfl (show aTab 60 27 = some (.invokestatic 28, 3, 3, 237, 0, 2, 4, 11) from rfl) (Nat.le_of_ble_eq_true rfl) (Nat.le_of_ble_eq_true rfl) (Nat.le_of_ble_eq_true rfl) ⟨by decide, by decide⟩ rm3) ?_
    refine e_then (e_al1 hT (y := 60) (pc := 30) (q := (yX3_become, cX3_become, 2, none, 3)) rfl (show aTab 60 30 = some (.aload_n 1, 1, 0, 0, 0, 0, 0, 0) from rfl) rfl rfl) ?_
    refine e_then (e_getR hT (y := 60) (pc := 31) (q := (yX3_become, cX3_become, 2, none, 3)) rfl (show aTab 60 31 = some (.getfield 18, 3, 0, 3, 3, 0, 0, 0) from rfl) rfl (by decide) (by decide) tm3 rfl rfl) ?_
    refine e_then (e_al1 hT (y := 60) (pc := 34) (q := (yX3_become, cX3_become, 2, none, 3)) rfl (show aTab 60 34 = some (.aload_n 0, 1, 0, 0, 0, 0, 0, 0) from rfl) rfl rfl) ?_
    refine e_then (e_getR hT (y := 60) (pc := 35) (q := (yX3_become, cX3_become, 2, none, 3)) rfl (show aTab 60 35 = some (.getfield 18, 3, 0, 3, 3, 0, 0, 0) from rfl) rfl (by decide) (by decide) tm3 rfl rfl) ?_
    obtain ⟨m4, ⟨Km4, rm4⟩, tm4, em4⟩ := s_copy hT (a := 100) (b := 47) (L := 8) (by decide) rfl rfl (by decide) tm3 em3 (d := 9) (by decide)
    refine e_then (e_callsN hT (y := 60) (pc := 38) (q := (yX3_become, cX3_become, 2, none, 3)) rfl (show aTab 60 38 = some (.invokestatic 28, 3, 3, 237, 0, 2, 4, 11) from rfl) (Nat.le_of_ble_eq_true rfl) (Nat.le_of_ble_eq_true rfl) (Nat.le_of_ble_eq_true rfl) ⟨by decide, by decide⟩ rm4) ?_
    refine e_then (e_al1 hT (y := 60) (pc := 41) (q := (yX3_become, cX3_become, 2, none, 3)) rfl (show aTab 60 41 = some (.aload_n 1, 1, 0, 0, 0, 0, 0, 0) from rfl) rfl rfl) ?_
    refine e_then (e_getR hT (y := 60) (pc := 42) (q := (yX3_become, cX3_become, 2, none, 3)) rfl (show aTab 60 42 = some (.getfield 21, 3, 0, 3, 4, 0, 0, 0) from rfl) rfl (by decide) (by decide) tm4 rfl rfl) ?_
    refine e_then (e_al1 hT (y := 60) (pc := 45) (q := (yX3_become, cX3_become, 2, none, 3)) rfl (show aTab 60 45 = some (.aload_n 0, 1, 0, 0, 0, 0, 0, 0) from rfl) rfl rfl) ?_
    refine e_then (e_getR hT (y := 60) (pc := 46) (q := (yX3_become, cX3_become, 2, none, 3)) rfl (show aTab 60 46 = some (.getfield 21, 3, 0, 3, 4, 0, 0, 0) from rfl) rfl (by decide) (by decide) tm4 rfl rfl) ?_
    obtain ⟨m5, ⟨Km5, rm5⟩, tm5, em5⟩ := s_copy hT (a := 101) (b := 48) (L := 8) (by decide) rfl rfl (by decide) tm4 em4 (d := 9) (by decide)
    refine e_then (e_callsN hT (y := 60) (pc := 49) (q := (yX3_become, cX3_become, 2, none, 3)) rfl (show aTab 60 49 = some (.invokestatic 28, 3, 3, 237, 0, 2, 4, 11) from rfl) (Nat.le_of_ble_eq_true rfl) (Nat.le_of_ble_eq_true rfl) (Nat.le_of_ble_eq_true rfl) ⟨by decide, by decide⟩ rm5) ?_
    exact e_fin (e_vret hT (y := 60) (pc := 52) (q := (yX3_become, cX3_become, 2, none, 3)) rfl (show aTab 60 52 = some (.return_, 1, 0, 0, 0, 0, 0, 0) from rfl) ⟨rfl, rfl⟩) ⟨rfl, tm5, em5⟩
  obtain ⟨K, r, M', q1, rfl, q2, q3⟩ := go
  exact ⟨M', ⟨K, mRun_dm q1 hd⟩, q2, q3⟩
def gbk_X1_become (g : Nat → Nat → Int32) : Nat → Nat → Int32 := (cpy (cpy (up2 (gbk_X3_become (gbk_X7_become (gbk_X10_become (gbk_X9_become (gbk_X6_become (gbk_X4_become (gbk_X2_become (up2 (up2 (up2 g 1 0 (g 54 0)) 1 1 (g 54 1)) 1 2 (g 54 2))))))))) 1 10 (g 54 10)) 102 49) 103 50)
theorem bk_X1_become (hT : aTabOk) {M : mHe} (hM : yTy M) {g : Nat → Nat → Int32} (hg : rdI M = g) {d : Nat} (hd : 20 ≤ d) : ∃ M', (∃ K, mRun none K d (12, 0, lv_args 0 [.ref 10, .ref 63], []) M = some (none, M')) ∧ yTy M' ∧ rdI M' = gbk_X1_become g := by
  have go : mEv none 20 (12, 0, lv_args 0 [.ref 10, .ref 63], []) M (fun r M' => r = none ∧ yTy M' ∧ rdI M' = gbk_X1_become g) := by
    refine e_then (e_al1 hT (y := 12) (pc := 0) (q := (yX1_become, cX1_become, 2, none, 1)) rfl (show aTab 12 0 = some (.aload_n 0, 1, 0, 0, 0, 0, 0, 0) from rfl) rfl rfl) ?_
    refine e_then (e_al1 hT (y := 12) (pc := 1) (q := (yX1_become, cX1_become, 2, none, 1)) rfl (show aTab 12 1 = some (.aload_n 1, 1, 0, 0, 0, 0, 0, 0) from rfl) rfl rfl) ?_
    refine e_then (s_getV hT (y := 12) (pc := 2) (q := (yX1_become, cX1_become, 2, none, 1)) rfl (show aTab 12 2 = some (.getfield 76, 3, 0, 1, 0, 0, 0, 0) from rfl) rfl (by decide) hM hg 54 rfl rfl (v := (g 54 0)) rfl) ?_
    have bd5 := (rd_obj hM (c := 54) (k := 0) rfl rfl).2
    have be5 : (g 54 0) = rdI M 54 0 := by rw [hg]
    rw [← be5] at bd5
    obtain ⟨m1, sm1, tm1, em1⟩ := s_putI (sc := none) (d := _) (lv := (lv_args 0 [.ref 10, .ref 63])) (st := []) (z := (g 54 0)) hT (y := 12) (pc := 5) (q := (yX1_become, cX1_become, 2, none, 1)) rfl (show aTab 12 5 = some (.putfield 76, 3, 0, 1, 0, 0, 0, 0) from rfl) rfl rfl ⟨by decide, rfl, rfl⟩ hM hg 1 rfl rfl bd5 (kn := 0) rfl
    refine e_then sm1 ?_
    refine e_then (e_al1 hT (y := 12) (pc := 8) (q := (yX1_become, cX1_become, 2, none, 1)) rfl (show aTab 12 8 = some (.aload_n 0, 1, 0, 0, 0, 0, 0, 0) from rfl) rfl rfl) ?_
    refine e_then (e_al1 hT (y := 12) (pc := 9) (q := (yX1_become, cX1_become, 2, none, 1)) rfl (show aTab 12 9 = some (.aload_n 1, 1, 0, 0, 0, 0, 0, 0) from rfl) rfl rfl) ?_
    refine e_then (s_getV hT (y := 12) (pc := 10) (q := (yX1_become, cX1_become, 2, none, 1)) rfl (show aTab 12 10 = some (.getfield 80, 3, 0, 1, 1, 0, 0, 0) from rfl) rfl (by decide) tm1 em1 54 rfl rfl (v := (g 54 1)) rfl) ?_
    have bd13 := (rd_obj hM (c := 54) (k := 1) rfl rfl).2
    have be13 : (g 54 1) = rdI M 54 1 := by rw [hg]
    rw [← be13] at bd13
    obtain ⟨m2, sm2, tm2, em2⟩ := s_putI (sc := none) (d := _) (lv := (lv_args 0 [.ref 10, .ref 63])) (st := []) (z := (g 54 1)) hT (y := 12) (pc := 13) (q := (yX1_become, cX1_become, 2, none, 1)) rfl (show aTab 12 13 = some (.putfield 80, 3, 0, 1, 1, 0, 0, 0) from rfl) rfl rfl ⟨by decide, rfl, rfl⟩ tm1 em1 1 rfl rfl bd13 (kn := 1) rfl
    refine e_then sm2 ?_
    refine e_then (e_al1 hT (y := 12) (pc := 16) (q := (yX1_become, cX1_become, 2, none, 1)) rfl (show aTab 12 16 = some (.aload_n 0, 1, 0, 0, 0, 0, 0, 0) from rfl) rfl rfl) ?_
    refine e_then (e_al1 hT (y := 12) (pc := 17) (q := (yX1_become, cX1_become, 2, none, 1)) rfl (show aTab 12 17 = some (.aload_n 1, 1, 0, 0, 0, 0, 0, 0) from rfl) rfl rfl) ?_
    refine e_then (s_getV hT (y := 12) (pc := 18) (q := (yX1_become, cX1_become, 2, none, 1)) rfl (show aTab 12 18 = some (.getfield 83, 3, 0, 1, 2, 0, 0, 0) from rfl) rfl (by decide) tm2 em2 54 rfl rfl (v := (g 54 2)) rfl) ?_
    have bd21 := (rd_obj hM (c := 54) (k := 2) rfl rfl).2
    have be21 : (g 54 2) = rdI M 54 2 := by rw [hg]
    rw [← be21] at bd21
    obtain ⟨m3, sm3, tm3, em3⟩ := s_putB (sc := none) (d := _) (lv := (lv_args 0 [.ref 10, .ref 63])) (st := []) (z := (g 54 2)) hT (y := 12) (pc := 21) (q := (yX1_become, cX1_become, 2, none, 1)) rfl (show aTab 12 21 = some (.putfield 83, 3, 0, 1, 2, 0, 0, 0) from rfl) rfl rfl ⟨by decide, rfl, rfl⟩ tm2 em2 1 rfl rfl bd21 (kn := 2) rfl
    refine e_then sm3 ?_
    refine e_then (e_al1 hT (y := 12) (pc := 24) (q := (yX1_become, cX1_become, 2, none, 1)) rfl (show aTab 12 24 = some (.aload_n 0, 1, 0, 0, 0, 0, 0, 0) from rfl) rfl rfl) ?_
    refine e_then (e_getR hT (y := 12) (pc := 25) (q := (yX1_become, cX1_become, 2, none, 1)) rfl (show aTab 12 25 = some (.getfield 12, 3, 0, 1, 3, 0, 0, 0) from rfl) rfl (by decide) (by decide) tm3 rfl rfl) ?_
    refine e_then (e_al1 hT (y := 12) (pc := 28) (q := (yX1_become, cX1_become, 2, none, 1)) rfl (show aTab 12 28 = some (.aload_n 1, 1, 0, 0, 0, 0, 0, 0) from rfl) rfl rfl) ?_
    refine e_then (e_getR hT (y := 12) (pc := 29) (q := (yX1_become, cX1_become, 2, none, 1)) rfl (show aTab 12 29 = some (.getfield 12, 3, 0, 1, 3, 0, 0, 0) from rfl) rfl (by decide) (by decide) tm3 rfl rfl) ?_
    obtain ⟨m4, ⟨Km4, rm4⟩, tm4, em4⟩ := bk_X2_become hT tm3 em3 (d := 19) (by decide)
    refine e_then (e_call hT (y := 12) (pc := 32) (q := (yX1_become, cX1_become, 2, none, 1)) rfl (show aTab 12 32 = some (.invokevirtual 87, 3, 1, 39, 0, 1, 2, 2) from rfl) rfl ⟨by decide, Nat.le_of_ble_eq_true rfl⟩ (ob_at tm3 (rfl : tTy 2 = some (.inr (2, _)))).choose_spec (Nat.le_of_ble_eq_true rfl) (Nat.le_of_ble_eq_true rfl) ⟨by decide, by decide⟩ rm4) ?_
    refine e_then (e_al1 hT (y := 12) (pc := 35) (q := (yX1_become, cX1_become, 2, none, 1)) rfl (show aTab 12 35 = some (.aload_n 0, 1, 0, 0, 0, 0, 0, 0) from rfl) rfl rfl) ?_
    refine e_then (e_getR hT (y := 12) (pc := 36) (q := (yX1_become, cX1_become, 2, none, 1)) rfl (show aTab 12 36 = some (.getfield 21, 3, 0, 1, 4, 0, 0, 0) from rfl) rfl (by decide) (by decide) tm4 rfl rfl) ?_
    refine e_then (e_al1 hT (y := 12) (pc := 39) (q := (yX1_become, cX1_become, 2, none, 1)) rfl (show aTab 12 39 = some (.aload_n 1, 1, 0, 0, 0, 0, 0, 0) from rfl) rfl rfl) ?_
    refine e_then (e_getR hT (y := 12) (pc := 40) (q := (yX1_become, cX1_become, 2, none, 1)) rfl (show aTab 12 40 = some (.getfield 21, 3, 0, 1, 4, 0, 0, 0) from rfl) rfl (by decide) (by decide) tm4 rfl rfl) ?_
    obtain ⟨m5, ⟨Km5, rm5⟩, tm5, em5⟩ := bk_X4_become hT tm4 em4 (d := 19) (by decide)
    refine e_then (e_call hT (y := 12) (pc := 43) (q := (yX1_become, cX1_become, 2, none, 1)) rfl (show aTab 12 43 = some (.invokevirtual 91, 3, 1, 69, 0, 1, 2, 4) from rfl) rfl ⟨by decide, Nat.le_of_ble_eq_true rfl⟩ (ob_at tm4 (rfl : tTy 11 = some (.inr (4, _)))).choose_spec (Nat.le_of_ble_eq_true rfl) (Nat.le_of_ble_eq_true rfl) ⟨by decide, by decide⟩ rm5) ?_
    refine e_then (e_al1 hT (y := 12) (pc := 46) (q := (yX1_become, cX1_become, 2, none, 1)) rfl (show aTab 12 46 = some (.aload_n 0, 1, 0, 0, 0, 0, 0, 0) from rfl) rfl rfl) ?_
    refine e_then (e_getR hT (y := 12) (pc := 47) (q := (yX1_become, cX1_become, 2, none, 1)) rfl (show aTab 12 47 = some (.getfield 28, 3, 0, 1, 5, 0, 0, 0) from rfl) rfl (by decide) (by decide) tm5 rfl rfl) ?_
    refine e_then (e_al1 hT (y := 12) (pc := 50) (q := (yX1_become, cX1_become, 2, none, 1)) rfl (show aTab 12 50 = some (.aload_n 1, 1, 0, 0, 0, 0, 0, 0) from rfl) rfl rfl) ?_
    refine e_then (e_getR hT (y := 12) (pc := 51) (q := (yX1_become, cX1_become, 2, none, 1)) rfl (show aTab 12 51 = some (.getfield 28, 3, 0, 1, 5, 0, 0, 0) from rfl) rfl (by decide) (by decide) tm5 rfl rfl) ?_
    obtain ⟨m6, ⟨Km6, rm6⟩, tm6, em6⟩ := bk_X6_become hT tm5 em5 (d := 19) (by decide)
    refine e_then (e_call hT (y := 12) (pc := 54) (q := (yX1_become, cX1_become, 2, none, 1)) rfl (show aTab 12 54 = some (.invokevirtual 94, 3, 1, 131, 0, 1, 2, 6) from rfl) rfl ⟨by decide, Nat.le_of_ble_eq_true rfl⟩ (ob_at tm5 (rfl : tTy 24 = some (.inr (6, _)))).choose_spec (Nat.le_of_ble_eq_true rfl) (Nat.le_of_ble_eq_true rfl) ⟨by decide, by decide⟩ rm6) ?_
    refine e_then (e_al1 hT (y := 12) (pc := 57) (q := (yX1_become, cX1_become, 2, none, 1)) rfl (show aTab 12 57 = some (.aload_n 0, 1, 0, 0, 0, 0, 0, 0) from rfl) rfl rfl) ?_
    refine e_then (e_getR hT (y := 12) (pc := 58) (q := (yX1_become, cX1_become, 2, none, 1)) rfl (show aTab 12 58 = some (.getfield 35, 3, 0, 1, 6, 0, 0, 0) from rfl) rfl (by decide) (by decide) tm6 rfl rfl) ?_
    refine e_then (e_al1 hT (y := 12) (pc := 61) (q := (yX1_become, cX1_become, 2, none, 1)) rfl (show aTab 12 61 = some (.aload_n 1, 1, 0, 0, 0, 0, 0, 0) from rfl) rfl rfl) ?_
    refine e_then (e_getR hT (y := 12) (pc := 62) (q := (yX1_become, cX1_become, 2, none, 1)) rfl (show aTab 12 62 = some (.getfield 35, 3, 0, 1, 6, 0, 0, 0) from rfl) rfl (by decide) (by decide) tm6 rfl rfl) ?_
    obtain ⟨m7, ⟨Km7, rm7⟩, tm7, em7⟩ := bk_X9_become hT tm6 em6 (d := 19) (by decide)
    refine e_then (e_call hT (y := 12) (pc := 65) (q := (yX1_become, cX1_become, 2, none, 1)) rfl (show aTab 12 65 = some (.invokevirtual 97, 3, 1, 164, 0, 1, 2, 9) from rfl) rfl ⟨by decide, Nat.le_of_ble_eq_true rfl⟩ (ob_at tm6 (rfl : tTy 28 = some (.inr (9, _)))).choose_spec (Nat.le_of_ble_eq_true rfl) (Nat.le_of_ble_eq_true rfl) ⟨by decide, by decide⟩ rm7) ?_
    refine e_then (e_al1 hT (y := 12) (pc := 68) (q := (yX1_become, cX1_become, 2, none, 1)) rfl (show aTab 12 68 = some (.aload_n 0, 1, 0, 0, 0, 0, 0, 0) from rfl) rfl rfl) ?_
    refine e_then (e_getR hT (y := 12) (pc := 69) (q := (yX1_become, cX1_become, 2, none, 1)) rfl (show aTab 12 69 = some (.getfield 42, 3, 0, 1, 7, 0, 0, 0) from rfl) rfl (by decide) (by decide) tm7 rfl rfl) ?_
    refine e_then (e_al1 hT (y := 12) (pc := 72) (q := (yX1_become, cX1_become, 2, none, 1)) rfl (show aTab 12 72 = some (.aload_n 1, 1, 0, 0, 0, 0, 0, 0) from rfl) rfl rfl) ?_
    refine e_then (e_getR hT (y := 12) (pc := 73) (q := (yX1_become, cX1_become, 2, none, 1)) rfl (show aTab 12 73 = some (.getfield 42, 3, 0, 1, 7, 0, 0, 0) from rfl) rfl (by decide) (by decide) tm7 rfl rfl) ?_
    obtain ⟨m8, ⟨Km8, rm8⟩, tm8, em8⟩ := bk_X10_become hT tm7 em7 (d := 19) (by decide)
    refine e_then (e_call hT (y := 12) (pc := 76) (q := (yX1_become, cX1_become, 2, none, 1)) rfl (show aTab 12 76 = some (.invokevirtual 100, 3, 1, 174, 0, 1, 2, 10) from rfl) rfl ⟨by decide, Nat.le_of_ble_eq_true rfl⟩ (ob_at tm7 (rfl : tTy 36 = some (.inr (10, _)))).choose_spec (Nat.le_of_ble_eq_true rfl) (Nat.le_of_ble_eq_true rfl) ⟨by decide, by decide⟩ rm8) ?_
    refine e_then (e_al1 hT (y := 12) (pc := 79) (q := (yX1_become, cX1_become, 2, none, 1)) rfl (show aTab 12 79 = some (.aload_n 0, 1, 0, 0, 0, 0, 0, 0) from rfl) rfl rfl) ?_
    refine e_then (e_getR hT (y := 12) (pc := 80) (q := (yX1_become, cX1_become, 2, none, 1)) rfl (show aTab 12 80 = some (.getfield 49, 3, 0, 1, 8, 0, 0, 0) from rfl) rfl (by decide) (by decide) tm8 rfl rfl) ?_
    refine e_then (e_al1 hT (y := 12) (pc := 83) (q := (yX1_become, cX1_become, 2, none, 1)) rfl (show aTab 12 83 = some (.aload_n 1, 1, 0, 0, 0, 0, 0, 0) from rfl) rfl rfl) ?_
    refine e_then (e_getR hT (y := 12) (pc := 84) (q := (yX1_become, cX1_become, 2, none, 1)) rfl (show aTab 12 84 = some (.getfield 49, 3, 0, 1, 8, 0, 0, 0) from rfl) rfl (by decide) (by decide) tm8 rfl rfl) ?_
    obtain ⟨m9, ⟨Km9, rm9⟩, tm9, em9⟩ := bk_X7_become hT tm8 em8 (d := 19) (by decide)
    refine e_then (e_call hT (y := 12) (pc := 87) (q := (yX1_become, cX1_become, 2, none, 1)) rfl (show aTab 12 87 = some (.invokevirtual 103, 3, 1, 136, 0, 1, 2, 7) from rfl) rfl ⟨by decide, Nat.le_of_ble_eq_true rfl⟩ (ob_at tm8 (rfl : tTy 40 = some (.inr (7, _)))).choose_spec (Nat.le_of_ble_eq_true rfl) (Nat.le_of_ble_eq_true rfl) ⟨by decide, by decide⟩ rm9) ?_
    refine e_then (e_al1 hT (y := 12) (pc := 90) (q := (yX1_become, cX1_become, 2, none, 1)) rfl (show aTab 12 90 = some (.aload_n 0, 1, 0, 0, 0, 0, 0, 0) from rfl) rfl rfl) ?_
    refine e_then (e_getR hT (y := 12) (pc := 91) (q := (yX1_become, cX1_become, 2, none, 1)) rfl (show aTab 12 91 = some (.getfield 56, 3, 0, 1, 9, 0, 0, 0) from rfl) rfl (by decide) (by decide) tm9 rfl rfl) ?_
    refine e_then (e_al1 hT (y := 12) (pc := 94) (q := (yX1_become, cX1_become, 2, none, 1)) rfl (show aTab 12 94 = some (.aload_n 1, 1, 0, 0, 0, 0, 0, 0) from rfl) rfl rfl) ?_
    refine e_then (e_getR hT (y := 12) (pc := 95) (q := (yX1_become, cX1_become, 2, none, 1)) rfl (show aTab 12 95 = some (.getfield 56, 3, 0, 1, 9, 0, 0, 0) from rfl) rfl (by decide) (by decide) tm9 rfl rfl) ?_
    obtain ⟨m10, ⟨Km10, rm10⟩, tm10, em10⟩ := bk_X3_become hT tm9 em9 (d := 19) (by decide)
    refine e_then (e_call hT (y := 12) (pc := 98) (q := (yX1_become, cX1_become, 2, none, 1)) rfl (show aTab 12 98 = some (.invokevirtual 106, 3, 1, 60, 0, 1, 2, 3) from rfl) rfl ⟨by decide, Nat.le_of_ble_eq_true rfl⟩ (ob_at tm9 (rfl : tTy 44 = some (.inr (3, _)))).choose_spec (Nat.le_of_ble_eq_true rfl) (Nat.le_of_ble_eq_true rfl) ⟨by decide, by decide⟩ rm10) ?_
    refine e_then (e_al1 hT (y := 12) (pc := 101) (q := (yX1_become, cX1_become, 2, none, 1)) rfl (show aTab 12 101 = some (.aload_n 0, 1, 0, 0, 0, 0, 0, 0) from rfl) rfl rfl) ?_
    refine e_then (e_al1 hT (y := 12) (pc := 102) (q := (yX1_become, cX1_become, 2, none, 1)) rfl (show aTab 12 102 = some (.aload_n 1, 1, 0, 0, 0, 0, 0, 0) from rfl) rfl rfl) ?_
    refine e_then (s_getV hT (y := 12) (pc := 103) (q := (yX1_become, cX1_become, 2, none, 1)) rfl (show aTab 12 103 = some (.getfield 109, 3, 0, 1, 10, 0, 0, 0) from rfl) rfl (by decide) tm10 em10 54 rfl rfl (v := (g 54 10)) rfl) ?_
    have bd106 := (rd_obj hM (c := 54) (k := 10) rfl rfl).2
    have be106 : (g 54 10) = rdI M 54 10 := by rw [hg]
    rw [← be106] at bd106
    obtain ⟨m11, sm11, tm11, em11⟩ := s_putI (sc := none) (d := _) (lv := (lv_args 0 [.ref 10, .ref 63])) (st := []) (z := (g 54 10)) hT (y := 12) (pc := 106) (q := (yX1_become, cX1_become, 2, none, 1)) rfl (show aTab 12 106 = some (.putfield 109, 3, 0, 1, 10, 0, 0, 0) from rfl) rfl rfl ⟨by decide, rfl, rfl⟩ tm10 em10 1 rfl rfl bd106 (kn := 10) rfl
    refine e_then sm11 ?_
    refine e_then (e_al1 hT (y := 12) (pc := 109) (q := (yX1_become, cX1_become, 2, none, 1)) rfl (show aTab 12 109 = some (.aload_n 1, 1, 0, 0, 0, 0, 0, 0) from rfl) rfl rfl) ?_
    refine e_then (e_getR hT (y := 12) (pc := 110) (q := (yX1_become, cX1_become, 2, none, 1)) rfl (show aTab 12 110 = some (.getfield 60, 3, 0, 1, 11, 0, 0, 0) from rfl) rfl (by decide) (by decide) tm11 rfl rfl) ?_
    refine e_then (e_al1 hT (y := 12) (pc := 113) (q := (yX1_become, cX1_become, 2, none, 1)) rfl (show aTab 12 113 = some (.aload_n 0, 1, 0, 0, 0, 0, 0, 0) from rfl) rfl rfl) ?_
    refine e_then (e_getR hT (y := 12) (pc := 114) (q := (yX1_become, cX1_become, 2, none, 1)) rfl (show aTab 12 114 = some (.getfield 60, 3, 0, 1, 11, 0, 0, 0) from rfl) rfl (by decide) (by decide) tm11 rfl rfl) ?_
    obtain ⟨m12, ⟨Km12, rm12⟩, tm12, em12⟩ := s_copy hT (a := 102) (b := 49) (L := 8) (by decide) rfl rfl (by decide) tm11 em11 (d := 19) (by decide)
    refine e_then (e_callsN hT (y := 12) (pc := 117) (q := (yX1_become, cX1_become, 2, none, 1)) rfl (show aTab 12 117 = some (.invokestatic 112, 3, 3, 237, 0, 2, 4, 11) from rfl) (Nat.le_of_ble_eq_true rfl) (Nat.le_of_ble_eq_true rfl) (Nat.le_of_ble_eq_true rfl) ⟨by decide, by decide⟩ rm12) ?_
    refine e_then (e_al1 hT (y := 12) (pc := 120) (q := (yX1_become, cX1_become, 2, none, 1)) rfl (show aTab 12 120 = some (.aload_n 1, 1, 0, 0, 0, 0, 0, 0) from rfl) rfl rfl) ?_
    refine e_then (e_getR hT (y := 12) (pc := 121) (q := (yX1_become, cX1_become, 2, none, 1)) rfl (show aTab 12 121 = some (.getfield 64, 3, 0, 1, 12, 0, 0, 0) from rfl) rfl (by decide) (by decide) tm12 rfl rfl) ?_
    refine e_then (e_al1 hT (y := 12) (pc := 124) (q := (yX1_become, cX1_become, 2, none, 1)) rfl (show aTab 12 124 = some (.aload_n 0, 1, 0, 0, 0, 0, 0, 0) from rfl) rfl rfl) ?_
    refine e_then (e_getR hT (y := 12) (pc := 125) (q := (yX1_become, cX1_become, 2, none, 1)) rfl (show aTab 12 125 = some (.getfield 64, 3, 0, 1, 12, 0, 0, 0) from rfl) rfl (by decide) (by decide) tm12 rfl rfl) ?_
    obtain ⟨m13, ⟨Km13, rm13⟩, tm13, em13⟩ := s_copy hT (a := 103) (b := 50) (L := 8) (by decide) rfl rfl (by decide) tm12 em12 (d := 19) (by decide)
    refine e_then (e_callsN hT (y := 12) (pc := 128) (q := (yX1_become, cX1_become, 2, none, 1)) rfl (show aTab 12 128 = some (.invokestatic 112, 3, 3, 237, 0, 2, 4, 11) from rfl) (Nat.le_of_ble_eq_true rfl) (Nat.le_of_ble_eq_true rfl) (Nat.le_of_ble_eq_true rfl) ⟨by decide, by decide⟩ rm13) ?_
    exact e_fin (e_vret hT (y := 12) (pc := 131) (q := (yX1_become, cX1_become, 2, none, 1)) rfl (show aTab 12 131 = some (.return_, 1, 0, 0, 0, 0, 0, 0) from rfl) ⟨rfl, rfl⟩) ⟨rfl, tm13, em13⟩
  obtain ⟨K, r, M', q1, rfl, q2, q3⟩ := go
  exact ⟨M', ⟨K, mRun_dm q1 hd⟩, q2, q3⟩
theorem s_aside (hT : aTabOk) {a b : Nat} {r1 r2 : Nat} (hc : tCtOk (356, [(0, 128, 0, 0), (0, r1, 0, 0), (0, r2, 0, 0)], none, [(b, 0, 3999, 1, 0)], 1, [(a, b)], [])) {M : mHe} (hM : yTy M) {g : Nat → Nat → Int32} (hg : rdI M = g) {d : Nat} (hd : 1 ≤ d) : ∃ M', (∃ K, mRun none K d (356, 0, lv_args 0 [.ref 128, .ref r1, .ref r2], []) M = some (none, M')) ∧ yTy M' ∧ rdI M' = cpy g a b := by
  obtain ⟨N, r, M', m1, m2, m3, m4, m5⟩ := hc M [.ref 128, .ref r1, .ref r2] d hM ⟨rfl, rfl, rfl, trivial⟩ hd (fun p hp => by cases hp)
  have m4 : r = none := m4
  refine ⟨M', ⟨N, by rw [m1, m4]⟩, m2, ?_⟩
  funext c k
  show rdI M' c k = if c = b then g a k else g c k
  by_cases h : c = b
  · subst h
    rw [if_pos rfl, ← hg]
    unfold rdI
    rw [m5 (a, c) (List.mem_singleton_self _) (0, fun _ => 0) k]
  · rw [if_neg h, ← hg]
    exact rdI_fr m3 (fun w hw hy => by rw [List.mem_singleton.mp hw] at hy; exact h hy.1.symm)
theorem xkeep_run (hT : aTabOk) {M : mHe} (hM : yTy M) {g : Nat → Nat → Int32} (hg : rdI M = g) : mEv none 30 (230, 0, lv_args 0 [.ref 9], []) M (fun r M' => (∃ x, r = some (.int x)) ∧ yTy M' ∧ rdI M' = up2 (gkp_X1_become g) 0 2 1) := by
  obtain ⟨M1, ⟨K1, r1⟩, t1, e1⟩ := kp_X1_become hT hM hg (d := 29) (by decide)
  refine e_then (e_al1 hT (y := 230) (pc := 0) (q := (yX11_keep, cX11_keep, 1, (some .int), 11)) rfl (show aTab 230 0 = some (.aload_n 0, 1, 0, 0, 0, 0, 0, 0) from rfl) rfl rfl) ?_
  refine e_then (e_getR hT (y := 230) (pc := 1) (q := (yX11_keep, cX11_keep, 1, (some .int), 11)) rfl (show aTab 230 1 = some (.getfield 16, 3, 0, 11, 1, 0, 0, 0) from rfl) rfl (by decide) (by decide) hM rfl rfl) ?_
  refine e_then (e_al1 hT (y := 230) (pc := 4) (q := (yX11_keep, cX11_keep, 1, (some .int), 11)) rfl (show aTab 230 4 = some (.aload_n 0, 1, 0, 0, 0, 0, 0, 0) from rfl) rfl rfl) ?_
  refine e_then (e_getR hT (y := 230) (pc := 5) (q := (yX11_keep, cX11_keep, 1, (some .int), 11)) rfl (show aTab 230 5 = some (.getfield 12, 3, 0, 11, 0, 0, 0, 0) from rfl) rfl (by decide) (by decide) hM rfl rfl) ?_
  refine e_then (e_call hT (y := 230) (pc := 8) (q := (yX11_keep, cX11_keep, 1, (some .int), 11)) rfl (show aTab 230 8 = some (.invokevirtual 271, 3, 1, 12, 0, 1, 2, 1) from rfl) rfl ⟨by decide, Nat.le_of_ble_eq_true rfl⟩ (ob_at hM (rfl : tTy 54 = some (.inr (1, _)))).choose_spec (Nat.le_of_ble_eq_true rfl) (Nat.le_of_ble_eq_true rfl) ⟨by decide, by decide⟩ r1) ?_
  refine e_then (e_al1 hT (y := 230) (pc := 11) (q := (yX11_keep, cX11_keep, 1, (some .int), 11)) rfl (show aTab 230 11 = some (.aload_n 0, 1, 0, 0, 0, 0, 0, 0) from rfl) rfl rfl) ?_
  refine e_then (e_st hT (y := 230) (pc := 12) (q := (yX11_keep, cX11_keep, 1, (some .int), 11)) rfl (show aTab 230 12 = some (.iconst 1, 1, 0, 0, 0, 0, 0, 0) from rfl) (fr' := (230, 13, (lv_args 0 [.ref 9]), [.int 1, .ref 9])) (M' := M1) rfl) ?_
  obtain ⟨m1, sm1, tm1, em1⟩ := s_putB (sc := none) (d := _) (lv := (lv_args 0 [.ref 9])) (st := []) (z := 1) hT (y := 230) (pc := 13) (q := (yX11_keep, cX11_keep, 1, (some .int), 11)) rfl (show aTab 230 13 = some (.putfield 262, 3, 0, 11, 2, 0, 0, 0) from rfl) rfl rfl ⟨by decide, rfl, rfl⟩ t1 e1 0 rfl rfl ⟨by decide, by decide⟩ (kn := 2) rfl
  refine e_then sm1 ?_
  refine e_then (e_al1 hT (y := 230) (pc := 16) (q := (yX11_keep, cX11_keep, 1, (some .int), 11)) rfl (show aTab 230 16 = some (.aload_n 0, 1, 0, 0, 0, 0, 0, 0) from rfl) rfl rfl) ?_
  refine e_then (e_getR hT (y := 230) (pc := 17) (q := (yX11_keep, cX11_keep, 1, (some .int), 11)) rfl (show aTab 230 17 = some (.getfield 12, 3, 0, 11, 0, 0, 0, 0) from rfl) rfl (by decide) (by decide) tm1 rfl rfl) ?_
  refine e_then (s_getV hT (y := 230) (pc := 20) (q := (yX11_keep, cX11_keep, 1, (some .int), 11)) rfl (show aTab 230 20 = some (.getfield 57, 3, 0, 1, 0, 0, 0, 0) from rfl) rfl (by decide) tm1 em1 1 rfl rfl (v := (g 1 0)) rfl) ?_
  exact e_fin (e_iret hT (y := 230) (pc := 23) (q := (yX11_keep, cX11_keep, 1, (some .int), 11)) rfl (show aTab 230 23 = some (.ireturn, 1, 0, 0, 0, 0, 0, 0) from rfl) ⟨rfl, rfl⟩) ⟨⟨_, rfl⟩, tm1, em1⟩
theorem xback_run (hT : aTabOk) {M : mHe} (hM : yTy M) {g : Nat → Nat → Int32} (hg : rdI M = g) : mEv none 30 (231, 0, lv_args 0 [.ref 9], []) M (fun r M' => (∃ x, r = some (.int x) ∧ x = if g 0 2 = 0 then -1000000002 else g 54 0) ∧ yTy M' ∧ rdI M' = if g 0 2 = 0 then g else gbk_X1_become g) := by
  obtain ⟨M1, ⟨K1, r1⟩, t1, e1⟩ := bk_X1_become hT hM hg (d := 29) (by decide)
  by_cases h : g 0 2 = 0
  · rw [if_pos h, if_pos h]
    refine e_then (e_al1 hT (y := 231) (pc := 0) (q := (yX11_back, cX11_back, 1, (some .int), 11)) rfl (show aTab 231 0 = some (.aload_n 0, 1, 0, 0, 0, 0, 0, 0) from rfl) rfl rfl) ?_
    refine e_then (s_getV hT (y := 231) (pc := 1) (q := (yX11_back, cX11_back, 1, (some .int), 11)) rfl (show aTab 231 1 = some (.getfield 262, 3, 0, 11, 2, 0, 0, 0) from rfl) rfl (by decide) hM hg 0 rfl rfl (v := (g 0 2)) rfl) ?_
    refine e_then (e_ifF hT (y := 231) (pc := 4) (q := (yX11_back, cX11_back, 1, (some .int), 11)) rfl (show aTab 231 4 = some (.ifCond .ne 7, 3, 0, 0, 0, 0, 0, 0) from rfl) rfl (t := 11) rfl (cdF (by show ¬ ¬ (g 0 2).toInt = _; rw [h]; decide))) ?_
    refine e_then (e_st hT (y := 231) (pc := 7) (q := (yX11_back, cX11_back, 1, (some .int), 11)) rfl (show aTab 231 7 = some (.ldc_w 270, 3, 7, 0, (-1000000002), 0, 0, 0) from rfl) (fr' := (231, 10, (lv_args 0 [.ref 9]), [.int (-1000000002)])) (M' := M) rfl) ?_
    exact e_fin (e_iret hT (y := 231) (pc := 10) (q := (yX11_back, cX11_back, 1, (some .int), 11)) rfl (show aTab 231 10 = some (.ireturn, 1, 0, 0, 0, 0, 0, 0) from rfl) ⟨rfl, rfl⟩) ⟨⟨_, rfl, rfl⟩, hM, hg⟩
  · rw [if_neg h, if_neg h]
    refine e_then (e_al1 hT (y := 231) (pc := 0) (q := (yX11_back, cX11_back, 1, (some .int), 11)) rfl (show aTab 231 0 = some (.aload_n 0, 1, 0, 0, 0, 0, 0, 0) from rfl) rfl rfl) ?_
    refine e_then (s_getV hT (y := 231) (pc := 1) (q := (yX11_back, cX11_back, 1, (some .int), 11)) rfl (show aTab 231 1 = some (.getfield 262, 3, 0, 11, 2, 0, 0, 0) from rfl) rfl (by decide) hM hg 0 rfl rfl (v := (g 0 2)) rfl) ?_
    refine e_then (e_ifT hT (y := 231) (pc := 4) (q := (yX11_back, cX11_back, 1, (some .int), 11)) rfl (show aTab 231 4 = some (.ifCond .ne 7, 3, 0, 0, 0, 0, 0, 0) from rfl) rfl (t := 11) rfl (cdT (by show ¬ (g 0 2).toInt = _; exact fun z => h (Int32.toInt_inj.mp z)))) ?_
    refine e_then (e_al1 hT (y := 231) (pc := 11) (q := (yX11_back, cX11_back, 1, (some .int), 11)) rfl (show aTab 231 11 = some (.aload_n 0, 1, 0, 0, 0, 0, 0, 0) from rfl) rfl rfl) ?_
    refine e_then (e_getR hT (y := 231) (pc := 12) (q := (yX11_back, cX11_back, 1, (some .int), 11)) rfl (show aTab 231 12 = some (.getfield 12, 3, 0, 11, 0, 0, 0, 0) from rfl) rfl (by decide) (by decide) hM rfl rfl) ?_
    refine e_then (e_al1 hT (y := 231) (pc := 15) (q := (yX11_back, cX11_back, 1, (some .int), 11)) rfl (show aTab 231 15 = some (.aload_n 0, 1, 0, 0, 0, 0, 0, 0) from rfl) rfl rfl) ?_
    refine e_then (e_getR hT (y := 231) (pc := 16) (q := (yX11_back, cX11_back, 1, (some .int), 11)) rfl (show aTab 231 16 = some (.getfield 16, 3, 0, 11, 1, 0, 0, 0) from rfl) rfl (by decide) (by decide) hM rfl rfl) ?_
    refine e_then (e_call hT (y := 231) (pc := 19) (q := (yX11_back, cX11_back, 1, (some .int), 11)) rfl (show aTab 231 19 = some (.invokevirtual 271, 3, 1, 12, 0, 1, 2, 1) from rfl) rfl ⟨by decide, Nat.le_of_ble_eq_true rfl⟩ (ob_at hM (rfl : tTy 1 = some (.inr (1, _)))).choose_spec (Nat.le_of_ble_eq_true rfl) (Nat.le_of_ble_eq_true rfl) ⟨by decide, by decide⟩ r1) ?_
    refine e_then (e_al1 hT (y := 231) (pc := 22) (q := (yX11_back, cX11_back, 1, (some .int), 11)) rfl (show aTab 231 22 = some (.aload_n 0, 1, 0, 0, 0, 0, 0, 0) from rfl) rfl rfl) ?_
    refine e_then (e_getR hT (y := 231) (pc := 23) (q := (yX11_back, cX11_back, 1, (some .int), 11)) rfl (show aTab 231 23 = some (.getfield 12, 3, 0, 11, 0, 0, 0, 0) from rfl) rfl (by decide) (by decide) t1 rfl rfl) ?_
    refine e_then (s_getV hT (y := 231) (pc := 26) (q := (yX11_back, cX11_back, 1, (some .int), 11)) rfl (show aTab 231 26 = some (.getfield 57, 3, 0, 1, 0, 0, 0, 0) from rfl) rfl (by decide) t1 e1 1 rfl rfl (v := (g 54 0)) rfl) ?_
    exact e_fin (e_iret hT (y := 231) (pc := 29) (q := (yX11_back, cX11_back, 1, (some .int), 11)) rfl (show aTab 231 29 = some (.ireturn, 1, 0, 0, 0, 0, 0, 0) from rfl) ⟨rfl, rfl⟩) ⟨⟨_, rfl, rfl⟩, t1, e1⟩
theorem mkeep_run (hT : aTabOk) (hc : tCtOk (356, [(0, 128, 0, 0), (0, 129, 0, 0), (0, 130, 0, 0)], none, [(121, 0, 3999, 1, 0)], 1, [(120, 121)], [])) {M : mHe} (hM : yTy M) {g : Nat → Nat → Int32} (hg : rdI M = g) : mEv none 30 (362, 0, lv_args 0 [.ref 128], []) M (fun r M' => (∃ x, r = some (.int x) ∧ x = g 120 0) ∧ yTy M' ∧ rdI M' = cpy (up2 g 119 3 1) 120 121) := by
  refine e_then (e_al1 hT (y := 362) (pc := 0) (q := (yX12_keep, cX12_keep, 1, (some .int), 12)) rfl (show aTab 362 0 = some (.aload_n 0, 1, 0, 0, 0, 0, 0, 0) from rfl) rfl rfl) ?_
  refine e_then (e_st hT (y := 362) (pc := 1) (q := (yX12_keep, cX12_keep, 1, (some .int), 12)) rfl (show aTab 362 1 = some (.iconst 1, 1, 0, 0, 0, 0, 0, 0) from rfl) (fr' := (362, 2, (lv_args 0 [.ref 128]), [.int 1, .ref 128])) (M' := M) rfl) ?_
  obtain ⟨m1, sm1, tm1, em1⟩ := s_putB (sc := none) (d := _) (lv := (lv_args 0 [.ref 128])) (st := []) (z := 1) hT (y := 362) (pc := 2) (q := (yX12_keep, cX12_keep, 1, (some .int), 12)) rfl (show aTab 362 2 = some (.putfield 415, 3, 0, 12, 3, 0, 0, 0) from rfl) rfl rfl ⟨by decide, rfl, rfl⟩ hM hg 119 rfl rfl ⟨by decide, by decide⟩ (kn := 3) rfl
  refine e_then sm1 ?_
  obtain ⟨M2, ⟨K2, r2⟩, t2, e2⟩ := s_aside hT hc tm1 em1 (d := 29) (by decide)
  refine e_then (e_al1 hT (y := 362) (pc := 5) (q := (yX12_keep, cX12_keep, 1, (some .int), 12)) rfl (show aTab 362 5 = some (.aload_n 0, 1, 0, 0, 0, 0, 0, 0) from rfl) rfl rfl) ?_
  refine e_then (e_al1 hT (y := 362) (pc := 6) (q := (yX12_keep, cX12_keep, 1, (some .int), 12)) rfl (show aTab 362 6 = some (.aload_n 0, 1, 0, 0, 0, 0, 0, 0) from rfl) rfl rfl) ?_
  refine e_then (e_getR hT (y := 362) (pc := 7) (q := (yX12_keep, cX12_keep, 1, (some .int), 12)) rfl (show aTab 362 7 = some (.getfield 7, 3, 0, 12, 0, 0, 0, 0) from rfl) rfl (by decide) (by decide) tm1 rfl rfl) ?_
  refine e_then (e_al1 hT (y := 362) (pc := 10) (q := (yX12_keep, cX12_keep, 1, (some .int), 12)) rfl (show aTab 362 10 = some (.aload_n 0, 1, 0, 0, 0, 0, 0, 0) from rfl) rfl rfl) ?_
  refine e_then (e_getR hT (y := 362) (pc := 11) (q := (yX12_keep, cX12_keep, 1, (some .int), 12)) rfl (show aTab 362 11 = some (.getfield 13, 3, 0, 12, 1, 0, 0, 0) from rfl) rfl (by decide) (by decide) tm1 rfl rfl) ?_
  refine e_then (e_call hT (y := 362) (pc := 14) (q := (yX12_keep, cX12_keep, 1, (some .int), 12)) rfl (show aTab 362 14 = some (.invokevirtual 419, 3, 1, 356, 0, 2, 4, 12) from rfl) rfl ⟨by decide, Nat.le_of_ble_eq_true rfl⟩ (ob_at tm1 (rfl : tTy 119 = some (.inr (12, _)))).choose_spec (Nat.le_of_ble_eq_true rfl) (Nat.le_of_ble_eq_true rfl) ⟨by decide, by decide⟩ r2) ?_
  refine e_then (e_al1 hT (y := 362) (pc := 17) (q := (yX12_keep, cX12_keep, 1, (some .int), 12)) rfl (show aTab 362 17 = some (.aload_n 0, 1, 0, 0, 0, 0, 0, 0) from rfl) rfl rfl) ?_
  refine e_then (e_getR hT (y := 362) (pc := 18) (q := (yX12_keep, cX12_keep, 1, (some .int), 12)) rfl (show aTab 362 18 = some (.getfield 7, 3, 0, 12, 0, 0, 0, 0) from rfl) rfl (by decide) (by decide) t2 rfl rfl) ?_
  refine e_then (e_st hT (y := 362) (pc := 21) (q := (yX12_keep, cX12_keep, 1, (some .int), 12)) rfl (show aTab 362 21 = some (.iconst 0, 1, 0, 0, 0, 0, 0, 0) from rfl) (fr' := (362, 22, (lv_args 0 [.ref 128]), [.int 0, .ref 129])) (M' := M2) rfl) ?_
  refine e_then (s_aldV hT (y := 362) (pc := 22) (q := (yX12_keep, cX12_keep, 1, (some .int), 12)) rfl (show aTab 362 22 = some (.iaload, 1, 0, 0, 0, 0, 0, 0) from rfl) rfl t2 e2 120 0 rfl rfl (by decide) (v := (g 120 0)) rfl) ?_
  exact e_fin (e_iret hT (y := 362) (pc := 23) (q := (yX12_keep, cX12_keep, 1, (some .int), 12)) rfl (show aTab 362 23 = some (.ireturn, 1, 0, 0, 0, 0, 0, 0) from rfl) ⟨rfl, rfl⟩) ⟨⟨_, rfl, rfl⟩, t2, e2⟩
theorem mback_run (hT : aTabOk) (hc : tCtOk (356, [(0, 128, 0, 0), (0, 130, 0, 0), (0, 129, 0, 0)], none, [(120, 0, 3999, 1, 0)], 1, [(121, 120)], [])) {M : mHe} (hM : yTy M) {g : Nat → Nat → Int32} (hg : rdI M = g) : mEv none 30 (363, 0, lv_args 0 [.ref 128], []) M (fun r M' => (∃ x, r = some (.int x) ∧ x = if g 119 3 = 0 then -1000000002 else g 121 0) ∧ yTy M' ∧ rdI M' = if g 119 3 = 0 then g else cpy g 121 120) := by
  obtain ⟨M2, ⟨K2, r2⟩, t2, e2⟩ := s_aside hT hc hM hg (d := 29) (by decide)
  by_cases h : g 119 3 = 0
  · rw [if_pos h, if_pos h]
    refine e_then (e_al1 hT (y := 363) (pc := 0) (q := (yX12_back, cX12_back, 1, (some .int), 12)) rfl (show aTab 363 0 = some (.aload_n 0, 1, 0, 0, 0, 0, 0, 0) from rfl) rfl rfl) ?_
    refine e_then (s_getV hT (y := 363) (pc := 1) (q := (yX12_back, cX12_back, 1, (some .int), 12)) rfl (show aTab 363 1 = some (.getfield 415, 3, 0, 12, 3, 0, 0, 0) from rfl) rfl (by decide) hM hg 119 rfl rfl (v := (g 119 3)) rfl) ?_
    refine e_then (e_ifF hT (y := 363) (pc := 4) (q := (yX12_back, cX12_back, 1, (some .int), 12)) rfl (show aTab 363 4 = some (.ifCond .ne 6, 3, 0, 0, 0, 0, 0, 0) from rfl) rfl (t := 10) rfl (cdF (by show ¬ ¬ (g 119 3).toInt = _; rw [h]; decide))) ?_
    refine e_then (e_st hT (y := 363) (pc := 7) (q := (yX12_back, cX12_back, 1, (some .int), 12)) rfl (show aTab 363 7 = some (.ldc 117, 2, 7, 0, (-1000000002), 0, 0, 0) from rfl) (fr' := (363, 9, (lv_args 0 [.ref 128]), [.int (-1000000002)])) (M' := M) rfl) ?_
    exact e_fin (e_iret hT (y := 363) (pc := 9) (q := (yX12_back, cX12_back, 1, (some .int), 12)) rfl (show aTab 363 9 = some (.ireturn, 1, 0, 0, 0, 0, 0, 0) from rfl) ⟨rfl, rfl⟩) ⟨⟨_, rfl, rfl⟩, hM, hg⟩
  · rw [if_neg h, if_neg h]
    refine e_then (e_al1 hT (y := 363) (pc := 0) (q := (yX12_back, cX12_back, 1, (some .int), 12)) rfl (show aTab 363 0 = some (.aload_n 0, 1, 0, 0, 0, 0, 0, 0) from rfl) rfl rfl) ?_
    refine e_then (s_getV hT (y := 363) (pc := 1) (q := (yX12_back, cX12_back, 1, (some .int), 12)) rfl (show aTab 363 1 = some (.getfield 415, 3, 0, 12, 3, 0, 0, 0) from rfl) rfl (by decide) hM hg 119 rfl rfl (v := (g 119 3)) rfl) ?_
    refine e_then (e_ifT hT (y := 363) (pc := 4) (q := (yX12_back, cX12_back, 1, (some .int), 12)) rfl (show aTab 363 4 = some (.ifCond .ne 6, 3, 0, 0, 0, 0, 0, 0) from rfl) rfl (t := 10) rfl (cdT (by show ¬ (g 119 3).toInt = _; exact fun z => h (Int32.toInt_inj.mp z)))) ?_
    refine e_then (e_al1 hT (y := 363) (pc := 10) (q := (yX12_back, cX12_back, 1, (some .int), 12)) rfl (show aTab 363 10 = some (.aload_n 0, 1, 0, 0, 0, 0, 0, 0) from rfl) rfl rfl) ?_
    refine e_then (e_al1 hT (y := 363) (pc := 11) (q := (yX12_back, cX12_back, 1, (some .int), 12)) rfl (show aTab 363 11 = some (.aload_n 0, 1, 0, 0, 0, 0, 0, 0) from rfl) rfl rfl) ?_
    refine e_then (e_getR hT (y := 363) (pc := 12) (q := (yX12_back, cX12_back, 1, (some .int), 12)) rfl (show aTab 363 12 = some (.getfield 13, 3, 0, 12, 1, 0, 0, 0) from rfl) rfl (by decide) (by decide) hM rfl rfl) ?_
    refine e_then (e_al1 hT (y := 363) (pc := 15) (q := (yX12_back, cX12_back, 1, (some .int), 12)) rfl (show aTab 363 15 = some (.aload_n 0, 1, 0, 0, 0, 0, 0, 0) from rfl) rfl rfl) ?_
    refine e_then (e_getR hT (y := 363) (pc := 16) (q := (yX12_back, cX12_back, 1, (some .int), 12)) rfl (show aTab 363 16 = some (.getfield 7, 3, 0, 12, 0, 0, 0, 0) from rfl) rfl (by decide) (by decide) hM rfl rfl) ?_
    refine e_then (e_call hT (y := 363) (pc := 19) (q := (yX12_back, cX12_back, 1, (some .int), 12)) rfl (show aTab 363 19 = some (.invokevirtual 419, 3, 1, 356, 0, 2, 4, 12) from rfl) rfl ⟨by decide, Nat.le_of_ble_eq_true rfl⟩ (ob_at hM (rfl : tTy 119 = some (.inr (12, _)))).choose_spec (Nat.le_of_ble_eq_true rfl) (Nat.le_of_ble_eq_true rfl) ⟨by decide, by decide⟩ r2) ?_
    refine e_then (e_al1 hT (y := 363) (pc := 22) (q := (yX12_back, cX12_back, 1, (some .int), 12)) rfl (show aTab 363 22 = some (.aload_n 0, 1, 0, 0, 0, 0, 0, 0) from rfl) rfl rfl) ?_
    refine e_then (e_getR hT (y := 363) (pc := 23) (q := (yX12_back, cX12_back, 1, (some .int), 12)) rfl (show aTab 363 23 = some (.getfield 7, 3, 0, 12, 0, 0, 0, 0) from rfl) rfl (by decide) (by decide) t2 rfl rfl) ?_
    refine e_then (e_st hT (y := 363) (pc := 26) (q := (yX12_back, cX12_back, 1, (some .int), 12)) rfl (show aTab 363 26 = some (.iconst 0, 1, 0, 0, 0, 0, 0, 0) from rfl) (fr' := (363, 27, (lv_args 0 [.ref 128]), [.int 0, .ref 129])) (M' := M2) rfl) ?_
    refine e_then (s_aldV hT (y := 363) (pc := 27) (q := (yX12_back, cX12_back, 1, (some .int), 12)) rfl (show aTab 363 27 = some (.iaload, 1, 0, 0, 0, 0, 0, 0) from rfl) rfl t2 e2 120 0 rfl rfl (by decide) (v := (g 121 0)) rfl) ?_
    exact e_fin (e_iret hT (y := 363) (pc := 28) (q := (yX12_back, cX12_back, 1, (some .int), 12)) rfl (show aTab 363 28 = some (.ireturn, 1, 0, 0, 0, 0, 0, 0) from rfl) ⟨rfl, rfl⟩) ⟨⟨_, rfl, rfl⟩, t2, e2⟩
