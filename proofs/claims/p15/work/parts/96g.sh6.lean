/-! A PAPER MORE -/
section TSW
variable {sc : Option (Nat × (Nat → Int32))} {d y pc : Nat} {lv : List (Nat × Value)} {st : List Value} {M : mHe} {q : mMd}
theorem e_tsD {d0 lo hi : Int} {offs : Array Int} {x : Nat × Nat × Nat × Int × Nat × Nat × Nat} {a : Int32} {t : Nat} (hT : aTabOk) (hq : mjM y = some q) (he : aTab y pc = some (.tableswitch d0 lo hi offs, x)) (hr : a.toInt < lo ∨ hi < a.toInt) (ht : mTg pc d0 = some t) : mTo sc d (y, pc, lv, .int a :: st) M (y, t, lv, st) M := by
  refine mTo_step ?_
  rw [(e_eq hT hq he).1]
  refine mOr_r (fun s hs => by have := mG1 hs; cases this) (mOr_r (fun s hs => by have := mG2 hs; cases this) (mOr_r (fun s hs => by have := mG3 hs; cases this) (mOr_l ?_)))
  show (if a.toInt < lo ∨ hi < a.toInt then mBr y pc d0 lv st M else _) = _
  rw [if_pos hr]
  simp only [mBr, ht]
  rfl
theorem e_tsC {d0 lo hi off v : Int} {offs : Array Int} {x : Nat × Nat × Nat × Int × Nat × Nat × Nat} {a : Int32} {t : Nat} (hT : aTabOk) (hq : mjM y = some q) (he : aTab y pc = some (.tableswitch d0 lo hi offs, x)) (ha : a.toInt = v) (hv : lo ≤ v ∧ v ≤ hi) (ho : offs[(v - lo).toNat]? = some off) (ht : mTg pc off = some t) : mTo sc d (y, pc, lv, .int a :: st) M (y, t, lv, st) M := by
  refine mTo_step ?_
  rw [(e_eq hT hq he).1]
  refine mOr_r (fun s hs => by have := mG1 hs; cases this) (mOr_r (fun s hs => by have := mG2 hs; cases this) (mOr_r (fun s hs => by have := mG3 hs; cases this) (mOr_l ?_)))
  show (if a.toInt < lo ∨ hi < a.toInt then _ else (match offs[(a.toInt - lo).toNat]? with
      | some off => mBr y pc off lv st M
      | none => none)) = _
  rw [if_neg (by omega), ha, ho]
  simp only [mBr, ht]
  rfl
end TSW
section HRD5
variable {sc : Option (Nat × (Nat → Int32))} {d y pc : Nat} {lv : List (Nat × Value)} {st : List Value} {M : mHe} {q : mMd} {g : Nat → Nat → Int32}
/-- a number put at a place C + m * N of the row of all, with what it has to keep -/
theorem s_asq {x : Nat × Nat × Nat × Int × Nat × Nat × Nat} {i z : Int32} {l h vl vh : Int} {C m N : Nat} (hT : aTabOk) (hq : mjM y = some q) (he : aTab y pc = some (.iastore, x)) (h1 : x.1 = 1) (hM : yTy M) (hg : rdI M = g) (hc : tWr tRegS ((C : Int) + (m : Int) * l) ((C : Int) + (m : Int) * h) (some (120, 0, (C : Int), m)) vl vh = true) (hm : 0 < m) (hN : l ≤ (N : Int) ∧ (N : Int) ≤ h) (hk : C + m * N < 4000) (hi : i.toInt = ((C + m * N : Nat) : Int)) (hz : vl ≤ z.toInt ∧ z.toInt ≤ vh) (hP : ∀ f : Nat → Int32, (∀ j, j < 4000 → f j = g 120 j) → yP f → yP (upd f (C + m * N) z)) : ∃ M', mTo sc d (y, pc, lv, .int z :: .int i :: .ref (9 + 120) :: st) M (y, pc + 1, lv, st) M' ∧ yTy M' ∧ rdI M' = up2 g 120 (C + m * N) z := by
  obtain ⟨f, hf, hT1, hP1⟩ := yTy_arr hM tTy_120
  have hgf : ∀ j, j < 4000 → f j = g 120 j := fun j hj => by
    rw [← hg]
    exact (rdI_arr (by decide) hf hj).symm
  have e : i.toInt.toNat = C + m * N := by omega
  have h2 := e_ast (sc := sc) (d := d) (lv := lv) (st := st) (M := M) (r := 9 + 120) (i := i) (f := f) (n := 4000) (z := z) hT hq he ⟨h1, by omega⟩ hf ⟨by omega, by omega⟩
  rw [e] at h2
  have hmul : (N : Int) * (m : Int) = ((m * N : Nat) : Int) := by rw [Int.natCast_mul, Int.mul_comm]
  have m1 : (m : Int) * l ≤ (m : Int) * (N : Int) := Int.mul_le_mul_of_nonneg_left hN.1 (by omega)
  have m2 : (m : Int) * (N : Int) ≤ (m : Int) * h := Int.mul_le_mul_of_nonneg_left hN.2 (by omega)
  rw [Int.mul_comm (m : Int) (N : Int), hmul] at m1 m2
  refine ⟨_, h2, yTy_set hM tTy_120 (tWr_ok (E := [(N : Int)]) (by omega) (by omega) (fun q hq => ?_) hz hT1 hc) (fun _ => hP f hgf (hP1 rfl)), by rw [ar_set (by decide) hf hk, hg]⟩
  cases hq
  unfold yIx
  simp only
  rw [if_neg (by omega)]
  show some ((N : Int) * (m : Int) + (C : Int)) = _
  rw [hmul]
  congr 1
  omega
theorem yP_hi {f : Nat → Int32} {k P : Nat} {z : Int32} (hp : yP f) (h5 : (f 5).toInt = (P : Int)) (hk : 160 + 10 * P ≤ k ∧ k < 1010) : yP (upd f k z) := yP_same (upd_ne _ _ (by omega)) (upd_ne _ _ (by omega)) (fun j o hj ho => upd_ne _ _ (by omega)) (fun j hj => Or.inl (upd_ne _ _ (by omega))) (fun i h1 h2 => upd_ne _ _ (by omega)) hp
theorem yP_app {f : Nat → Int32} {P : Nat} (hp : yP f) (h5 : (f 5).toInt = (P : Int)) (hP : P < 40) (ha : yPap f P) : yP (upd f 5 (Int32.ofNat (P + 1))) := by
  obtain ⟨p1, p2, p3, p4⟩ := hp
  have e5 := i32n (k := P + 1) (by omega)
  have e : ∀ k o, yPk (upd f 5 (Int32.ofNat (P + 1))) k o = yPk f k o := fun k o => by
    unfold yPk
    rw [upd_ne _ _ (by omega)]
  have ep : ∀ k, yPap f k → yPap (upd f 5 (Int32.ofNat (P + 1))) k := fun k h => by
    unfold yPap at h ⊢
    simp only [e]
    exact h
  refine ⟨by rw [upd_same, e5]; omega, fun k hk => ?_, by rw [upd_ne _ _ (by decide)]; exact p3, fun t ht => ?_⟩
  · rw [upd_same, e5] at hk
    by_cases c : k = P
    · subst c; exact ep _ ha
    · exact ep _ (p2 k (by omega))
  · obtain ⟨⟨a1, dep, a2, a3⟩, a4⟩ := p4 t ht
    refine ⟨⟨by rw [upd_ne _ _ (by omega)]; exact a1, dep, a2, fun j hj => ?_⟩, fun h => ?_⟩
    · rw [upd_ne _ _ (by omega)] at hj
      rw [upd_ne _ _ (by omega), upd_ne _ _ (by omega)]
      exact a3 j hj
    · rw [upd_ne _ _ (by decide)] at h
      rw [upd_ne _ _ (by omega)]
      exact a4 h
end HRD5
def kdO (kd : Nat → Int32) (P : Nat) (p : Int32) : Int32 := if 0 ≤ p.toInt ∧ p.toInt < (P : Int) then kd p.toInt.toNat else -1000000005
def lnP (kd : Nat → Int32) (P : Nat) (p : Int32) : Prop := (0 ≤ p.toInt ∧ p.toInt < (P : Int)) ∧ (kd p.toInt.toNat).toInt = 1
def chP (kd : Nat → Int32) (P : Nat) (p : Int32) : Prop := (0 ≤ p.toInt ∧ p.toInt < (P : Int)) ∧ (2 ≤ (kd p.toInt.toNat).toInt ∧ (kd p.toInt.toNat).toInt ≤ 3)
def twP (a t o : Int32) : Prop := 0 ≤ a.toInt ∧ a.toInt / 10 < t.toInt ∧ a.toInt % 10 < o.toInt
theorem dv10 {a : Int32} (h : 0 ≤ a.toInt) : (a / 10).toInt = a.toInt / 10 := i32_div h (by decide)
theorem rm10 {a : Int32} (h : 0 ≤ a.toInt) : (a - a / 10 * 10).toInt = a.toInt % 10 := by
  have e := dv10 h
  have e10 : (10 : Int32).toInt = 10 := rfl
  have h1 := i32_hi a
  have e2 : (a / 10 * 10).toInt = a.toInt / 10 * 10 := by rw [i32_mul (by rw [e, e10]; omega) (by rw [e, e10]; omega), e, e10]
  rw [i32_sub (by rw [e2]; omega) (by rw [e2]; omega), e2]
  omega
theorem xkd_run (hT : aTabOk) {M : mHe} (hM : yTy M) {g : Nat → Nat → Int32} (hg : rdI M = g) {P : Nat} (hP : g 11 0 = Int32.ofNat P) (hP2 : P ≤ 40) {p : Int32} {d : Nat} (hd : 10 ≤ d) : ∃ K, mRun none K d (71, 0, lv_args 0 [.ref 20, .int p], []) M = some (some (.int (kdO (g 12) P p)), M) := by
  obtain ⟨K1, q1⟩ := xhs_run hT hM hg hP hP2 (p := p) (d := 9) (by decide)
  have go : mEv none 10 (71, 0, lv_args 0 [.ref 20, .int p], []) M (fun r M' => r = some (.int (kdO (g 12) P p)) ∧ M' = M) := by
    unfold kdO
    refine e_then (e_al1 hT (y := 71) (pc := 0) (q := (yX4_kindOf, cX4_kindOf, 2, (some .int), 4)) rfl (show aTab 71 0 = some (.aload_n 0, 1, 0, 0, 0, 0, 0, 0) from rfl) rfl rfl) ?_
    refine e_then (e_il1 hT (y := 71) (pc := 1) (q := (yX4_kindOf, cX4_kindOf, 2, (some .int), 4)) rfl (show aTab 71 1 = some (.iload_n 1, 1, 0, 0, 0, 0, 0, 0) from rfl) rfl rfl) ?_
    by_cases c1 : 0 ≤ p.toInt ∧ p.toInt < (P : Int)
    · rw [gB_t c1] at q1
      refine e_then (e_call hT (y := 71) (pc := 2) (q := (yX4_kindOf, cX4_kindOf, 2, (some .int), 4)) rfl (show aTab 71 2 = some (.invokevirtual 56, 3, 1, 70, 0, 1, 2, 4) from rfl) rfl ⟨by decide, Nat.le_of_ble_eq_true rfl⟩ (ob_at hM (rfl : tTy 11 = some (.inr (4, _)))).choose_spec (Nat.le_of_ble_eq_true rfl) (Nat.le_of_ble_eq_true rfl) ⟨by decide, by decide⟩ q1) ?_
      refine e_then (e_ifF hT (y := 71) (pc := 5) (q := (yX4_kindOf, cX4_kindOf, 2, (some .int), 4)) rfl (show aTab 71 5 = some (.ifCond .eq 12, 3, 0, 0, 0, 0, 0, 0) from rfl) rfl (t := 17) rfl (cdF (by show ¬ (_ = _); decide))) ?_
      obtain ⟨pp, hpp⟩ : ∃ n : Nat, (n : Int) = p.toInt := ⟨p.toInt.toNat, by omega⟩
      have epp : p.toInt.toNat = pp := by omega
      refine e_then (e_al1 hT (y := 71) (pc := 8) (q := (yX4_kindOf, cX4_kindOf, 2, (some .int), 4)) rfl (show aTab 71 8 = some (.aload_n 0, 1, 0, 0, 0, 0, 0, 0) from rfl) rfl rfl) ?_
      refine e_then (e_getR hT (y := 71) (pc := 9) (q := (yX4_kindOf, cX4_kindOf, 2, (some .int), 4)) rfl (show aTab 71 9 = some (.getfield 9, 3, 0, 4, 1, 0, 0, 0) from rfl) rfl (by decide) (by decide) hM rfl rfl) ?_
      refine e_then (e_il1 hT (y := 71) (pc := 12) (q := (yX4_kindOf, cX4_kindOf, 2, (some .int), 4)) rfl (show aTab 71 12 = some (.iload_n 1, 1, 0, 0, 0, 0, 0, 0) from rfl) rfl rfl) ?_
      refine e_then (s_ald hT (y := 71) (pc := 13) (q := (yX4_kindOf, cX4_kindOf, 2, (some .int), 4)) rfl (show aTab 71 13 = some (.iaload, 1, 0, 0, 0, 0, 0, 0) from rfl) rfl hM hg 12 pp rfl hpp.symm (by omega)) ?_
      refine e_then (e_st hT (y := 71) (pc := 14) (q := (yX4_kindOf, cX4_kindOf, 2, (some .int), 4)) rfl (show aTab 71 14 = some (.goto 5, 3, 0, 0, 0, 0, 0, 0) from rfl) (fr' := (71, 19, (lv_args 0 [.ref 20, .int p]), [.int (g 12 pp)])) (M' := M) rfl) ?_
      rw [if_pos c1, epp]
      exact e_fin (e_iret hT (y := 71) (pc := 19) (q := (yX4_kindOf, cX4_kindOf, 2, (some .int), 4)) rfl (show aTab 71 19 = some (.ireturn, 1, 0, 0, 0, 0, 0, 0) from rfl) ⟨rfl, rfl⟩) ⟨rfl, rfl⟩
    · rw [gB_f c1] at q1
      refine e_then (e_call hT (y := 71) (pc := 2) (q := (yX4_kindOf, cX4_kindOf, 2, (some .int), 4)) rfl (show aTab 71 2 = some (.invokevirtual 56, 3, 1, 70, 0, 1, 2, 4) from rfl) rfl ⟨by decide, Nat.le_of_ble_eq_true rfl⟩ (ob_at hM (rfl : tTy 11 = some (.inr (4, _)))).choose_spec (Nat.le_of_ble_eq_true rfl) (Nat.le_of_ble_eq_true rfl) ⟨by decide, by decide⟩ q1) ?_
      refine e_then (e_ifT hT (y := 71) (pc := 5) (q := (yX4_kindOf, cX4_kindOf, 2, (some .int), 4)) rfl (show aTab 71 5 = some (.ifCond .eq 12, 3, 0, 0, 0, 0, 0, 0) from rfl) rfl (t := 17) rfl (cdT (by show _ = _; decide))) ?_
      refine e_then (e_st hT (y := 71) (pc := 17) (q := (yX4_kindOf, cX4_kindOf, 2, (some .int), 4)) rfl (show aTab 71 17 = some (.ldc 60, 2, 7, 0, (-1000000005), 0, 0, 0) from rfl) (fr' := (71, 19, (lv_args 0 [.ref 20, .int p]), [.int (-1000000005)])) (M' := M) rfl) ?_
      rw [if_neg c1]
      exact e_fin (e_iret hT (y := 71) (pc := 19) (q := (yX4_kindOf, cX4_kindOf, 2, (some .int), 4)) rfl (show aTab 71 19 = some (.ireturn, 1, 0, 0, 0, 0, 0, 0) from rfl) ⟨rfl, rfl⟩) ⟨rfl, rfl⟩
  obtain ⟨K, r, M', q, rfl, rfl⟩ := go
  exact ⟨K, mRun_dm q hd⟩
theorem xil_run (hT : aTabOk) {M : mHe} (hM : yTy M) {g : Nat → Nat → Int32} (hg : rdI M = g) {P : Nat} (hP : g 11 0 = Int32.ofNat P) (hP2 : P ≤ 40) {p : Int32} {d : Nat} (hd : 15 ≤ d) [Decidable (lnP (g 12) P p)] : ∃ K, mRun none K d (77, 0, lv_args 0 [.ref 20, .int p], []) M = some (some (.int (gB (decide (lnP (g 12) P p)))), M) := by
  obtain ⟨K1, q1⟩ := xkd_run hT hM hg hP hP2 (p := p) (d := 14) (by decide)
  have e1 : (1 : Int32).toInt = 1 := rfl
  have key : lnP (g 12) P p ↔ (kdO (g 12) P p).toInt = 1 := by
    unfold lnP kdO
    by_cases c : 0 ≤ p.toInt ∧ p.toInt < (P : Int)
    · rw [if_pos c]; exact ⟨fun z => z.2, fun z => ⟨c, z⟩⟩
    · rw [if_neg c]; exact ⟨fun z => absurd z.1 c, fun z => absurd z (by decide)⟩
  have go : mEv none 15 (77, 0, lv_args 0 [.ref 20, .int p], []) M (fun r M' => r = some (.int (gB (decide (lnP (g 12) P p)))) ∧ M' = M) := by
    refine e_then (e_al1 hT (y := 77) (pc := 0) (q := (yX4_isLine, cX4_isLine, 2, (some .boolean), 4)) rfl (show aTab 77 0 = some (.aload_n 0, 1, 0, 0, 0, 0, 0, 0) from rfl) rfl rfl) ?_
    refine e_then (e_il1 hT (y := 77) (pc := 1) (q := (yX4_isLine, cX4_isLine, 2, (some .boolean), 4)) rfl (show aTab 77 1 = some (.iload_n 1, 1, 0, 0, 0, 0, 0, 0) from rfl) rfl rfl) ?_
    refine e_then (e_call hT (y := 77) (pc := 2) (q := (yX4_isLine, cX4_isLine, 2, (some .boolean), 4)) rfl (show aTab 77 2 = some (.invokevirtual 65, 3, 1, 71, 0, 1, 2, 4) from rfl) rfl ⟨by decide, Nat.le_of_ble_eq_true rfl⟩ (ob_at hM (rfl : tTy 11 = some (.inr (4, _)))).choose_spec (Nat.le_of_ble_eq_true rfl) (Nat.le_of_ble_eq_true rfl) ⟨by decide, by decide⟩ q1) ?_
    refine e_then (e_st hT (y := 77) (pc := 5) (q := (yX4_isLine, cX4_isLine, 2, (some .boolean), 4)) rfl (show aTab 77 5 = some (.iconst 1, 1, 0, 0, 0, 0, 0, 0) from rfl) (fr' := (77, 6, (lv_args 0 [.ref 20, .int p]), [.int 1, .int (kdO (g 12) P p)])) (M' := M) rfl) ?_
    by_cases c1 : (kdO (g 12) P p).toInt = 1
    · refine e_then (e_icF hT (y := 77) (pc := 6) (q := (yX4_isLine, cX4_isLine, 2, (some .boolean), 4)) rfl (show aTab 77 6 = some (.if_icmp .ne 7, 3, 0, 0, 0, 0, 0, 0) from rfl) rfl (t := 13) rfl (cdF (by show ¬ (¬ _ = _); omega))) ?_
      refine e_then (e_st hT (y := 77) (pc := 9) (q := (yX4_isLine, cX4_isLine, 2, (some .boolean), 4)) rfl (show aTab 77 9 = some (.iconst 1, 1, 0, 0, 0, 0, 0, 0) from rfl) (fr' := (77, 10, (lv_args 0 [.ref 20, .int p]), [.int 1])) (M' := M) rfl) ?_
      refine e_then (e_st hT (y := 77) (pc := 10) (q := (yX4_isLine, cX4_isLine, 2, (some .boolean), 4)) rfl (show aTab 77 10 = some (.goto 4, 3, 0, 0, 0, 0, 0, 0) from rfl) (fr' := (77, 14, (lv_args 0 [.ref 20, .int p]), [.int 1])) (M' := M) rfl) ?_
      rw [gB_t (key.mpr c1)]
      exact e_fin (e_zret hT (y := 77) (pc := 14) (q := (yX4_isLine, cX4_isLine, 2, (some .boolean), 4)) rfl (show aTab 77 14 = some (.ireturn, 1, 0, 0, 0, 0, 0, 0) from rfl) ⟨rfl, rfl⟩ (Or.inr rfl)) ⟨rfl, rfl⟩
    · refine e_then (e_icT hT (y := 77) (pc := 6) (q := (yX4_isLine, cX4_isLine, 2, (some .boolean), 4)) rfl (show aTab 77 6 = some (.if_icmp .ne 7, 3, 0, 0, 0, 0, 0, 0) from rfl) rfl (t := 13) rfl (cdT (by show ¬ _ = _; omega))) ?_
      refine e_then (e_st hT (y := 77) (pc := 13) (q := (yX4_isLine, cX4_isLine, 2, (some .boolean), 4)) rfl (show aTab 77 13 = some (.iconst 0, 1, 0, 0, 0, 0, 0, 0) from rfl) (fr' := (77, 14, (lv_args 0 [.ref 20, .int p]), [.int 0])) (M' := M) rfl) ?_
      rw [gB_f (fun z => c1 (key.mp z))]
      exact e_fin (e_zret hT (y := 77) (pc := 14) (q := (yX4_isLine, cX4_isLine, 2, (some .boolean), 4)) rfl (show aTab 77 14 = some (.ireturn, 1, 0, 0, 0, 0, 0, 0) from rfl) ⟨rfl, rfl⟩ (Or.inl rfl)) ⟨rfl, rfl⟩
  obtain ⟨K, r, M', q, rfl, rfl⟩ := go
  exact ⟨K, mRun_dm q hd⟩
theorem xic_run (hT : aTabOk) {M : mHe} (hM : yTy M) {g : Nat → Nat → Int32} (hg : rdI M = g) {P : Nat} (hP : g 11 0 = Int32.ofNat P) (hP2 : P ≤ 40) {p : Int32} {d : Nat} (hd : 10 ≤ d) [Decidable (chP (g 12) P p)] : ∃ K, mRun none K d (78, 0, lv_args 0 [.ref 20, .int p], []) M = some (some (.int (gB (decide (chP (g 12) P p)))), M) := by
  obtain ⟨K1, q1⟩ := xhs_run hT hM hg hP hP2 (p := p) (d := 9) (by decide)
  obtain ⟨K2, q2⟩ := within_i hT (M := M) (v := g 12 p.toInt.toNat) (l := 2) (h := 3) (d := 9) (by decide)
  rw [show (2 : Int32).toInt = 2 from rfl, show (3 : Int32).toInt = 3 from rfl] at q2
  have go : mEv none 10 (78, 0, lv_args 0 [.ref 20, .int p], []) M (fun r M' => r = some (.int (gB (decide (chP (g 12) P p)))) ∧ M' = M) := by
    refine e_then (e_al1 hT (y := 78) (pc := 0) (q := (yX4_isChange, cX4_isChange, 2, (some .boolean), 4)) rfl (show aTab 78 0 = some (.aload_n 0, 1, 0, 0, 0, 0, 0, 0) from rfl) rfl rfl) ?_
    refine e_then (e_il1 hT (y := 78) (pc := 1) (q := (yX4_isChange, cX4_isChange, 2, (some .boolean), 4)) rfl (show aTab 78 1 = some (.iload_n 1, 1, 0, 0, 0, 0, 0, 0) from rfl) rfl rfl) ?_
    by_cases c1 : 0 ≤ p.toInt ∧ p.toInt < (P : Int)
    · rw [gB_t c1] at q1
      refine e_then (e_call hT (y := 78) (pc := 2) (q := (yX4_isChange, cX4_isChange, 2, (some .boolean), 4)) rfl (show aTab 78 2 = some (.invokevirtual 56, 3, 1, 70, 0, 1, 2, 4) from rfl) rfl ⟨by decide, Nat.le_of_ble_eq_true rfl⟩ (ob_at hM (rfl : tTy 11 = some (.inr (4, _)))).choose_spec (Nat.le_of_ble_eq_true rfl) (Nat.le_of_ble_eq_true rfl) ⟨by decide, by decide⟩ q1) ?_
      refine e_then (e_ifF hT (y := 78) (pc := 5) (q := (yX4_isChange, cX4_isChange, 2, (some .boolean), 4)) rfl (show aTab 78 5 = some (.ifCond .eq 21, 3, 0, 0, 0, 0, 0, 0) from rfl) rfl (t := 26) rfl (cdF (by show ¬ (_ = _); decide))) ?_
      obtain ⟨pp, hpp⟩ : ∃ n : Nat, (n : Int) = p.toInt := ⟨p.toInt.toNat, by omega⟩
      have epp : p.toInt.toNat = pp := by omega
      rw [epp] at q2
      refine e_then (e_al1 hT (y := 78) (pc := 8) (q := (yX4_isChange, cX4_isChange, 2, (some .boolean), 4)) rfl (show aTab 78 8 = some (.aload_n 0, 1, 0, 0, 0, 0, 0, 0) from rfl) rfl rfl) ?_
      refine e_then (e_getR hT (y := 78) (pc := 9) (q := (yX4_isChange, cX4_isChange, 2, (some .boolean), 4)) rfl (show aTab 78 9 = some (.getfield 9, 3, 0, 4, 1, 0, 0, 0) from rfl) rfl (by decide) (by decide) hM rfl rfl) ?_
      refine e_then (e_il1 hT (y := 78) (pc := 12) (q := (yX4_isChange, cX4_isChange, 2, (some .boolean), 4)) rfl (show aTab 78 12 = some (.iload_n 1, 1, 0, 0, 0, 0, 0, 0) from rfl) rfl rfl) ?_
      refine e_then (s_ald hT (y := 78) (pc := 13) (q := (yX4_isChange, cX4_isChange, 2, (some .boolean), 4)) rfl (show aTab 78 13 = some (.iaload, 1, 0, 0, 0, 0, 0, 0) from rfl) rfl hM hg 12 pp rfl hpp.symm (by omega)) ?_
      refine e_then (e_st hT (y := 78) (pc := 14) (q := (yX4_isChange, cX4_isChange, 2, (some .boolean), 4)) rfl (show aTab 78 14 = some (.iconst 2, 1, 0, 0, 0, 0, 0, 0) from rfl) (fr' := (78, 15, (lv_args 0 [.ref 20, .int p]), [.int 2, .int (g 12 pp)])) (M' := M) rfl) ?_
      refine e_then (e_st hT (y := 78) (pc := 15) (q := (yX4_isChange, cX4_isChange, 2, (some .boolean), 4)) rfl (show aTab 78 15 = some (.iconst 3, 1, 0, 0, 0, 0, 0, 0) from rfl) (fr' := (78, 16, (lv_args 0 [.ref 20, .int p]), [.int 3, .int 2, .int (g 12 pp)])) (M' := M) rfl) ?_
      by_cases c2 : 2 ≤ (g 12 pp).toInt ∧ (g 12 pp).toInt ≤ 3
      · rw [gB_t c2] at q2
        refine e_then (e_callsN hT (y := 78) (pc := 16) (q := (yX4_isChange, cX4_isChange, 2, (some .boolean), 4)) rfl (show aTab 78 16 = some (.invokestatic 61, 3, 3, 234, 0, 3, 3, 11) from rfl) (Nat.le_of_ble_eq_true rfl) (Nat.le_of_ble_eq_true rfl) (Nat.le_of_ble_eq_true rfl) ⟨by decide, by decide⟩ q2) ?_
        refine e_then (e_ifF hT (y := 78) (pc := 19) (q := (yX4_isChange, cX4_isChange, 2, (some .boolean), 4)) rfl (show aTab 78 19 = some (.ifCond .eq 7, 3, 0, 0, 0, 0, 0, 0) from rfl) rfl (t := 26) rfl (cdF (by show ¬ (_ = _); decide))) ?_
        refine e_then (e_st hT (y := 78) (pc := 22) (q := (yX4_isChange, cX4_isChange, 2, (some .boolean), 4)) rfl (show aTab 78 22 = some (.iconst 1, 1, 0, 0, 0, 0, 0, 0) from rfl) (fr' := (78, 23, (lv_args 0 [.ref 20, .int p]), [.int 1])) (M' := M) rfl) ?_
        refine e_then (e_st hT (y := 78) (pc := 23) (q := (yX4_isChange, cX4_isChange, 2, (some .boolean), 4)) rfl (show aTab 78 23 = some (.goto 4, 3, 0, 0, 0, 0, 0, 0) from rfl) (fr' := (78, 27, (lv_args 0 [.ref 20, .int p]), [.int 1])) (M' := M) rfl) ?_
        rw [gB_t (show chP (g 12) P p from ⟨c1, by rw [epp]; exact c2⟩)]
        exact e_fin (e_zret hT (y := 78) (pc := 27) (q := (yX4_isChange, cX4_isChange, 2, (some .boolean), 4)) rfl (show aTab 78 27 = some (.ireturn, 1, 0, 0, 0, 0, 0, 0) from rfl) ⟨rfl, rfl⟩ (Or.inr rfl)) ⟨rfl, rfl⟩
      · rw [gB_f c2] at q2
        refine e_then (e_callsN hT (y := 78) (pc := 16) (q := (yX4_isChange, cX4_isChange, 2, (some .boolean), 4)) rfl (show aTab 78 16 = some (.invokestatic 61, 3, 3, 234, 0, 3, 3, 11) from rfl) (Nat.le_of_ble_eq_true rfl) (Nat.le_of_ble_eq_true rfl) (Nat.le_of_ble_eq_true rfl) ⟨by decide, by decide⟩ q2) ?_
        refine e_then (e_ifT hT (y := 78) (pc := 19) (q := (yX4_isChange, cX4_isChange, 2, (some .boolean), 4)) rfl (show aTab 78 19 = some (.ifCond .eq 7, 3, 0, 0, 0, 0, 0, 0) from rfl) rfl (t := 26) rfl (cdT (by show _ = _; decide))) ?_
        refine e_then (e_st hT (y := 78) (pc := 26) (q := (yX4_isChange, cX4_isChange, 2, (some .boolean), 4)) rfl (show aTab 78 26 = some (.iconst 0, 1, 0, 0, 0, 0, 0, 0) from rfl) (fr' := (78, 27, (lv_args 0 [.ref 20, .int p]), [.int 0])) (M' := M) rfl) ?_
        rw [gB_f (show ¬ chP (g 12) P p from (fun z => by first | exact c1 z.1 | (have z2 := z.2; rw [epp] at z2; exact c2 z2)))]
        exact e_fin (e_zret hT (y := 78) (pc := 27) (q := (yX4_isChange, cX4_isChange, 2, (some .boolean), 4)) rfl (show aTab 78 27 = some (.ireturn, 1, 0, 0, 0, 0, 0, 0) from rfl) ⟨rfl, rfl⟩ (Or.inl rfl)) ⟨rfl, rfl⟩
    · rw [gB_f c1] at q1
      refine e_then (e_call hT (y := 78) (pc := 2) (q := (yX4_isChange, cX4_isChange, 2, (some .boolean), 4)) rfl (show aTab 78 2 = some (.invokevirtual 56, 3, 1, 70, 0, 1, 2, 4) from rfl) rfl ⟨by decide, Nat.le_of_ble_eq_true rfl⟩ (ob_at hM (rfl : tTy 11 = some (.inr (4, _)))).choose_spec (Nat.le_of_ble_eq_true rfl) (Nat.le_of_ble_eq_true rfl) ⟨by decide, by decide⟩ q1) ?_
      refine e_then (e_ifT hT (y := 78) (pc := 5) (q := (yX4_isChange, cX4_isChange, 2, (some .boolean), 4)) rfl (show aTab 78 5 = some (.ifCond .eq 21, 3, 0, 0, 0, 0, 0, 0) from rfl) rfl (t := 26) rfl (cdT (by show _ = _; decide))) ?_
      refine e_then (e_st hT (y := 78) (pc := 26) (q := (yX4_isChange, cX4_isChange, 2, (some .boolean), 4)) rfl (show aTab 78 26 = some (.iconst 0, 1, 0, 0, 0, 0, 0, 0) from rfl) (fr' := (78, 27, (lv_args 0 [.ref 20, .int p]), [.int 0])) (M' := M) rfl) ?_
      rw [gB_f (show ¬ chP (g 12) P p from (fun z => by first | exact c1 z.1 | (have z2 := z.2; rw [epp] at z2; exact c2 z2)))]
      exact e_fin (e_zret hT (y := 78) (pc := 27) (q := (yX4_isChange, cX4_isChange, 2, (some .boolean), 4)) rfl (show aTab 78 27 = some (.ireturn, 1, 0, 0, 0, 0, 0, 0) from rfl) ⟨rfl, rfl⟩ (Or.inl rfl)) ⟨rfl, rfl⟩
  obtain ⟨K, r, M', q, rfl, rfl⟩ := go
  exact ⟨K, mRun_dm q hd⟩
theorem xtw_run (hT : aTabOk) {M : mHe} {a t o : Int32} {d : Nat} (hd : 5 ≤ d) [Decidable (twP a t o)] : ∃ K, mRun none K d (235, 0, lv_args 0 [.int a, .int t, .int o], []) M = some (some (.int (gB (decide (twP a t o)))), M) := by
  have go : mEv none 5 (235, 0, lv_args 0 [.int a, .int t, .int o], []) M (fun r M' => r = some (.int (gB (decide (twP a t o)))) ∧ M' = M) := by
    refine e_then (e_il1 hT (y := 235) (pc := 0) (q := (yX11_isTwo, cX11_isTwo, 3, (some .boolean), 11)) rfl (show aTab 235 0 = some (.iload_n 0, 1, 0, 0, 0, 0, 0, 0) from rfl) rfl rfl) ?_
    by_cases c1 : a.toInt < 0
    · refine e_then (e_ifT hT (y := 235) (pc := 1) (q := (yX11_isTwo, cX11_isTwo, 3, (some .boolean), 11)) rfl (show aTab 235 1 = some (.ifCond .lt 23, 3, 0, 0, 0, 0, 0, 0) from rfl) rfl (t := 24) rfl (cdT (by have e0 : (0 : Int32).toInt = 0 := rfl; show _ < _; omega))) ?_
      refine e_then (e_st hT (y := 235) (pc := 24) (q := (yX11_isTwo, cX11_isTwo, 3, (some .boolean), 11)) rfl (show aTab 235 24 = some (.iconst 0, 1, 0, 0, 0, 0, 0, 0) from rfl) (fr' := (235, 25, (lv_args 0 [.int a, .int t, .int o]), [.int 0])) (M' := M) rfl) ?_
      rw [gB_f (show ¬ twP a t o from (fun z => by unfold twP at z; omega))]
      exact e_fin (e_zret hT (y := 235) (pc := 25) (q := (yX11_isTwo, cX11_isTwo, 3, (some .boolean), 11)) rfl (show aTab 235 25 = some (.ireturn, 1, 0, 0, 0, 0, 0, 0) from rfl) ⟨rfl, rfl⟩ (Or.inl rfl)) ⟨rfl, rfl⟩
    · refine e_then (e_ifF hT (y := 235) (pc := 1) (q := (yX11_isTwo, cX11_isTwo, 3, (some .boolean), 11)) rfl (show aTab 235 1 = some (.ifCond .lt 23, 3, 0, 0, 0, 0, 0, 0) from rfl) rfl (t := 24) rfl (cdF (by have e0 : (0 : Int32).toInt = 0 := rfl; show ¬ _ < _; omega))) ?_
      have e1 := dv10 (a := a) (by omega)
      have e2 := rm10 (a := a) (by omega)
      refine e_then (e_il1 hT (y := 235) (pc := 4) (q := (yX11_isTwo, cX11_isTwo, 3, (some .boolean), 11)) rfl (show aTab 235 4 = some (.iload_n 0, 1, 0, 0, 0, 0, 0, 0) from rfl) rfl rfl) ?_
      refine e_then (e_st hT (y := 235) (pc := 5) (q := (yX11_isTwo, cX11_isTwo, 3, (some .boolean), 11)) rfl (show aTab 235 5 = some (.bipush 10, 2, 0, 0, 0, 0, 0, 0) from rfl) (fr' := (235, 7, (lv_args 0 [.int a, .int t, .int o]), [.int 10, .int a])) (M' := M) rfl) ?_
      refine e_then (e_st hT (y := 235) (pc := 7) (q := (yX11_isTwo, cX11_isTwo, 3, (some .boolean), 11)) rfl (show aTab 235 7 = some (.idiv, 1, 0, 0, 0, 0, 0, 0) from rfl) (fr' := (235, 8, (lv_args 0 [.int a, .int t, .int o]), [.int (a / 10)])) (M' := M) rfl) ?_
      refine e_then (e_il1 hT (y := 235) (pc := 8) (q := (yX11_isTwo, cX11_isTwo, 3, (some .boolean), 11)) rfl (show aTab 235 8 = some (.iload_n 1, 1, 0, 0, 0, 0, 0, 0) from rfl) rfl rfl) ?_
      by_cases c2 : t.toInt ≤ a.toInt / 10
      · refine e_then (e_icT hT (y := 235) (pc := 9) (q := (yX11_isTwo, cX11_isTwo, 3, (some .boolean), 11)) rfl (show aTab 235 9 = some (.if_icmp .ge 15, 3, 0, 0, 0, 0, 0, 0) from rfl) rfl (t := 24) rfl (cdT (by show _ ≤ _; omega))) ?_
        refine e_then (e_st hT (y := 235) (pc := 24) (q := (yX11_isTwo, cX11_isTwo, 3, (some .boolean), 11)) rfl (show aTab 235 24 = some (.iconst 0, 1, 0, 0, 0, 0, 0, 0) from rfl) (fr' := (235, 25, (lv_args 0 [.int a, .int t, .int o]), [.int 0])) (M' := M) rfl) ?_
        rw [gB_f (show ¬ twP a t o from (fun z => by unfold twP at z; omega))]
        exact e_fin (e_zret hT (y := 235) (pc := 25) (q := (yX11_isTwo, cX11_isTwo, 3, (some .boolean), 11)) rfl (show aTab 235 25 = some (.ireturn, 1, 0, 0, 0, 0, 0, 0) from rfl) ⟨rfl, rfl⟩ (Or.inl rfl)) ⟨rfl, rfl⟩
      · refine e_then (e_icF hT (y := 235) (pc := 9) (q := (yX11_isTwo, cX11_isTwo, 3, (some .boolean), 11)) rfl (show aTab 235 9 = some (.if_icmp .ge 15, 3, 0, 0, 0, 0, 0, 0) from rfl) rfl (t := 24) rfl (cdF (by show ¬ _ ≤ _; omega))) ?_
        refine e_then (e_il1 hT (y := 235) (pc := 12) (q := (yX11_isTwo, cX11_isTwo, 3, (some .boolean), 11)) rfl (show aTab 235 12 = some (.iload_n 0, 1, 0, 0, 0, 0, 0, 0) from rfl) rfl rfl) ?_
        refine e_then (e_st hT (y := 235) (pc := 13) (q := (yX11_isTwo, cX11_isTwo, 3, (some .boolean), 11)) rfl (show aTab 235 13 = some (.bipush 10, 2, 0, 0, 0, 0, 0, 0) from rfl) (fr' := (235, 15, (lv_args 0 [.int a, .int t, .int o]), [.int 10, .int a])) (M' := M) rfl) ?_
        refine e_then (e_st hT (y := 235) (pc := 15) (q := (yX11_isTwo, cX11_isTwo, 3, (some .boolean), 11)) rfl (show aTab 235 15 = some (.irem, 1, 0, 0, 0, 0, 0, 0) from rfl) (fr' := (235, 16, (lv_args 0 [.int a, .int t, .int o]), [.int (a - a / 10 * 10)])) (M' := M) rfl) ?_
        refine e_then (e_il1 hT (y := 235) (pc := 16) (q := (yX11_isTwo, cX11_isTwo, 3, (some .boolean), 11)) rfl (show aTab 235 16 = some (.iload_n 2, 1, 0, 0, 0, 0, 0, 0) from rfl) rfl rfl) ?_
        by_cases c3 : o.toInt ≤ a.toInt % 10
        · refine e_then (e_icT hT (y := 235) (pc := 17) (q := (yX11_isTwo, cX11_isTwo, 3, (some .boolean), 11)) rfl (show aTab 235 17 = some (.if_icmp .ge 7, 3, 0, 0, 0, 0, 0, 0) from rfl) rfl (t := 24) rfl (cdT (by show _ ≤ _; omega))) ?_
          refine e_then (e_st hT (y := 235) (pc := 24) (q := (yX11_isTwo, cX11_isTwo, 3, (some .boolean), 11)) rfl (show aTab 235 24 = some (.iconst 0, 1, 0, 0, 0, 0, 0, 0) from rfl) (fr' := (235, 25, (lv_args 0 [.int a, .int t, .int o]), [.int 0])) (M' := M) rfl) ?_
          rw [gB_f (show ¬ twP a t o from (fun z => by unfold twP at z; omega))]
          exact e_fin (e_zret hT (y := 235) (pc := 25) (q := (yX11_isTwo, cX11_isTwo, 3, (some .boolean), 11)) rfl (show aTab 235 25 = some (.ireturn, 1, 0, 0, 0, 0, 0, 0) from rfl) ⟨rfl, rfl⟩ (Or.inl rfl)) ⟨rfl, rfl⟩
        · refine e_then (e_icF hT (y := 235) (pc := 17) (q := (yX11_isTwo, cX11_isTwo, 3, (some .boolean), 11)) rfl (show aTab 235 17 = some (.if_icmp .ge 7, 3, 0, 0, 0, 0, 0, 0) from rfl) rfl (t := 24) rfl (cdF (by show ¬ _ ≤ _; omega))) ?_
          refine e_then (e_st hT (y := 235) (pc := 20) (q := (yX11_isTwo, cX11_isTwo, 3, (some .boolean), 11)) rfl (show aTab 235 20 = some (.iconst 1, 1, 0, 0, 0, 0, 0, 0) from rfl) (fr' := (235, 21, (lv_args 0 [.int a, .int t, .int o]), [.int 1])) (M' := M) rfl) ?_
          refine e_then (e_st hT (y := 235) (pc := 21) (q := (yX11_isTwo, cX11_isTwo, 3, (some .boolean), 11)) rfl (show aTab 235 21 = some (.goto 4, 3, 0, 0, 0, 0, 0, 0) from rfl) (fr' := (235, 25, (lv_args 0 [.int a, .int t, .int o]), [.int 1])) (M' := M) rfl) ?_
          rw [gB_t (show twP a t o from ⟨by omega, by omega, by omega⟩)]
          exact e_fin (e_zret hT (y := 235) (pc := 25) (q := (yX11_isTwo, cX11_isTwo, 3, (some .boolean), 11)) rfl (show aTab 235 25 = some (.ireturn, 1, 0, 0, 0, 0, 0, 0) from rfl) ⟨rfl, rfl⟩ (Or.inr rfl)) ⟨rfl, rfl⟩
  obtain ⟨K, r, M', q, rfl, rfl⟩ := go
  exact ⟨K, mRun_dm q hd⟩
def ftP (kd : Nat → Int32) (P : Nat) (k a b : Int32) : Prop := (k.toInt = 0 ∧ a.toInt = 0 ∧ b.toInt = 0) ∨ (k.toInt = 1 ∧ twP a 8 4 ∧ (0 ≤ b.toInt ∧ b.toInt ≤ 9999)) ∨ (k.toInt = 2 ∧ lnP kd P a ∧ (-9999 ≤ b.toInt ∧ b.toInt ≤ 9999)) ∨ (k.toInt = 4 ∧ lnP kd P a ∧ (0 ≤ b.toInt ∧ b.toInt ≤ 9999)) ∨ (k.toInt = 5 ∧ lnP kd P a ∧ (0 ≤ b.toInt ∧ b.toInt ≤ 69999)) ∨ (k.toInt = 6 ∧ twP a 9 9 ∧ a.toInt / 10 ≠ a.toInt % 10 ∧ (1 ≤ (kdO kd P b).toInt ∧ (kdO kd P b).toInt ≤ 4)) ∨ (k.toInt = 7 ∧ lnP kd P a ∧ b.toInt = 0)
theorem ft_0 {kd : Nat → Int32} {P : Nat} {k a b : Int32} (h : k.toInt = 0) : ftP kd P k a b ↔ a.toInt = 0 ∧ b.toInt = 0 := ⟨fun z => by
  unfold ftP at z
  rcases z with z | z | z | z | z | z | z <;> first | exact z.2 | exact absurd z.1 (by omega), fun z => Or.inl ⟨h, z⟩⟩
theorem ft_1 {kd : Nat → Int32} {P : Nat} {k a b : Int32} (h : k.toInt = 1) : ftP kd P k a b ↔ twP a 8 4 ∧ (0 ≤ b.toInt ∧ b.toInt ≤ 9999) := ⟨fun z => by
  unfold ftP at z
  rcases z with z | z | z | z | z | z | z <;> first | exact z.2 | exact absurd z.1 (by omega), fun z => Or.inr (Or.inl ⟨h, z⟩)⟩
theorem ft_2 {kd : Nat → Int32} {P : Nat} {k a b : Int32} (h : k.toInt = 2) : ftP kd P k a b ↔ lnP kd P a ∧ (-9999 ≤ b.toInt ∧ b.toInt ≤ 9999) := ⟨fun z => by
  unfold ftP at z
  rcases z with z | z | z | z | z | z | z <;> first | exact z.2 | exact absurd z.1 (by omega), fun z => Or.inr (Or.inr (Or.inl ⟨h, z⟩))⟩
theorem ft_3 {kd : Nat → Int32} {P : Nat} {k a b : Int32} (h : k.toInt = 3 ∨ k.toInt < 0 ∨ 7 < k.toInt) : ¬ ftP kd P k a b := fun z => by
  unfold ftP at z
  rcases z with z | z | z | z | z | z | z <;> exact absurd z.1 (by omega)
theorem ft_4 {kd : Nat → Int32} {P : Nat} {k a b : Int32} (h : k.toInt = 4) : ftP kd P k a b ↔ lnP kd P a ∧ (0 ≤ b.toInt ∧ b.toInt ≤ 9999) := ⟨fun z => by
  unfold ftP at z
  rcases z with z | z | z | z | z | z | z <;> first | exact z.2 | exact absurd z.1 (by omega), fun z => Or.inr (Or.inr (Or.inr (Or.inl ⟨h, z⟩)))⟩
theorem ft_5 {kd : Nat → Int32} {P : Nat} {k a b : Int32} (h : k.toInt = 5) : ftP kd P k a b ↔ lnP kd P a ∧ (0 ≤ b.toInt ∧ b.toInt ≤ 69999) := ⟨fun z => by
  unfold ftP at z
  rcases z with z | z | z | z | z | z | z <;> first | exact z.2 | exact absurd z.1 (by omega), fun z => Or.inr (Or.inr (Or.inr (Or.inr (Or.inl ⟨h, z⟩))))⟩
theorem ft_6 {kd : Nat → Int32} {P : Nat} {k a b : Int32} (h : k.toInt = 6) : ftP kd P k a b ↔ twP a 9 9 ∧ a.toInt / 10 ≠ a.toInt % 10 ∧ (1 ≤ (kdO kd P b).toInt ∧ (kdO kd P b).toInt ≤ 4) := ⟨fun z => by
  unfold ftP at z
  rcases z with z | z | z | z | z | z | z <;> first | exact z.2 | exact absurd z.1 (by omega), fun z => Or.inr (Or.inr (Or.inr (Or.inr (Or.inr (Or.inl ⟨h, z⟩)))))⟩
theorem ft_7 {kd : Nat → Int32} {P : Nat} {k a b : Int32} (h : k.toInt = 7) : ftP kd P k a b ↔ lnP kd P a ∧ b.toInt = 0 := ⟨fun z => by
  unfold ftP at z
  rcases z with z | z | z | z | z | z | z <;> first | exact z.2 | exact absurd z.1 (by omega), fun z => Or.inr (Or.inr (Or.inr (Or.inr (Or.inr (Or.inr (⟨h, z⟩))))))⟩
theorem xft_run (hT : aTabOk) {M : mHe} (hM : yTy M) {g : Nat → Nat → Int32} (hg : rdI M = g) {P : Nat} (hP : g 11 0 = Int32.ofNat P) (hP2 : P ≤ 40) {k a b : Int32} {d : Nat} (hd : 20 ≤ d) [Decidable (ftP (g 12) P k a b)] : ∃ K, mRun none K d (83, 0, lv_args 0 [.ref 20, .int k, .int a, .int b], []) M = some (some (.int (gB (decide (ftP (g 12) P k a b)))), M) := by
  have dL : Decidable (lnP (g 12) P a) := Classical.propDecidable _
  have dT1 : Decidable (twP a 8 4) := Classical.propDecidable _
  have dT2 : Decidable (twP a 9 9) := Classical.propDecidable _
  obtain ⟨K1, q1⟩ := xil_run hT hM hg hP hP2 (p := a) (d := 19) (by decide)
  obtain ⟨K2, q2⟩ := xtw_run hT (M := M) (a := a) (t := 8) (o := 4) (d := 19) (by decide)
  obtain ⟨K3, q3⟩ := xtw_run hT (M := M) (a := a) (t := 9) (o := 9) (d := 19) (by decide)
  obtain ⟨K4, q4⟩ := within_i hT (M := M) (v := b) (l := 0) (h := 9999) (d := 19) (by decide)
  obtain ⟨K5, q5⟩ := within_i hT (M := M) (v := b) (l := -9999) (h := 9999) (d := 19) (by decide)
  obtain ⟨K6, q6⟩ := within_i hT (M := M) (v := b) (l := 0) (h := 69999) (d := 19) (by decide)
  obtain ⟨K7, q7⟩ := xkd_run hT hM hg hP hP2 (p := b) (d := 19) (by decide)
  obtain ⟨K8, q8⟩ := within_i hT (M := M) (v := kdO (g 12) P b) (l := 1) (h := 4) (d := 19) (by decide)
  rw [show (0 : Int32).toInt = 0 from rfl, show (9999 : Int32).toInt = 9999 from rfl] at q4
  rw [show (-9999 : Int32).toInt = -9999 from rfl, show (9999 : Int32).toInt = 9999 from rfl] at q5
  rw [show (0 : Int32).toInt = 0 from rfl, show (69999 : Int32).toInt = 69999 from rfl] at q6
  rw [show (1 : Int32).toInt = 1 from rfl, show (4 : Int32).toInt = 4 from rfl] at q8
  have go : mEv none 20 (83, 0, lv_args 0 [.ref 20, .int k, .int a, .int b], []) M (fun r M' => r = some (.int (gB (decide (ftP (g 12) P k a b)))) ∧ M' = M) := by
    refine e_then (e_il1 hT (y := 83) (pc := 0) (q := (yX4_suits, cX4_suits, 4, (some .boolean), 4)) rfl (show aTab 83 0 = some (.iload_n 1, 1, 0, 0, 0, 0, 0, 0) from rfl) rfl rfl) ?_
    by_cases s0 : (k).toInt = 0
    · refine e_then (e_tsC hT (y := 83) (pc := 1) (q := (yX4_suits, cX4_suits, 4, (some .boolean), 4)) rfl (show aTab 83 1 = some (.tableswitch 223 0 7 #[47, 61, 88, 223, 115, 140, 164, 205], 47, 0, 0, 0, 0, 0, 0) from rfl) s0 ⟨by decide, by decide⟩ (off := 47) rfl (t := 48) rfl) ?_
      refine e_then (e_il1 hT (y := 83) (pc := 48) (q := (yX4_suits, cX4_suits, 4, (some .boolean), 4)) rfl (show aTab 83 48 = some (.iload_n 2, 1, 0, 0, 0, 0, 0, 0) from rfl) rfl rfl) ?_
      by_cases c1 : a.toInt = 0
      · refine e_then (e_ifF hT (y := 83) (pc := 49) (q := (yX4_suits, cX4_suits, 4, (some .boolean), 4)) rfl (show aTab 83 49 = some (.ifCond .ne 11, 3, 0, 0, 0, 0, 0, 0) from rfl) rfl (t := 60) rfl (cdF (by have e0 : (0 : Int32).toInt = 0 := rfl; show ¬ (¬ _ = _); omega))) ?_
        refine e_then (e_il1 hT (y := 83) (pc := 52) (q := (yX4_suits, cX4_suits, 4, (some .boolean), 4)) rfl (show aTab 83 52 = some (.iload_n 3, 1, 0, 0, 0, 0, 0, 0) from rfl) rfl rfl) ?_
        by_cases c2 : b.toInt = 0
        · refine e_then (e_ifF hT (y := 83) (pc := 53) (q := (yX4_suits, cX4_suits, 4, (some .boolean), 4)) rfl (show aTab 83 53 = some (.ifCond .ne 7, 3, 0, 0, 0, 0, 0, 0) from rfl) rfl (t := 60) rfl (cdF (by have e0 : (0 : Int32).toInt = 0 := rfl; show ¬ (¬ _ = _); omega))) ?_
          refine e_then (e_st hT (y := 83) (pc := 56) (q := (yX4_suits, cX4_suits, 4, (some .boolean), 4)) rfl (show aTab 83 56 = some (.iconst 1, 1, 0, 0, 0, 0, 0, 0) from rfl) (fr' := (83, 57, (lv_args 0 [.ref 20, .int k, .int a, .int b]), [.int 1])) (M' := M) rfl) ?_
          refine e_then (e_st hT (y := 83) (pc := 57) (q := (yX4_suits, cX4_suits, 4, (some .boolean), 4)) rfl (show aTab 83 57 = some (.goto 4, 3, 0, 0, 0, 0, 0, 0) from rfl) (fr' := (83, 61, (lv_args 0 [.ref 20, .int k, .int a, .int b]), [.int 1])) (M' := M) rfl) ?_
          rw [gB_t ((ft_0 s0).mpr ⟨c1, c2⟩)]
          exact e_fin (e_zret hT (y := 83) (pc := 61) (q := (yX4_suits, cX4_suits, 4, (some .boolean), 4)) rfl (show aTab 83 61 = some (.ireturn, 1, 0, 0, 0, 0, 0, 0) from rfl) ⟨rfl, rfl⟩ (Or.inr rfl)) ⟨rfl, rfl⟩
        · refine e_then (e_ifT hT (y := 83) (pc := 53) (q := (yX4_suits, cX4_suits, 4, (some .boolean), 4)) rfl (show aTab 83 53 = some (.ifCond .ne 7, 3, 0, 0, 0, 0, 0, 0) from rfl) rfl (t := 60) rfl (cdT (by have e0 : (0 : Int32).toInt = 0 := rfl; show ¬ _ = _; omega))) ?_
          refine e_then (e_st hT (y := 83) (pc := 60) (q := (yX4_suits, cX4_suits, 4, (some .boolean), 4)) rfl (show aTab 83 60 = some (.iconst 0, 1, 0, 0, 0, 0, 0, 0) from rfl) (fr' := (83, 61, (lv_args 0 [.ref 20, .int k, .int a, .int b]), [.int 0])) (M' := M) rfl) ?_
          rw [gB_f (fun z => by have z := (ft_0 s0).mp z; first | exact c1 z.1 | exact c2 z.2 | exact z.2.1 c2 | exact c3 z.2.2)]
          exact e_fin (e_zret hT (y := 83) (pc := 61) (q := (yX4_suits, cX4_suits, 4, (some .boolean), 4)) rfl (show aTab 83 61 = some (.ireturn, 1, 0, 0, 0, 0, 0, 0) from rfl) ⟨rfl, rfl⟩ (Or.inl rfl)) ⟨rfl, rfl⟩
      · refine e_then (e_ifT hT (y := 83) (pc := 49) (q := (yX4_suits, cX4_suits, 4, (some .boolean), 4)) rfl (show aTab 83 49 = some (.ifCond .ne 11, 3, 0, 0, 0, 0, 0, 0) from rfl) rfl (t := 60) rfl (cdT (by have e0 : (0 : Int32).toInt = 0 := rfl; show ¬ _ = _; omega))) ?_
        refine e_then (e_st hT (y := 83) (pc := 60) (q := (yX4_suits, cX4_suits, 4, (some .boolean), 4)) rfl (show aTab 83 60 = some (.iconst 0, 1, 0, 0, 0, 0, 0, 0) from rfl) (fr' := (83, 61, (lv_args 0 [.ref 20, .int k, .int a, .int b]), [.int 0])) (M' := M) rfl) ?_
        rw [gB_f (fun z => by have z := (ft_0 s0).mp z; first | exact c1 z.1 | exact c2 z.2 | exact z.2.1 c2 | exact c3 z.2.2)]
        exact e_fin (e_zret hT (y := 83) (pc := 61) (q := (yX4_suits, cX4_suits, 4, (some .boolean), 4)) rfl (show aTab 83 61 = some (.ireturn, 1, 0, 0, 0, 0, 0, 0) from rfl) ⟨rfl, rfl⟩ (Or.inl rfl)) ⟨rfl, rfl⟩
    by_cases s1 : (k).toInt = 1
    · refine e_then (e_tsC hT (y := 83) (pc := 1) (q := (yX4_suits, cX4_suits, 4, (some .boolean), 4)) rfl (show aTab 83 1 = some (.tableswitch 223 0 7 #[47, 61, 88, 223, 115, 140, 164, 205], 47, 0, 0, 0, 0, 0, 0) from rfl) s1 ⟨by decide, by decide⟩ (off := 61) rfl (t := 62) rfl) ?_
      refine e_then (e_il1 hT (y := 83) (pc := 62) (q := (yX4_suits, cX4_suits, 4, (some .boolean), 4)) rfl (show aTab 83 62 = some (.iload_n 2, 1, 0, 0, 0, 0, 0, 0) from rfl) rfl rfl) ?_
      refine e_then (e_st hT (y := 83) (pc := 63) (q := (yX4_suits, cX4_suits, 4, (some .boolean), 4)) rfl (show aTab 83 63 = some (.bipush 8, 2, 0, 0, 0, 0, 0, 0) from rfl) (fr' := (83, 65, (lv_args 0 [.ref 20, .int k, .int a, .int b]), [.int 8, .int a])) (M' := M) rfl) ?_
      refine e_then (e_st hT (y := 83) (pc := 65) (q := (yX4_suits, cX4_suits, 4, (some .boolean), 4)) rfl (show aTab 83 65 = some (.iconst 4, 1, 0, 0, 0, 0, 0, 0) from rfl) (fr' := (83, 66, (lv_args 0 [.ref 20, .int k, .int a, .int b]), [.int 4, .int 8, .int a])) (M' := M) rfl) ?_
      by_cases c1 : twP a 8 4
      · rw [gB_t c1] at q2
        refine e_then (e_callsN hT (y := 83) (pc := 66) (q := (yX4_suits, cX4_suits, 4, (some .boolean), 4)) rfl (show aTab 83 66 = some (.invokestatic 81, 3, 3, 235, 0, 3, 3, 11) from rfl) (Nat.le_of_ble_eq_true rfl) (Nat.le_of_ble_eq_true rfl) (Nat.le_of_ble_eq_true rfl) ⟨by decide, by decide⟩ q2) ?_
        refine e_then (e_ifF hT (y := 83) (pc := 69) (q := (yX4_suits, cX4_suits, 4, (some .boolean), 4)) rfl (show aTab 83 69 = some (.ifCond .eq 18, 3, 0, 0, 0, 0, 0, 0) from rfl) rfl (t := 87) rfl (cdF (by show ¬ (_ = _); decide))) ?_
        refine e_then (e_il1 hT (y := 83) (pc := 72) (q := (yX4_suits, cX4_suits, 4, (some .boolean), 4)) rfl (show aTab 83 72 = some (.iload_n 3, 1, 0, 0, 0, 0, 0, 0) from rfl) rfl rfl) ?_
        refine e_then (e_st hT (y := 83) (pc := 73) (q := (yX4_suits, cX4_suits, 4, (some .boolean), 4)) rfl (show aTab 83 73 = some (.iconst 0, 1, 0, 0, 0, 0, 0, 0) from rfl) (fr' := (83, 74, (lv_args 0 [.ref 20, .int k, .int a, .int b]), [.int 0, .int b])) (M' := M) rfl) ?_
        refine e_then (e_st hT (y := 83) (pc := 74) (q := (yX4_suits, cX4_suits, 4, (some .boolean), 4)) rfl (show aTab 83 74 = some (.sipush 9999, 3, 0, 0, 0, 0, 0, 0) from rfl) (fr' := (83, 77, (lv_args 0 [.ref 20, .int k, .int a, .int b]), [.int 9999, .int 0, .int b])) (M' := M) rfl) ?_
        by_cases c2 : 0 ≤ b.toInt ∧ b.toInt ≤ 9999
        · rw [gB_t c2] at q4
          refine e_then (e_callsN hT (y := 83) (pc := 77) (q := (yX4_suits, cX4_suits, 4, (some .boolean), 4)) rfl (show aTab 83 77 = some (.invokestatic 61, 3, 3, 234, 0, 3, 3, 11) from rfl) (Nat.le_of_ble_eq_true rfl) (Nat.le_of_ble_eq_true rfl) (Nat.le_of_ble_eq_true rfl) ⟨by decide, by decide⟩ q4) ?_
          refine e_then (e_ifF hT (y := 83) (pc := 80) (q := (yX4_suits, cX4_suits, 4, (some .boolean), 4)) rfl (show aTab 83 80 = some (.ifCond .eq 7, 3, 0, 0, 0, 0, 0, 0) from rfl) rfl (t := 87) rfl (cdF (by show ¬ (_ = _); decide))) ?_
          refine e_then (e_st hT (y := 83) (pc := 83) (q := (yX4_suits, cX4_suits, 4, (some .boolean), 4)) rfl (show aTab 83 83 = some (.iconst 1, 1, 0, 0, 0, 0, 0, 0) from rfl) (fr' := (83, 84, (lv_args 0 [.ref 20, .int k, .int a, .int b]), [.int 1])) (M' := M) rfl) ?_
          refine e_then (e_st hT (y := 83) (pc := 84) (q := (yX4_suits, cX4_suits, 4, (some .boolean), 4)) rfl (show aTab 83 84 = some (.goto 4, 3, 0, 0, 0, 0, 0, 0) from rfl) (fr' := (83, 88, (lv_args 0 [.ref 20, .int k, .int a, .int b]), [.int 1])) (M' := M) rfl) ?_
          rw [gB_t ((ft_1 s1).mpr ⟨c1, c2⟩)]
          exact e_fin (e_zret hT (y := 83) (pc := 88) (q := (yX4_suits, cX4_suits, 4, (some .boolean), 4)) rfl (show aTab 83 88 = some (.ireturn, 1, 0, 0, 0, 0, 0, 0) from rfl) ⟨rfl, rfl⟩ (Or.inr rfl)) ⟨rfl, rfl⟩
        · rw [gB_f c2] at q4
          refine e_then (e_callsN hT (y := 83) (pc := 77) (q := (yX4_suits, cX4_suits, 4, (some .boolean), 4)) rfl (show aTab 83 77 = some (.invokestatic 61, 3, 3, 234, 0, 3, 3, 11) from rfl) (Nat.le_of_ble_eq_true rfl) (Nat.le_of_ble_eq_true rfl) (Nat.le_of_ble_eq_true rfl) ⟨by decide, by decide⟩ q4) ?_
          refine e_then (e_ifT hT (y := 83) (pc := 80) (q := (yX4_suits, cX4_suits, 4, (some .boolean), 4)) rfl (show aTab 83 80 = some (.ifCond .eq 7, 3, 0, 0, 0, 0, 0, 0) from rfl) rfl (t := 87) rfl (cdT (by show _ = _; decide))) ?_
          refine e_then (e_st hT (y := 83) (pc := 87) (q := (yX4_suits, cX4_suits, 4, (some .boolean), 4)) rfl (show aTab 83 87 = some (.iconst 0, 1, 0, 0, 0, 0, 0, 0) from rfl) (fr' := (83, 88, (lv_args 0 [.ref 20, .int k, .int a, .int b]), [.int 0])) (M' := M) rfl) ?_
          rw [gB_f (fun z => by have z := (ft_1 s1).mp z; first | exact c1 z.1 | exact c2 z.2 | exact z.2.1 c2 | exact c3 z.2.2)]
          exact e_fin (e_zret hT (y := 83) (pc := 88) (q := (yX4_suits, cX4_suits, 4, (some .boolean), 4)) rfl (show aTab 83 88 = some (.ireturn, 1, 0, 0, 0, 0, 0, 0) from rfl) ⟨rfl, rfl⟩ (Or.inl rfl)) ⟨rfl, rfl⟩
      · rw [gB_f c1] at q2
        refine e_then (e_callsN hT (y := 83) (pc := 66) (q := (yX4_suits, cX4_suits, 4, (some .boolean), 4)) rfl (show aTab 83 66 = some (.invokestatic 81, 3, 3, 235, 0, 3, 3, 11) from rfl) (Nat.le_of_ble_eq_true rfl) (Nat.le_of_ble_eq_true rfl) (Nat.le_of_ble_eq_true rfl) ⟨by decide, by decide⟩ q2) ?_
        refine e_then (e_ifT hT (y := 83) (pc := 69) (q := (yX4_suits, cX4_suits, 4, (some .boolean), 4)) rfl (show aTab 83 69 = some (.ifCond .eq 18, 3, 0, 0, 0, 0, 0, 0) from rfl) rfl (t := 87) rfl (cdT (by show _ = _; decide))) ?_
        refine e_then (e_st hT (y := 83) (pc := 87) (q := (yX4_suits, cX4_suits, 4, (some .boolean), 4)) rfl (show aTab 83 87 = some (.iconst 0, 1, 0, 0, 0, 0, 0, 0) from rfl) (fr' := (83, 88, (lv_args 0 [.ref 20, .int k, .int a, .int b]), [.int 0])) (M' := M) rfl) ?_
        rw [gB_f (fun z => by have z := (ft_1 s1).mp z; first | exact c1 z.1 | exact c2 z.2 | exact z.2.1 c2 | exact c3 z.2.2)]
        exact e_fin (e_zret hT (y := 83) (pc := 88) (q := (yX4_suits, cX4_suits, 4, (some .boolean), 4)) rfl (show aTab 83 88 = some (.ireturn, 1, 0, 0, 0, 0, 0, 0) from rfl) ⟨rfl, rfl⟩ (Or.inl rfl)) ⟨rfl, rfl⟩
    by_cases s2 : (k).toInt = 2
    · refine e_then (e_tsC hT (y := 83) (pc := 1) (q := (yX4_suits, cX4_suits, 4, (some .boolean), 4)) rfl (show aTab 83 1 = some (.tableswitch 223 0 7 #[47, 61, 88, 223, 115, 140, 164, 205], 47, 0, 0, 0, 0, 0, 0) from rfl) s2 ⟨by decide, by decide⟩ (off := 88) rfl (t := 89) rfl) ?_
      refine e_then (e_al1 hT (y := 83) (pc := 89) (q := (yX4_suits, cX4_suits, 4, (some .boolean), 4)) rfl (show aTab 83 89 = some (.aload_n 0, 1, 0, 0, 0, 0, 0, 0) from rfl) rfl rfl) ?_
      refine e_then (e_il1 hT (y := 83) (pc := 90) (q := (yX4_suits, cX4_suits, 4, (some .boolean), 4)) rfl (show aTab 83 90 = some (.iload_n 2, 1, 0, 0, 0, 0, 0, 0) from rfl) rfl rfl) ?_
      by_cases c1 : lnP (g 12) P a
      · rw [gB_t c1] at q1
        refine e_then (e_call hT (y := 83) (pc := 91) (q := (yX4_suits, cX4_suits, 4, (some .boolean), 4)) rfl (show aTab 83 91 = some (.invokevirtual 78, 3, 1, 77, 0, 1, 2, 4) from rfl) rfl ⟨by decide, Nat.le_of_ble_eq_true rfl⟩ (ob_at hM (rfl : tTy 11 = some (.inr (4, _)))).choose_spec (Nat.le_of_ble_eq_true rfl) (Nat.le_of_ble_eq_true rfl) ⟨by decide, by decide⟩ q1) ?_
        refine e_then (e_ifF hT (y := 83) (pc := 94) (q := (yX4_suits, cX4_suits, 4, (some .boolean), 4)) rfl (show aTab 83 94 = some (.ifCond .eq 20, 3, 0, 0, 0, 0, 0, 0) from rfl) rfl (t := 114) rfl (cdF (by show ¬ (_ = _); decide))) ?_
        refine e_then (e_il1 hT (y := 83) (pc := 97) (q := (yX4_suits, cX4_suits, 4, (some .boolean), 4)) rfl (show aTab 83 97 = some (.iload_n 3, 1, 0, 0, 0, 0, 0, 0) from rfl) rfl rfl) ?_
        refine e_then (e_st hT (y := 83) (pc := 98) (q := (yX4_suits, cX4_suits, 4, (some .boolean), 4)) rfl (show aTab 83 98 = some (.sipush (-9999), 3, 0, 0, 0, 0, 0, 0) from rfl) (fr' := (83, 101, (lv_args 0 [.ref 20, .int k, .int a, .int b]), [.int (-9999), .int b])) (M' := M) rfl) ?_
        refine e_then (e_st hT (y := 83) (pc := 101) (q := (yX4_suits, cX4_suits, 4, (some .boolean), 4)) rfl (show aTab 83 101 = some (.sipush 9999, 3, 0, 0, 0, 0, 0, 0) from rfl) (fr' := (83, 104, (lv_args 0 [.ref 20, .int k, .int a, .int b]), [.int 9999, .int (-9999), .int b])) (M' := M) rfl) ?_
        by_cases c2 : -9999 ≤ b.toInt ∧ b.toInt ≤ 9999
        · rw [gB_t c2] at q5
          refine e_then (e_callsN hT (y := 83) (pc := 104) (q := (yX4_suits, cX4_suits, 4, (some .boolean), 4)) rfl (show aTab 83 104 = some (.invokestatic 61, 3, 3, 234, 0, 3, 3, 11) from rfl) (Nat.le_of_ble_eq_true rfl) (Nat.le_of_ble_eq_true rfl) (Nat.le_of_ble_eq_true rfl) ⟨by decide, by decide⟩ q5) ?_
          refine e_then (e_ifF hT (y := 83) (pc := 107) (q := (yX4_suits, cX4_suits, 4, (some .boolean), 4)) rfl (show aTab 83 107 = some (.ifCond .eq 7, 3, 0, 0, 0, 0, 0, 0) from rfl) rfl (t := 114) rfl (cdF (by show ¬ (_ = _); decide))) ?_
          refine e_then (e_st hT (y := 83) (pc := 110) (q := (yX4_suits, cX4_suits, 4, (some .boolean), 4)) rfl (show aTab 83 110 = some (.iconst 1, 1, 0, 0, 0, 0, 0, 0) from rfl) (fr' := (83, 111, (lv_args 0 [.ref 20, .int k, .int a, .int b]), [.int 1])) (M' := M) rfl) ?_
          refine e_then (e_st hT (y := 83) (pc := 111) (q := (yX4_suits, cX4_suits, 4, (some .boolean), 4)) rfl (show aTab 83 111 = some (.goto 4, 3, 0, 0, 0, 0, 0, 0) from rfl) (fr' := (83, 115, (lv_args 0 [.ref 20, .int k, .int a, .int b]), [.int 1])) (M' := M) rfl) ?_
          rw [gB_t ((ft_2 s2).mpr ⟨c1, c2⟩)]
          exact e_fin (e_zret hT (y := 83) (pc := 115) (q := (yX4_suits, cX4_suits, 4, (some .boolean), 4)) rfl (show aTab 83 115 = some (.ireturn, 1, 0, 0, 0, 0, 0, 0) from rfl) ⟨rfl, rfl⟩ (Or.inr rfl)) ⟨rfl, rfl⟩
        · rw [gB_f c2] at q5
          refine e_then (e_callsN hT (y := 83) (pc := 104) (q := (yX4_suits, cX4_suits, 4, (some .boolean), 4)) rfl (show aTab 83 104 = some (.invokestatic 61, 3, 3, 234, 0, 3, 3, 11) from rfl) (Nat.le_of_ble_eq_true rfl) (Nat.le_of_ble_eq_true rfl) (Nat.le_of_ble_eq_true rfl) ⟨by decide, by decide⟩ q5) ?_
          refine e_then (e_ifT hT (y := 83) (pc := 107) (q := (yX4_suits, cX4_suits, 4, (some .boolean), 4)) rfl (show aTab 83 107 = some (.ifCond .eq 7, 3, 0, 0, 0, 0, 0, 0) from rfl) rfl (t := 114) rfl (cdT (by show _ = _; decide))) ?_
          refine e_then (e_st hT (y := 83) (pc := 114) (q := (yX4_suits, cX4_suits, 4, (some .boolean), 4)) rfl (show aTab 83 114 = some (.iconst 0, 1, 0, 0, 0, 0, 0, 0) from rfl) (fr' := (83, 115, (lv_args 0 [.ref 20, .int k, .int a, .int b]), [.int 0])) (M' := M) rfl) ?_
          rw [gB_f (fun z => by have z := (ft_2 s2).mp z; first | exact c1 z.1 | exact c2 z.2 | exact z.2.1 c2 | exact c3 z.2.2)]
          exact e_fin (e_zret hT (y := 83) (pc := 115) (q := (yX4_suits, cX4_suits, 4, (some .boolean), 4)) rfl (show aTab 83 115 = some (.ireturn, 1, 0, 0, 0, 0, 0, 0) from rfl) ⟨rfl, rfl⟩ (Or.inl rfl)) ⟨rfl, rfl⟩
      · rw [gB_f c1] at q1
        refine e_then (e_call hT (y := 83) (pc := 91) (q := (yX4_suits, cX4_suits, 4, (some .boolean), 4)) rfl (show aTab 83 91 = some (.invokevirtual 78, 3, 1, 77, 0, 1, 2, 4) from rfl) rfl ⟨by decide, Nat.le_of_ble_eq_true rfl⟩ (ob_at hM (rfl : tTy 11 = some (.inr (4, _)))).choose_spec (Nat.le_of_ble_eq_true rfl) (Nat.le_of_ble_eq_true rfl) ⟨by decide, by decide⟩ q1) ?_
        refine e_then (e_ifT hT (y := 83) (pc := 94) (q := (yX4_suits, cX4_suits, 4, (some .boolean), 4)) rfl (show aTab 83 94 = some (.ifCond .eq 20, 3, 0, 0, 0, 0, 0, 0) from rfl) rfl (t := 114) rfl (cdT (by show _ = _; decide))) ?_
        refine e_then (e_st hT (y := 83) (pc := 114) (q := (yX4_suits, cX4_suits, 4, (some .boolean), 4)) rfl (show aTab 83 114 = some (.iconst 0, 1, 0, 0, 0, 0, 0, 0) from rfl) (fr' := (83, 115, (lv_args 0 [.ref 20, .int k, .int a, .int b]), [.int 0])) (M' := M) rfl) ?_
        rw [gB_f (fun z => by have z := (ft_2 s2).mp z; first | exact c1 z.1 | exact c2 z.2 | exact z.2.1 c2 | exact c3 z.2.2)]
        exact e_fin (e_zret hT (y := 83) (pc := 115) (q := (yX4_suits, cX4_suits, 4, (some .boolean), 4)) rfl (show aTab 83 115 = some (.ireturn, 1, 0, 0, 0, 0, 0, 0) from rfl) ⟨rfl, rfl⟩ (Or.inl rfl)) ⟨rfl, rfl⟩
    by_cases s3 : (k).toInt = 3
    · refine e_then (e_tsC hT (y := 83) (pc := 1) (q := (yX4_suits, cX4_suits, 4, (some .boolean), 4)) rfl (show aTab 83 1 = some (.tableswitch 223 0 7 #[47, 61, 88, 223, 115, 140, 164, 205], 47, 0, 0, 0, 0, 0, 0) from rfl) s3 ⟨by decide, by decide⟩ (off := 223) rfl (t := 224) rfl) ?_
      refine e_then (e_st hT (y := 83) (pc := 224) (q := (yX4_suits, cX4_suits, 4, (some .boolean), 4)) rfl (show aTab 83 224 = some (.iconst 0, 1, 0, 0, 0, 0, 0, 0) from rfl) (fr' := (83, 225, (lv_args 0 [.ref 20, .int k, .int a, .int b]), [.int 0])) (M' := M) rfl) ?_
      rw [gB_f (ft_3 (by omega))]
      exact e_fin (e_zret hT (y := 83) (pc := 225) (q := (yX4_suits, cX4_suits, 4, (some .boolean), 4)) rfl (show aTab 83 225 = some (.ireturn, 1, 0, 0, 0, 0, 0, 0) from rfl) ⟨rfl, rfl⟩ (Or.inl rfl)) ⟨rfl, rfl⟩
    by_cases s4 : (k).toInt = 4
    · refine e_then (e_tsC hT (y := 83) (pc := 1) (q := (yX4_suits, cX4_suits, 4, (some .boolean), 4)) rfl (show aTab 83 1 = some (.tableswitch 223 0 7 #[47, 61, 88, 223, 115, 140, 164, 205], 47, 0, 0, 0, 0, 0, 0) from rfl) s4 ⟨by decide, by decide⟩ (off := 115) rfl (t := 116) rfl) ?_
      refine e_then (e_al1 hT (y := 83) (pc := 116) (q := (yX4_suits, cX4_suits, 4, (some .boolean), 4)) rfl (show aTab 83 116 = some (.aload_n 0, 1, 0, 0, 0, 0, 0, 0) from rfl) rfl rfl) ?_
      refine e_then (e_il1 hT (y := 83) (pc := 117) (q := (yX4_suits, cX4_suits, 4, (some .boolean), 4)) rfl (show aTab 83 117 = some (.iload_n 2, 1, 0, 0, 0, 0, 0, 0) from rfl) rfl rfl) ?_
      by_cases c1 : lnP (g 12) P a
      · rw [gB_t c1] at q1
        refine e_then (e_call hT (y := 83) (pc := 118) (q := (yX4_suits, cX4_suits, 4, (some .boolean), 4)) rfl (show aTab 83 118 = some (.invokevirtual 78, 3, 1, 77, 0, 1, 2, 4) from rfl) rfl ⟨by decide, Nat.le_of_ble_eq_true rfl⟩ (ob_at hM (rfl : tTy 11 = some (.inr (4, _)))).choose_spec (Nat.le_of_ble_eq_true rfl) (Nat.le_of_ble_eq_true rfl) ⟨by decide, by decide⟩ q1) ?_
        refine e_then (e_ifF hT (y := 83) (pc := 121) (q := (yX4_suits, cX4_suits, 4, (some .boolean), 4)) rfl (show aTab 83 121 = some (.ifCond .eq 18, 3, 0, 0, 0, 0, 0, 0) from rfl) rfl (t := 139) rfl (cdF (by show ¬ (_ = _); decide))) ?_
        refine e_then (e_il1 hT (y := 83) (pc := 124) (q := (yX4_suits, cX4_suits, 4, (some .boolean), 4)) rfl (show aTab 83 124 = some (.iload_n 3, 1, 0, 0, 0, 0, 0, 0) from rfl) rfl rfl) ?_
        refine e_then (e_st hT (y := 83) (pc := 125) (q := (yX4_suits, cX4_suits, 4, (some .boolean), 4)) rfl (show aTab 83 125 = some (.iconst 0, 1, 0, 0, 0, 0, 0, 0) from rfl) (fr' := (83, 126, (lv_args 0 [.ref 20, .int k, .int a, .int b]), [.int 0, .int b])) (M' := M) rfl) ?_
        refine e_then (e_st hT (y := 83) (pc := 126) (q := (yX4_suits, cX4_suits, 4, (some .boolean), 4)) rfl (show aTab 83 126 = some (.sipush 9999, 3, 0, 0, 0, 0, 0, 0) from rfl) (fr' := (83, 129, (lv_args 0 [.ref 20, .int k, .int a, .int b]), [.int 9999, .int 0, .int b])) (M' := M) rfl) ?_
        by_cases c2 : 0 ≤ b.toInt ∧ b.toInt ≤ 9999
        · rw [gB_t c2] at q4
          refine e_then (e_callsN hT (y := 83) (pc := 129) (q := (yX4_suits, cX4_suits, 4, (some .boolean), 4)) rfl (show aTab 83 129 = some (.invokestatic 61, 3, 3, 234, 0, 3, 3, 11) from rfl) (Nat.le_of_ble_eq_true rfl) (Nat.le_of_ble_eq_true rfl) (Nat.le_of_ble_eq_true rfl) ⟨by decide, by decide⟩ q4) ?_
          refine e_then (e_ifF hT (y := 83) (pc := 132) (q := (yX4_suits, cX4_suits, 4, (some .boolean), 4)) rfl (show aTab 83 132 = some (.ifCond .eq 7, 3, 0, 0, 0, 0, 0, 0) from rfl) rfl (t := 139) rfl (cdF (by show ¬ (_ = _); decide))) ?_
          refine e_then (e_st hT (y := 83) (pc := 135) (q := (yX4_suits, cX4_suits, 4, (some .boolean), 4)) rfl (show aTab 83 135 = some (.iconst 1, 1, 0, 0, 0, 0, 0, 0) from rfl) (fr' := (83, 136, (lv_args 0 [.ref 20, .int k, .int a, .int b]), [.int 1])) (M' := M) rfl) ?_
          refine e_then (e_st hT (y := 83) (pc := 136) (q := (yX4_suits, cX4_suits, 4, (some .boolean), 4)) rfl (show aTab 83 136 = some (.goto 4, 3, 0, 0, 0, 0, 0, 0) from rfl) (fr' := (83, 140, (lv_args 0 [.ref 20, .int k, .int a, .int b]), [.int 1])) (M' := M) rfl) ?_
          rw [gB_t ((ft_4 s4).mpr ⟨c1, c2⟩)]
          exact e_fin (e_zret hT (y := 83) (pc := 140) (q := (yX4_suits, cX4_suits, 4, (some .boolean), 4)) rfl (show aTab 83 140 = some (.ireturn, 1, 0, 0, 0, 0, 0, 0) from rfl) ⟨rfl, rfl⟩ (Or.inr rfl)) ⟨rfl, rfl⟩
        · rw [gB_f c2] at q4
          refine e_then (e_callsN hT (y := 83) (pc := 129) (q := (yX4_suits, cX4_suits, 4, (some .boolean), 4)) rfl (show aTab 83 129 = some (.invokestatic 61, 3, 3, 234, 0, 3, 3, 11) from rfl) (Nat.le_of_ble_eq_true rfl) (Nat.le_of_ble_eq_true rfl) (Nat.le_of_ble_eq_true rfl) ⟨by decide, by decide⟩ q4) ?_
          refine e_then (e_ifT hT (y := 83) (pc := 132) (q := (yX4_suits, cX4_suits, 4, (some .boolean), 4)) rfl (show aTab 83 132 = some (.ifCond .eq 7, 3, 0, 0, 0, 0, 0, 0) from rfl) rfl (t := 139) rfl (cdT (by show _ = _; decide))) ?_
          refine e_then (e_st hT (y := 83) (pc := 139) (q := (yX4_suits, cX4_suits, 4, (some .boolean), 4)) rfl (show aTab 83 139 = some (.iconst 0, 1, 0, 0, 0, 0, 0, 0) from rfl) (fr' := (83, 140, (lv_args 0 [.ref 20, .int k, .int a, .int b]), [.int 0])) (M' := M) rfl) ?_
          rw [gB_f (fun z => by have z := (ft_4 s4).mp z; first | exact c1 z.1 | exact c2 z.2 | exact z.2.1 c2 | exact c3 z.2.2)]
          exact e_fin (e_zret hT (y := 83) (pc := 140) (q := (yX4_suits, cX4_suits, 4, (some .boolean), 4)) rfl (show aTab 83 140 = some (.ireturn, 1, 0, 0, 0, 0, 0, 0) from rfl) ⟨rfl, rfl⟩ (Or.inl rfl)) ⟨rfl, rfl⟩
      · rw [gB_f c1] at q1
        refine e_then (e_call hT (y := 83) (pc := 118) (q := (yX4_suits, cX4_suits, 4, (some .boolean), 4)) rfl (show aTab 83 118 = some (.invokevirtual 78, 3, 1, 77, 0, 1, 2, 4) from rfl) rfl ⟨by decide, Nat.le_of_ble_eq_true rfl⟩ (ob_at hM (rfl : tTy 11 = some (.inr (4, _)))).choose_spec (Nat.le_of_ble_eq_true rfl) (Nat.le_of_ble_eq_true rfl) ⟨by decide, by decide⟩ q1) ?_
        refine e_then (e_ifT hT (y := 83) (pc := 121) (q := (yX4_suits, cX4_suits, 4, (some .boolean), 4)) rfl (show aTab 83 121 = some (.ifCond .eq 18, 3, 0, 0, 0, 0, 0, 0) from rfl) rfl (t := 139) rfl (cdT (by show _ = _; decide))) ?_
        refine e_then (e_st hT (y := 83) (pc := 139) (q := (yX4_suits, cX4_suits, 4, (some .boolean), 4)) rfl (show aTab 83 139 = some (.iconst 0, 1, 0, 0, 0, 0, 0, 0) from rfl) (fr' := (83, 140, (lv_args 0 [.ref 20, .int k, .int a, .int b]), [.int 0])) (M' := M) rfl) ?_
        rw [gB_f (fun z => by have z := (ft_4 s4).mp z; first | exact c1 z.1 | exact c2 z.2 | exact z.2.1 c2 | exact c3 z.2.2)]
        exact e_fin (e_zret hT (y := 83) (pc := 140) (q := (yX4_suits, cX4_suits, 4, (some .boolean), 4)) rfl (show aTab 83 140 = some (.ireturn, 1, 0, 0, 0, 0, 0, 0) from rfl) ⟨rfl, rfl⟩ (Or.inl rfl)) ⟨rfl, rfl⟩
    by_cases s5 : (k).toInt = 5
    · refine e_then (e_tsC hT (y := 83) (pc := 1) (q := (yX4_suits, cX4_suits, 4, (some .boolean), 4)) rfl (show aTab 83 1 = some (.tableswitch 223 0 7 #[47, 61, 88, 223, 115, 140, 164, 205], 47, 0, 0, 0, 0, 0, 0) from rfl) s5 ⟨by decide, by decide⟩ (off := 140) rfl (t := 141) rfl) ?_
      refine e_then (e_al1 hT (y := 83) (pc := 141) (q := (yX4_suits, cX4_suits, 4, (some .boolean), 4)) rfl (show aTab 83 141 = some (.aload_n 0, 1, 0, 0, 0, 0, 0, 0) from rfl) rfl rfl) ?_
      refine e_then (e_il1 hT (y := 83) (pc := 142) (q := (yX4_suits, cX4_suits, 4, (some .boolean), 4)) rfl (show aTab 83 142 = some (.iload_n 2, 1, 0, 0, 0, 0, 0, 0) from rfl) rfl rfl) ?_
      by_cases c1 : lnP (g 12) P a
      · rw [gB_t c1] at q1
        refine e_then (e_call hT (y := 83) (pc := 143) (q := (yX4_suits, cX4_suits, 4, (some .boolean), 4)) rfl (show aTab 83 143 = some (.invokevirtual 78, 3, 1, 77, 0, 1, 2, 4) from rfl) rfl ⟨by decide, Nat.le_of_ble_eq_true rfl⟩ (ob_at hM (rfl : tTy 11 = some (.inr (4, _)))).choose_spec (Nat.le_of_ble_eq_true rfl) (Nat.le_of_ble_eq_true rfl) ⟨by decide, by decide⟩ q1) ?_
        refine e_then (e_ifF hT (y := 83) (pc := 146) (q := (yX4_suits, cX4_suits, 4, (some .boolean), 4)) rfl (show aTab 83 146 = some (.ifCond .eq 17, 3, 0, 0, 0, 0, 0, 0) from rfl) rfl (t := 163) rfl (cdF (by show ¬ (_ = _); decide))) ?_
        refine e_then (e_il1 hT (y := 83) (pc := 149) (q := (yX4_suits, cX4_suits, 4, (some .boolean), 4)) rfl (show aTab 83 149 = some (.iload_n 3, 1, 0, 0, 0, 0, 0, 0) from rfl) rfl rfl) ?_
        refine e_then (e_st hT (y := 83) (pc := 150) (q := (yX4_suits, cX4_suits, 4, (some .boolean), 4)) rfl (show aTab 83 150 = some (.iconst 0, 1, 0, 0, 0, 0, 0, 0) from rfl) (fr' := (83, 151, (lv_args 0 [.ref 20, .int k, .int a, .int b]), [.int 0, .int b])) (M' := M) rfl) ?_
        refine e_then (e_st hT (y := 83) (pc := 151) (q := (yX4_suits, cX4_suits, 4, (some .boolean), 4)) rfl (show aTab 83 151 = some (.ldc 84, 2, 7, 0, 69999, 0, 0, 0) from rfl) (fr' := (83, 153, (lv_args 0 [.ref 20, .int k, .int a, .int b]), [.int (69999), .int 0, .int b])) (M' := M) rfl) ?_
        by_cases c2 : 0 ≤ b.toInt ∧ b.toInt ≤ 69999
        · rw [gB_t c2] at q6
          refine e_then (e_callsN hT (y := 83) (pc := 153) (q := (yX4_suits, cX4_suits, 4, (some .boolean), 4)) rfl (show aTab 83 153 = some (.invokestatic 61, 3, 3, 234, 0, 3, 3, 11) from rfl) (Nat.le_of_ble_eq_true rfl) (Nat.le_of_ble_eq_true rfl) (Nat.le_of_ble_eq_true rfl) ⟨by decide, by decide⟩ q6) ?_
          refine e_then (e_ifF hT (y := 83) (pc := 156) (q := (yX4_suits, cX4_suits, 4, (some .boolean), 4)) rfl (show aTab 83 156 = some (.ifCond .eq 7, 3, 0, 0, 0, 0, 0, 0) from rfl) rfl (t := 163) rfl (cdF (by show ¬ (_ = _); decide))) ?_
          refine e_then (e_st hT (y := 83) (pc := 159) (q := (yX4_suits, cX4_suits, 4, (some .boolean), 4)) rfl (show aTab 83 159 = some (.iconst 1, 1, 0, 0, 0, 0, 0, 0) from rfl) (fr' := (83, 160, (lv_args 0 [.ref 20, .int k, .int a, .int b]), [.int 1])) (M' := M) rfl) ?_
          refine e_then (e_st hT (y := 83) (pc := 160) (q := (yX4_suits, cX4_suits, 4, (some .boolean), 4)) rfl (show aTab 83 160 = some (.goto 4, 3, 0, 0, 0, 0, 0, 0) from rfl) (fr' := (83, 164, (lv_args 0 [.ref 20, .int k, .int a, .int b]), [.int 1])) (M' := M) rfl) ?_
          rw [gB_t ((ft_5 s5).mpr ⟨c1, c2⟩)]
          exact e_fin (e_zret hT (y := 83) (pc := 164) (q := (yX4_suits, cX4_suits, 4, (some .boolean), 4)) rfl (show aTab 83 164 = some (.ireturn, 1, 0, 0, 0, 0, 0, 0) from rfl) ⟨rfl, rfl⟩ (Or.inr rfl)) ⟨rfl, rfl⟩
        · rw [gB_f c2] at q6
          refine e_then (e_callsN hT (y := 83) (pc := 153) (q := (yX4_suits, cX4_suits, 4, (some .boolean), 4)) rfl (show aTab 83 153 = some (.invokestatic 61, 3, 3, 234, 0, 3, 3, 11) from rfl) (Nat.le_of_ble_eq_true rfl) (Nat.le_of_ble_eq_true rfl) (Nat.le_of_ble_eq_true rfl) ⟨by decide, by decide⟩ q6) ?_
          refine e_then (e_ifT hT (y := 83) (pc := 156) (q := (yX4_suits, cX4_suits, 4, (some .boolean), 4)) rfl (show aTab 83 156 = some (.ifCond .eq 7, 3, 0, 0, 0, 0, 0, 0) from rfl) rfl (t := 163) rfl (cdT (by show _ = _; decide))) ?_
          refine e_then (e_st hT (y := 83) (pc := 163) (q := (yX4_suits, cX4_suits, 4, (some .boolean), 4)) rfl (show aTab 83 163 = some (.iconst 0, 1, 0, 0, 0, 0, 0, 0) from rfl) (fr' := (83, 164, (lv_args 0 [.ref 20, .int k, .int a, .int b]), [.int 0])) (M' := M) rfl) ?_
          rw [gB_f (fun z => by have z := (ft_5 s5).mp z; first | exact c1 z.1 | exact c2 z.2 | exact z.2.1 c2 | exact c3 z.2.2)]
          exact e_fin (e_zret hT (y := 83) (pc := 164) (q := (yX4_suits, cX4_suits, 4, (some .boolean), 4)) rfl (show aTab 83 164 = some (.ireturn, 1, 0, 0, 0, 0, 0, 0) from rfl) ⟨rfl, rfl⟩ (Or.inl rfl)) ⟨rfl, rfl⟩
      · rw [gB_f c1] at q1
        refine e_then (e_call hT (y := 83) (pc := 143) (q := (yX4_suits, cX4_suits, 4, (some .boolean), 4)) rfl (show aTab 83 143 = some (.invokevirtual 78, 3, 1, 77, 0, 1, 2, 4) from rfl) rfl ⟨by decide, Nat.le_of_ble_eq_true rfl⟩ (ob_at hM (rfl : tTy 11 = some (.inr (4, _)))).choose_spec (Nat.le_of_ble_eq_true rfl) (Nat.le_of_ble_eq_true rfl) ⟨by decide, by decide⟩ q1) ?_
        refine e_then (e_ifT hT (y := 83) (pc := 146) (q := (yX4_suits, cX4_suits, 4, (some .boolean), 4)) rfl (show aTab 83 146 = some (.ifCond .eq 17, 3, 0, 0, 0, 0, 0, 0) from rfl) rfl (t := 163) rfl (cdT (by show _ = _; decide))) ?_
        refine e_then (e_st hT (y := 83) (pc := 163) (q := (yX4_suits, cX4_suits, 4, (some .boolean), 4)) rfl (show aTab 83 163 = some (.iconst 0, 1, 0, 0, 0, 0, 0, 0) from rfl) (fr' := (83, 164, (lv_args 0 [.ref 20, .int k, .int a, .int b]), [.int 0])) (M' := M) rfl) ?_
        rw [gB_f (fun z => by have z := (ft_5 s5).mp z; first | exact c1 z.1 | exact c2 z.2 | exact z.2.1 c2 | exact c3 z.2.2)]
        exact e_fin (e_zret hT (y := 83) (pc := 164) (q := (yX4_suits, cX4_suits, 4, (some .boolean), 4)) rfl (show aTab 83 164 = some (.ireturn, 1, 0, 0, 0, 0, 0, 0) from rfl) ⟨rfl, rfl⟩ (Or.inl rfl)) ⟨rfl, rfl⟩
    by_cases s6 : (k).toInt = 6
    · refine e_then (e_tsC hT (y := 83) (pc := 1) (q := (yX4_suits, cX4_suits, 4, (some .boolean), 4)) rfl (show aTab 83 1 = some (.tableswitch 223 0 7 #[47, 61, 88, 223, 115, 140, 164, 205], 47, 0, 0, 0, 0, 0, 0) from rfl) s6 ⟨by decide, by decide⟩ (off := 164) rfl (t := 165) rfl) ?_
      refine e_then (e_il1 hT (y := 83) (pc := 165) (q := (yX4_suits, cX4_suits, 4, (some .boolean), 4)) rfl (show aTab 83 165 = some (.iload_n 2, 1, 0, 0, 0, 0, 0, 0) from rfl) rfl rfl) ?_
      refine e_then (e_st hT (y := 83) (pc := 166) (q := (yX4_suits, cX4_suits, 4, (some .boolean), 4)) rfl (show aTab 83 166 = some (.bipush 9, 2, 0, 0, 0, 0, 0, 0) from rfl) (fr' := (83, 168, (lv_args 0 [.ref 20, .int k, .int a, .int b]), [.int 9, .int a])) (M' := M) rfl) ?_
      refine e_then (e_st hT (y := 83) (pc := 168) (q := (yX4_suits, cX4_suits, 4, (some .boolean), 4)) rfl (show aTab 83 168 = some (.bipush 9, 2, 0, 0, 0, 0, 0, 0) from rfl) (fr' := (83, 170, (lv_args 0 [.ref 20, .int k, .int a, .int b]), [.int 9, .int 9, .int a])) (M' := M) rfl) ?_
      by_cases c1 : twP a 9 9
      · rw [gB_t c1] at q3
        refine e_then (e_callsN hT (y := 83) (pc := 170) (q := (yX4_suits, cX4_suits, 4, (some .boolean), 4)) rfl (show aTab 83 170 = some (.invokestatic 81, 3, 3, 235, 0, 3, 3, 11) from rfl) (Nat.le_of_ble_eq_true rfl) (Nat.le_of_ble_eq_true rfl) (Nat.le_of_ble_eq_true rfl) ⟨by decide, by decide⟩ q3) ?_
        refine e_then (e_ifF hT (y := 83) (pc := 173) (q := (yX4_suits, cX4_suits, 4, (some .boolean), 4)) rfl (show aTab 83 173 = some (.ifCond .eq 31, 3, 0, 0, 0, 0, 0, 0) from rfl) rfl (t := 204) rfl (cdF (by show ¬ (_ = _); decide))) ?_
        have e1 := dv10 (a := a) c1.1
        have e2 := rm10 (a := a) c1.1
        refine e_then (e_il1 hT (y := 83) (pc := 176) (q := (yX4_suits, cX4_suits, 4, (some .boolean), 4)) rfl (show aTab 83 176 = some (.iload_n 2, 1, 0, 0, 0, 0, 0, 0) from rfl) rfl rfl) ?_
        refine e_then (e_st hT (y := 83) (pc := 177) (q := (yX4_suits, cX4_suits, 4, (some .boolean), 4)) rfl (show aTab 83 177 = some (.bipush 10, 2, 0, 0, 0, 0, 0, 0) from rfl) (fr' := (83, 179, (lv_args 0 [.ref 20, .int k, .int a, .int b]), [.int 10, .int a])) (M' := M) rfl) ?_
        refine e_then (e_st hT (y := 83) (pc := 179) (q := (yX4_suits, cX4_suits, 4, (some .boolean), 4)) rfl (show aTab 83 179 = some (.idiv, 1, 0, 0, 0, 0, 0, 0) from rfl) (fr' := (83, 180, (lv_args 0 [.ref 20, .int k, .int a, .int b]), [.int (a / 10)])) (M' := M) rfl) ?_
        refine e_then (e_il1 hT (y := 83) (pc := 180) (q := (yX4_suits, cX4_suits, 4, (some .boolean), 4)) rfl (show aTab 83 180 = some (.iload_n 2, 1, 0, 0, 0, 0, 0, 0) from rfl) rfl rfl) ?_
        refine e_then (e_st hT (y := 83) (pc := 181) (q := (yX4_suits, cX4_suits, 4, (some .boolean), 4)) rfl (show aTab 83 181 = some (.bipush 10, 2, 0, 0, 0, 0, 0, 0) from rfl) (fr' := (83, 183, (lv_args 0 [.ref 20, .int k, .int a, .int b]), [.int 10, .int a, .int (a / 10)])) (M' := M) rfl) ?_
        refine e_then (e_st hT (y := 83) (pc := 183) (q := (yX4_suits, cX4_suits, 4, (some .boolean), 4)) rfl (show aTab 83 183 = some (.irem, 1, 0, 0, 0, 0, 0, 0) from rfl) (fr' := (83, 184, (lv_args 0 [.ref 20, .int k, .int a, .int b]), [.int (a - a / 10 * 10), .int (a / 10)])) (M' := M) rfl) ?_
        by_cases c2 : a.toInt / 10 = a.toInt % 10
        · refine e_then (e_icT hT (y := 83) (pc := 184) (q := (yX4_suits, cX4_suits, 4, (some .boolean), 4)) rfl (show aTab 83 184 = some (.if_icmp .eq 20, 3, 0, 0, 0, 0, 0, 0) from rfl) rfl (t := 204) rfl (cdT (by show _ = _; omega))) ?_
          refine e_then (e_st hT (y := 83) (pc := 204) (q := (yX4_suits, cX4_suits, 4, (some .boolean), 4)) rfl (show aTab 83 204 = some (.iconst 0, 1, 0, 0, 0, 0, 0, 0) from rfl) (fr' := (83, 205, (lv_args 0 [.ref 20, .int k, .int a, .int b]), [.int 0])) (M' := M) rfl) ?_
          rw [gB_f (fun z => by have z := (ft_6 s6).mp z; first | exact c1 z.1 | exact c2 z.2 | exact z.2.1 c2 | exact c3 z.2.2)]
          exact e_fin (e_zret hT (y := 83) (pc := 205) (q := (yX4_suits, cX4_suits, 4, (some .boolean), 4)) rfl (show aTab 83 205 = some (.ireturn, 1, 0, 0, 0, 0, 0, 0) from rfl) ⟨rfl, rfl⟩ (Or.inl rfl)) ⟨rfl, rfl⟩
        · refine e_then (e_icF hT (y := 83) (pc := 184) (q := (yX4_suits, cX4_suits, 4, (some .boolean), 4)) rfl (show aTab 83 184 = some (.if_icmp .eq 20, 3, 0, 0, 0, 0, 0, 0) from rfl) rfl (t := 204) rfl (cdF (by show ¬ _ = _; omega))) ?_
          refine e_then (e_al1 hT (y := 83) (pc := 187) (q := (yX4_suits, cX4_suits, 4, (some .boolean), 4)) rfl (show aTab 83 187 = some (.aload_n 0, 1, 0, 0, 0, 0, 0, 0) from rfl) rfl rfl) ?_
          refine e_then (e_il1 hT (y := 83) (pc := 188) (q := (yX4_suits, cX4_suits, 4, (some .boolean), 4)) rfl (show aTab 83 188 = some (.iload_n 3, 1, 0, 0, 0, 0, 0, 0) from rfl) rfl rfl) ?_
          refine e_then (e_call hT (y := 83) (pc := 189) (q := (yX4_suits, cX4_suits, 4, (some .boolean), 4)) rfl (show aTab 83 189 = some (.invokevirtual 65, 3, 1, 71, 0, 1, 2, 4) from rfl) rfl ⟨by decide, Nat.le_of_ble_eq_true rfl⟩ (ob_at hM (rfl : tTy 11 = some (.inr (4, _)))).choose_spec (Nat.le_of_ble_eq_true rfl) (Nat.le_of_ble_eq_true rfl) ⟨by decide, by decide⟩ q7) ?_
          refine e_then (e_st hT (y := 83) (pc := 192) (q := (yX4_suits, cX4_suits, 4, (some .boolean), 4)) rfl (show aTab 83 192 = some (.iconst 1, 1, 0, 0, 0, 0, 0, 0) from rfl) (fr' := (83, 193, (lv_args 0 [.ref 20, .int k, .int a, .int b]), [.int 1, .int (kdO (g 12) P b)])) (M' := M) rfl) ?_
          refine e_then (e_st hT (y := 83) (pc := 193) (q := (yX4_suits, cX4_suits, 4, (some .boolean), 4)) rfl (show aTab 83 193 = some (.iconst 4, 1, 0, 0, 0, 0, 0, 0) from rfl) (fr' := (83, 194, (lv_args 0 [.ref 20, .int k, .int a, .int b]), [.int 4, .int 1, .int (kdO (g 12) P b)])) (M' := M) rfl) ?_
          by_cases c3 : 1 ≤ (kdO (g 12) P b).toInt ∧ (kdO (g 12) P b).toInt ≤ 4
          · rw [gB_t c3] at q8
            refine e_then (e_callsN hT (y := 83) (pc := 194) (q := (yX4_suits, cX4_suits, 4, (some .boolean), 4)) rfl (show aTab 83 194 = some (.invokestatic 61, 3, 3, 234, 0, 3, 3, 11) from rfl) (Nat.le_of_ble_eq_true rfl) (Nat.le_of_ble_eq_true rfl) (Nat.le_of_ble_eq_true rfl) ⟨by decide, by decide⟩ q8) ?_
            refine e_then (e_ifF hT (y := 83) (pc := 197) (q := (yX4_suits, cX4_suits, 4, (some .boolean), 4)) rfl (show aTab 83 197 = some (.ifCond .eq 7, 3, 0, 0, 0, 0, 0, 0) from rfl) rfl (t := 204) rfl (cdF (by show ¬ (_ = _); decide))) ?_
            refine e_then (e_st hT (y := 83) (pc := 200) (q := (yX4_suits, cX4_suits, 4, (some .boolean), 4)) rfl (show aTab 83 200 = some (.iconst 1, 1, 0, 0, 0, 0, 0, 0) from rfl) (fr' := (83, 201, (lv_args 0 [.ref 20, .int k, .int a, .int b]), [.int 1])) (M' := M) rfl) ?_
            refine e_then (e_st hT (y := 83) (pc := 201) (q := (yX4_suits, cX4_suits, 4, (some .boolean), 4)) rfl (show aTab 83 201 = some (.goto 4, 3, 0, 0, 0, 0, 0, 0) from rfl) (fr' := (83, 205, (lv_args 0 [.ref 20, .int k, .int a, .int b]), [.int 1])) (M' := M) rfl) ?_
            rw [gB_t ((ft_6 s6).mpr ⟨c1, c2, c3⟩)]
            exact e_fin (e_zret hT (y := 83) (pc := 205) (q := (yX4_suits, cX4_suits, 4, (some .boolean), 4)) rfl (show aTab 83 205 = some (.ireturn, 1, 0, 0, 0, 0, 0, 0) from rfl) ⟨rfl, rfl⟩ (Or.inr rfl)) ⟨rfl, rfl⟩
          · rw [gB_f c3] at q8
            refine e_then (e_callsN hT (y := 83) (pc := 194) (q := (yX4_suits, cX4_suits, 4, (some .boolean), 4)) rfl (show aTab 83 194 = some (.invokestatic 61, 3, 3, 234, 0, 3, 3, 11) from rfl) (Nat.le_of_ble_eq_true rfl) (Nat.le_of_ble_eq_true rfl) (Nat.le_of_ble_eq_true rfl) ⟨by decide, by decide⟩ q8) ?_
            refine e_then (e_ifT hT (y := 83) (pc := 197) (q := (yX4_suits, cX4_suits, 4, (some .boolean), 4)) rfl (show aTab 83 197 = some (.ifCond .eq 7, 3, 0, 0, 0, 0, 0, 0) from rfl) rfl (t := 204) rfl (cdT (by show _ = _; decide))) ?_
            refine e_then (e_st hT (y := 83) (pc := 204) (q := (yX4_suits, cX4_suits, 4, (some .boolean), 4)) rfl (show aTab 83 204 = some (.iconst 0, 1, 0, 0, 0, 0, 0, 0) from rfl) (fr' := (83, 205, (lv_args 0 [.ref 20, .int k, .int a, .int b]), [.int 0])) (M' := M) rfl) ?_
            rw [gB_f (fun z => by have z := (ft_6 s6).mp z; first | exact c1 z.1 | exact c2 z.2 | exact z.2.1 c2 | exact c3 z.2.2)]
            exact e_fin (e_zret hT (y := 83) (pc := 205) (q := (yX4_suits, cX4_suits, 4, (some .boolean), 4)) rfl (show aTab 83 205 = some (.ireturn, 1, 0, 0, 0, 0, 0, 0) from rfl) ⟨rfl, rfl⟩ (Or.inl rfl)) ⟨rfl, rfl⟩
      · rw [gB_f c1] at q3
        refine e_then (e_callsN hT (y := 83) (pc := 170) (q := (yX4_suits, cX4_suits, 4, (some .boolean), 4)) rfl (show aTab 83 170 = some (.invokestatic 81, 3, 3, 235, 0, 3, 3, 11) from rfl) (Nat.le_of_ble_eq_true rfl) (Nat.le_of_ble_eq_true rfl) (Nat.le_of_ble_eq_true rfl) ⟨by decide, by decide⟩ q3) ?_
        refine e_then (e_ifT hT (y := 83) (pc := 173) (q := (yX4_suits, cX4_suits, 4, (some .boolean), 4)) rfl (show aTab 83 173 = some (.ifCond .eq 31, 3, 0, 0, 0, 0, 0, 0) from rfl) rfl (t := 204) rfl (cdT (by show _ = _; decide))) ?_
        refine e_then (e_st hT (y := 83) (pc := 204) (q := (yX4_suits, cX4_suits, 4, (some .boolean), 4)) rfl (show aTab 83 204 = some (.iconst 0, 1, 0, 0, 0, 0, 0, 0) from rfl) (fr' := (83, 205, (lv_args 0 [.ref 20, .int k, .int a, .int b]), [.int 0])) (M' := M) rfl) ?_
        rw [gB_f (fun z => by have z := (ft_6 s6).mp z; first | exact c1 z.1 | exact c2 z.2 | exact z.2.1 c2 | exact c3 z.2.2)]
        exact e_fin (e_zret hT (y := 83) (pc := 205) (q := (yX4_suits, cX4_suits, 4, (some .boolean), 4)) rfl (show aTab 83 205 = some (.ireturn, 1, 0, 0, 0, 0, 0, 0) from rfl) ⟨rfl, rfl⟩ (Or.inl rfl)) ⟨rfl, rfl⟩
    by_cases s7 : (k).toInt = 7
    · refine e_then (e_tsC hT (y := 83) (pc := 1) (q := (yX4_suits, cX4_suits, 4, (some .boolean), 4)) rfl (show aTab 83 1 = some (.tableswitch 223 0 7 #[47, 61, 88, 223, 115, 140, 164, 205], 47, 0, 0, 0, 0, 0, 0) from rfl) s7 ⟨by decide, by decide⟩ (off := 205) rfl (t := 206) rfl) ?_
      refine e_then (e_al1 hT (y := 83) (pc := 206) (q := (yX4_suits, cX4_suits, 4, (some .boolean), 4)) rfl (show aTab 83 206 = some (.aload_n 0, 1, 0, 0, 0, 0, 0, 0) from rfl) rfl rfl) ?_
      refine e_then (e_il1 hT (y := 83) (pc := 207) (q := (yX4_suits, cX4_suits, 4, (some .boolean), 4)) rfl (show aTab 83 207 = some (.iload_n 2, 1, 0, 0, 0, 0, 0, 0) from rfl) rfl rfl) ?_
      by_cases c1 : lnP (g 12) P a
      · rw [gB_t c1] at q1
        refine e_then (e_call hT (y := 83) (pc := 208) (q := (yX4_suits, cX4_suits, 4, (some .boolean), 4)) rfl (show aTab 83 208 = some (.invokevirtual 78, 3, 1, 77, 0, 1, 2, 4) from rfl) rfl ⟨by decide, Nat.le_of_ble_eq_true rfl⟩ (ob_at hM (rfl : tTy 11 = some (.inr (4, _)))).choose_spec (Nat.le_of_ble_eq_true rfl) (Nat.le_of_ble_eq_true rfl) ⟨by decide, by decide⟩ q1) ?_
        refine e_then (e_ifF hT (y := 83) (pc := 211) (q := (yX4_suits, cX4_suits, 4, (some .boolean), 4)) rfl (show aTab 83 211 = some (.ifCond .eq 11, 3, 0, 0, 0, 0, 0, 0) from rfl) rfl (t := 222) rfl (cdF (by show ¬ (_ = _); decide))) ?_
        refine e_then (e_il1 hT (y := 83) (pc := 214) (q := (yX4_suits, cX4_suits, 4, (some .boolean), 4)) rfl (show aTab 83 214 = some (.iload_n 3, 1, 0, 0, 0, 0, 0, 0) from rfl) rfl rfl) ?_
        by_cases c2 : b.toInt = 0
        · refine e_then (e_ifF hT (y := 83) (pc := 215) (q := (yX4_suits, cX4_suits, 4, (some .boolean), 4)) rfl (show aTab 83 215 = some (.ifCond .ne 7, 3, 0, 0, 0, 0, 0, 0) from rfl) rfl (t := 222) rfl (cdF (by have e0 : (0 : Int32).toInt = 0 := rfl; show ¬ (¬ _ = _); omega))) ?_
          refine e_then (e_st hT (y := 83) (pc := 218) (q := (yX4_suits, cX4_suits, 4, (some .boolean), 4)) rfl (show aTab 83 218 = some (.iconst 1, 1, 0, 0, 0, 0, 0, 0) from rfl) (fr' := (83, 219, (lv_args 0 [.ref 20, .int k, .int a, .int b]), [.int 1])) (M' := M) rfl) ?_
          refine e_then (e_st hT (y := 83) (pc := 219) (q := (yX4_suits, cX4_suits, 4, (some .boolean), 4)) rfl (show aTab 83 219 = some (.goto 4, 3, 0, 0, 0, 0, 0, 0) from rfl) (fr' := (83, 223, (lv_args 0 [.ref 20, .int k, .int a, .int b]), [.int 1])) (M' := M) rfl) ?_
          rw [gB_t ((ft_7 s7).mpr ⟨c1, c2⟩)]
          exact e_fin (e_zret hT (y := 83) (pc := 223) (q := (yX4_suits, cX4_suits, 4, (some .boolean), 4)) rfl (show aTab 83 223 = some (.ireturn, 1, 0, 0, 0, 0, 0, 0) from rfl) ⟨rfl, rfl⟩ (Or.inr rfl)) ⟨rfl, rfl⟩
        · refine e_then (e_ifT hT (y := 83) (pc := 215) (q := (yX4_suits, cX4_suits, 4, (some .boolean), 4)) rfl (show aTab 83 215 = some (.ifCond .ne 7, 3, 0, 0, 0, 0, 0, 0) from rfl) rfl (t := 222) rfl (cdT (by have e0 : (0 : Int32).toInt = 0 := rfl; show ¬ _ = _; omega))) ?_
          refine e_then (e_st hT (y := 83) (pc := 222) (q := (yX4_suits, cX4_suits, 4, (some .boolean), 4)) rfl (show aTab 83 222 = some (.iconst 0, 1, 0, 0, 0, 0, 0, 0) from rfl) (fr' := (83, 223, (lv_args 0 [.ref 20, .int k, .int a, .int b]), [.int 0])) (M' := M) rfl) ?_
          rw [gB_f (fun z => by have z := (ft_7 s7).mp z; first | exact c1 z.1 | exact c2 z.2 | exact z.2.1 c2 | exact c3 z.2.2)]
          exact e_fin (e_zret hT (y := 83) (pc := 223) (q := (yX4_suits, cX4_suits, 4, (some .boolean), 4)) rfl (show aTab 83 223 = some (.ireturn, 1, 0, 0, 0, 0, 0, 0) from rfl) ⟨rfl, rfl⟩ (Or.inl rfl)) ⟨rfl, rfl⟩
      · rw [gB_f c1] at q1
        refine e_then (e_call hT (y := 83) (pc := 208) (q := (yX4_suits, cX4_suits, 4, (some .boolean), 4)) rfl (show aTab 83 208 = some (.invokevirtual 78, 3, 1, 77, 0, 1, 2, 4) from rfl) rfl ⟨by decide, Nat.le_of_ble_eq_true rfl⟩ (ob_at hM (rfl : tTy 11 = some (.inr (4, _)))).choose_spec (Nat.le_of_ble_eq_true rfl) (Nat.le_of_ble_eq_true rfl) ⟨by decide, by decide⟩ q1) ?_
        refine e_then (e_ifT hT (y := 83) (pc := 211) (q := (yX4_suits, cX4_suits, 4, (some .boolean), 4)) rfl (show aTab 83 211 = some (.ifCond .eq 11, 3, 0, 0, 0, 0, 0, 0) from rfl) rfl (t := 222) rfl (cdT (by show _ = _; decide))) ?_
        refine e_then (e_st hT (y := 83) (pc := 222) (q := (yX4_suits, cX4_suits, 4, (some .boolean), 4)) rfl (show aTab 83 222 = some (.iconst 0, 1, 0, 0, 0, 0, 0, 0) from rfl) (fr' := (83, 223, (lv_args 0 [.ref 20, .int k, .int a, .int b]), [.int 0])) (M' := M) rfl) ?_
        rw [gB_f (fun z => by have z := (ft_7 s7).mp z; first | exact c1 z.1 | exact c2 z.2 | exact z.2.1 c2 | exact c3 z.2.2)]
        exact e_fin (e_zret hT (y := 83) (pc := 223) (q := (yX4_suits, cX4_suits, 4, (some .boolean), 4)) rfl (show aTab 83 223 = some (.ireturn, 1, 0, 0, 0, 0, 0, 0) from rfl) ⟨rfl, rfl⟩ (Or.inl rfl)) ⟨rfl, rfl⟩
    refine e_then (e_tsD hT (y := 83) (pc := 1) (q := (yX4_suits, cX4_suits, 4, (some .boolean), 4)) rfl (show aTab 83 1 = some (.tableswitch 223 0 7 #[47, 61, 88, 223, 115, 140, 164, 205], 47, 0, 0, 0, 0, 0, 0) from rfl) (by omega) (t := 224) rfl) ?_
    refine e_then (e_st hT (y := 83) (pc := 224) (q := (yX4_suits, cX4_suits, 4, (some .boolean), 4)) rfl (show aTab 83 224 = some (.iconst 0, 1, 0, 0, 0, 0, 0, 0) from rfl) (fr' := (83, 225, (lv_args 0 [.ref 20, .int k, .int a, .int b]), [.int 0])) (M' := M) rfl) ?_
    rw [gB_f (ft_3 (by omega))]
    exact e_fin (e_zret hT (y := 83) (pc := 225) (q := (yX4_suits, cX4_suits, 4, (some .boolean), 4)) rfl (show aTab 83 225 = some (.ireturn, 1, 0, 0, 0, 0, 0, 0) from rfl) ⟨rfl, rfl⟩ (Or.inl rfl)) ⟨rfl, rfl⟩
  obtain ⟨K, r, M', q, rfl, rfl⟩ := go
  exact ⟨K, mRun_dm q hd⟩
/-- a paper put behind the others -/
def xnpS (g : Nat → Nat → Int32) (P j : Nat) : Nat → Nat → Int32 := fun c k => if c = 22 ∧ k < 40 * j ∧ k % 40 = P then 0 else g c k
theorem xnpS_c {g : Nat → Nat → Int32} {P j c : Nat} (h : c ≠ 22) (k : Nat) : xnpS g P j c k = g c k := if_neg (fun z => h z.1)
theorem xnpS_0 (g : Nat → Nat → Int32) (P : Nat) : xnpS g P 0 = g := by
  funext c k
  exact if_neg (fun z => by have := z.2.1; omega)
theorem xnpS_s {g : Nat → Nat → Int32} {P j : Nat} (hP : P < 40) : up2 (xnpS g P j) 22 (40 * j + P) 0 = xnpS g P (j + 1) := by
  funext c k
  by_cases e : c = 22 ∧ k = 40 * j + P
  · obtain ⟨rfl, rfl⟩ := e
    rw [up2_eq]
    exact (if_pos ⟨rfl, by omega, by omega⟩).symm
  · rw [show up2 (xnpS g P j) 22 (40 * j + P) 0 c k = xnpS g P j c k from if_neg e]
    unfold xnpS
    by_cases e2 : c = 22 ∧ k < 40 * j ∧ k % 40 = P
    · rw [if_pos e2, if_pos ⟨e2.1, by have := e2.2.1; omega, e2.2.2⟩]
    · rw [if_neg e2, if_neg (fun z => e2 ⟨z.1, by have h0 := z.1; have h1 := z.2.1; have h2 := z.2.2; have h4 : ¬ (c = 22 ∧ k = 40 * j + P) := e; omega, z.2.2⟩)]
def xnpA (g : Nat → Nat → Int32) (P : Nat) (k a b on md : Int32) : Nat → Nat → Int32 := up2 (up2 (up2 (up2 (up2 (up2 (up2 (up2 (up2 (up2 g 12 P k) 13 P a) 14 P b) 15 P 0) 16 P on) 17 P md) 18 P 0) 19 P (-1000000005)) 20 P (-1000000005)) 21 P (-1000000005)
def xnpG (g : Nat → Nat → Int32) (P : Nat) (k a b on md : Int32) : Nat → Nat → Int32 := up2 (xnpS (xnpA g P k a b on md) P 9) 11 0 (Int32.ofNat (P + 1))
theorem oa_m {j c : Nat} (h : j * 40 + c < 2147483648) (hj : j < 40000) : Int32.ofNat j * 40 + Int32.ofNat c = Int32.ofNat (40 * j + c) := by
  rw [show (40 : Int32) = Int32.ofNat 40 from rfl, ixm hj (by decide), oa h, Nat.mul_comm]
theorem xnp_loop (hT : aTabOk) {g : Nat → Nat → Int32} {P : Nat} (hP : g 11 0 = Int32.ofNat P) (hP2 : P < 40) : ∀ (d j : Nat) (lv : List (Nat × Value)) (M1 : mHe), j + d = 9 → yTy M1 → rdI M1 = xnpS g P j → mlg 0 lv = some (.ref 20) → mlg 6 lv = some (.int (Int32.ofNat P)) → mlg 7 lv = some (.int (Int32.ofNat j)) → mEv none 10 (86, 106, lv, []) M1 (fun r M' => r = some (.int (Int32.ofNat P)) ∧ yTy M' ∧ rdI M' = up2 (xnpS g P 9) 11 0 (Int32.ofNat (P + 1))) := by
  have eP := i32n (k := P) (by omega)
  have e9 : (9 : Int32).toInt = 9 := rfl
  intro d
  induction d with
  | zero =>
    intro j lv M1 hd hM hI h0 h6 h7
    have hd : j = 9 := by omega
    subst hd
    obtain ⟨g1, hg⟩ : ∃ x, x = rdI M1 := ⟨_, rfl⟩
    rw [← hg] at hI
    have hg := hg.symm
    have hP1 : g1 11 0 = Int32.ofNat P := by rw [hI, xnpS_c (by decide)]; exact hP
    refine e_then (e_il2 hT (y := 86) (pc := 106) (q := (yX4_addAny, cX4_addAny, 8, (some .int), 4)) rfl (show aTab 86 106 = some (.iload 7, 2, 0, 0, 0, 0, 0, 0) from rfl) rfl h7) ?_
    refine e_then (e_st hT (y := 86) (pc := 108) (q := (yX4_addAny, cX4_addAny, 8, (some .int), 4)) rfl (show aTab 86 108 = some (.bipush 9, 2, 0, 0, 0, 0, 0, 0) from rfl) (fr' := (86, 110, lv, [.int 9, .int (Int32.ofNat 9)])) (M' := M1) rfl) ?_
    refine e_then (e_icT hT (y := 86) (pc := 110) (q := (yX4_addAny, cX4_addAny, 8, (some .int), 4)) rfl (show aTab 86 110 = some (.if_icmp .ge 23, 3, 0, 0, 0, 0, 0, 0) from rfl) rfl (t := 133) rfl (cdT (by show _ ≤ _; decide))) ?_
    refine e_then (e_al1 hT (y := 86) (pc := 133) (q := (yX4_addAny, cX4_addAny, 8, (some .int), 4)) rfl (show aTab 86 133 = some (.aload_n 0, 1, 0, 0, 0, 0, 0, 0) from rfl) rfl h0) ?_
    refine e_then (e_st hT (y := 86) (pc := 134) (q := (yX4_addAny, cX4_addAny, 8, (some .int), 4)) rfl (show aTab 86 134 = some (.dup, 1, 0, 0, 0, 0, 0, 0) from rfl) (fr' := (86, 135, lv, [.ref 20, .ref 20])) (M' := M1) rfl) ?_
    refine e_then (s_getV hT (y := 86) (pc := 135) (q := (yX4_addAny, cX4_addAny, 8, (some .int), 4)) rfl (show aTab 86 135 = some (.getfield 48, 3, 0, 4, 0, 0, 0, 0) from rfl) rfl (by decide) hM hg 11 rfl rfl (v := (Int32.ofNat P)) (show (g1 11 0) = (Int32.ofNat P) from hP1)) ?_
    refine e_then (e_st hT (y := 86) (pc := 138) (q := (yX4_addAny, cX4_addAny, 8, (some .int), 4)) rfl (show aTab 86 138 = some (.iconst 1, 1, 0, 0, 0, 0, 0, 0) from rfl) (fr' := (86, 139, lv, [.int 1, .int (Int32.ofNat P), .ref 20])) (M' := M1) rfl) ?_
    refine e_then (e_st hT (y := 86) (pc := 139) (q := (yX4_addAny, cX4_addAny, 8, (some .int), 4)) rfl (show aTab 86 139 = some (.iadd, 1, 0, 0, 0, 0, 0, 0) from rfl) (fr' := (86, 140, lv, [.int ((Int32.ofNat P) + 1), .ref 20])) (M' := M1) rfl) ?_
    obtain ⟨m1, sm1, tm1, em1⟩ := s_putI (sc := none) (d := _) (lv := lv) (st := []) (z := ((Int32.ofNat P) + 1)) hT (y := 86) (pc := 140) (q := (yX4_addAny, cX4_addAny, 8, (some .int), 4)) rfl (show aTab 86 140 = some (.putfield 48, 3, 0, 4, 0, 0, 0, 0) from rfl) rfl rfl ⟨by decide, rfl, rfl⟩ hM hg 11 rfl rfl ⟨by rw [ix1 (by omega)]; omega, by rw [ix1 (by omega)]; omega⟩ (kn := 0) rfl
    refine e_then sm1 ?_
    refine e_then (e_il2 hT (y := 86) (pc := 143) (q := (yX4_addAny, cX4_addAny, 8, (some .int), 4)) rfl (show aTab 86 143 = some (.iload 6, 2, 0, 0, 0, 0, 0, 0) from rfl) rfl h6) ?_
    exact e_fin (e_iret hT (y := 86) (pc := 145) (q := (yX4_addAny, cX4_addAny, 8, (some .int), 4)) rfl (show aTab 86 145 = some (.ireturn, 1, 0, 0, 0, 0, 0, 0) from rfl) ⟨rfl, rfl⟩) ⟨rfl, tm1, by rw [em1, oa1 (by omega), hI]⟩
  | succ d ih =>
    intro j lv M1 hd hM hI h0 h6 h7
    have ej := i32n (k := j) (by omega)
    obtain ⟨g1, hg⟩ : ∃ x, x = rdI M1 := ⟨_, rfl⟩
    rw [← hg] at hI
    have hg := hg.symm
    have ix : (Int32.ofNat j * 40 + Int32.ofNat P).toInt = ((40 * j + P : Nat) : Int) := by rw [oa_m (by omega) (by omega), i32n (by omega)]
    refine e_then (e_il2 hT (y := 86) (pc := 106) (q := (yX4_addAny, cX4_addAny, 8, (some .int), 4)) rfl (show aTab 86 106 = some (.iload 7, 2, 0, 0, 0, 0, 0, 0) from rfl) rfl h7) ?_
    refine e_then (e_st hT (y := 86) (pc := 108) (q := (yX4_addAny, cX4_addAny, 8, (some .int), 4)) rfl (show aTab 86 108 = some (.bipush 9, 2, 0, 0, 0, 0, 0, 0) from rfl) (fr' := (86, 110, lv, [.int 9, .int (Int32.ofNat j)])) (M' := M1) rfl) ?_
    refine e_then (e_icF hT (y := 86) (pc := 110) (q := (yX4_addAny, cX4_addAny, 8, (some .int), 4)) rfl (show aTab 86 110 = some (.if_icmp .ge 23, 3, 0, 0, 0, 0, 0, 0) from rfl) rfl (t := 133) rfl (cdF (by show ¬ _ ≤ _; omega))) ?_
    refine e_then (e_al1 hT (y := 86) (pc := 113) (q := (yX4_addAny, cX4_addAny, 8, (some .int), 4)) rfl (show aTab 86 113 = some (.aload_n 0, 1, 0, 0, 0, 0, 0, 0) from rfl) rfl h0) ?_
    refine e_then (e_getR hT (y := 86) (pc := 114) (q := (yX4_addAny, cX4_addAny, 8, (some .int), 4)) rfl (show aTab 86 114 = some (.getfield 42, 3, 0, 4, 11, 0, 0, 0) from rfl) rfl (by decide) (by decide) hM rfl rfl) ?_
    refine e_then (e_il2 hT (y := 86) (pc := 117) (q := (yX4_addAny, cX4_addAny, 8, (some .int), 4)) rfl (show aTab 86 117 = some (.iload 7, 2, 0, 0, 0, 0, 0, 0) from rfl) rfl h7) ?_
    refine e_then (e_st hT (y := 86) (pc := 119) (q := (yX4_addAny, cX4_addAny, 8, (some .int), 4)) rfl (show aTab 86 119 = some (.bipush 40, 2, 0, 0, 0, 0, 0, 0) from rfl) (fr' := (86, 121, lv, [.int 40, .int (Int32.ofNat j), .ref 31])) (M' := M1) rfl) ?_
    refine e_then (e_st hT (y := 86) (pc := 121) (q := (yX4_addAny, cX4_addAny, 8, (some .int), 4)) rfl (show aTab 86 121 = some (.imul, 1, 0, 0, 0, 0, 0, 0) from rfl) (fr' := (86, 122, lv, [.int ((Int32.ofNat j) * 40), .ref 31])) (M' := M1) rfl) ?_
    refine e_then (e_il2 hT (y := 86) (pc := 122) (q := (yX4_addAny, cX4_addAny, 8, (some .int), 4)) rfl (show aTab 86 122 = some (.iload 6, 2, 0, 0, 0, 0, 0, 0) from rfl) rfl h6) ?_
    refine e_then (e_st hT (y := 86) (pc := 124) (q := (yX4_addAny, cX4_addAny, 8, (some .int), 4)) rfl (show aTab 86 124 = some (.iadd, 1, 0, 0, 0, 0, 0, 0) from rfl) (fr' := (86, 125, lv, [.int (((Int32.ofNat j) * 40) + (Int32.ofNat P)), .ref 31])) (M' := M1) rfl) ?_
    refine e_then (e_st hT (y := 86) (pc := 125) (q := (yX4_addAny, cX4_addAny, 8, (some .int), 4)) rfl (show aTab 86 125 = some (.iconst 0, 1, 0, 0, 0, 0, 0, 0) from rfl) (fr' := (86, 126, lv, [.int 0, .int (((Int32.ofNat j) * 40) + (Int32.ofNat P)), .ref 31])) (M' := M1) rfl) ?_
    obtain ⟨m1, sm1, tm1, em1⟩ := s_ast (sc := none) (d := _) (lv := lv) (st := []) (z := 0) (i := (((Int32.ofNat j) * 40) + (Int32.ofNat P))) hT (y := 86) (pc := 126) (q := (yX4_addAny, cX4_addAny, 8, (some .int), 4)) rfl (show aTab 86 126 = some (.iastore, 1, 0, 0, 0, 0, 0, 0) from rfl) rfl hM hg 22 (40 * j + P) rfl ix (by omega)
    refine e_then sm1 ?_
    refine e_then (e_ii hT (y := 86) (pc := 127) (q := (yX4_addAny, cX4_addAny, 8, (some .int), 4)) rfl (show aTab 86 127 = some (.iinc 7 1, 3, 0, 0, 0, 0, 0, 0) from rfl) ⟨rfl, by decide⟩ h7) ?_
    refine e_then (e_st hT (y := 86) (pc := 130) (q := (yX4_addAny, cX4_addAny, 8, (some .int), 4)) rfl (show aTab 86 130 = some (.goto (-24), 3, 0, 0, 0, 0, 0, 0) from rfl) (fr' := (86, 106, (mlp 7 (.int ((Int32.ofNat j) + Int32.ofInt 1)) lv), [])) (M' := m1) rfl) ?_
    rw [os1 (by omega)]
    exact ih _ _ _ (by omega) tm1 (by rw [em1, hI]; exact xnpS_s hP2) (mlg_r h0 (by decide)) (mlg_i h6 (by decide)) (mlg_eq 7 _ _)
theorem xaa_run (hT : aTabOk) {M : mHe} (hM : yTy M) {g : Nat → Nat → Int32} (hg : rdI M = g) {P : Nat} (hP : g 11 0 = Int32.ofNat P) (hP2 : P ≤ 40) {k a b on md : Int32} {d : Nat} (hd : 10 ≤ d) : ∃ K M' x, mRun none K d (86, 0, lv_args 0 [.ref 20, .int k, .int a, .int b, .int on, .int md], []) M = some (some (.int x), M') ∧ yTy M' ∧ ((P < 40 ∧ x = Int32.ofNat P ∧ rdI M' = xnpG g P k a b on md) ∨ (P = 40 ∧ x = -1000000003 ∧ rdI M' = g)) := by
  have eP := i32n (k := P) (by omega)
  have e40 : (40 : Int32).toInt = 40 := rfl
  have go : mEv none 10 (86, 0, lv_args 0 [.ref 20, .int k, .int a, .int b, .int on, .int md], []) M (fun r M' => ∃ x, r = some (.int x) ∧ yTy M' ∧ ((P < 40 ∧ x = Int32.ofNat P ∧ rdI M' = xnpG g P k a b on md) ∨ (P = 40 ∧ x = -1000000003 ∧ rdI M' = g))) := by
    refine e_then (e_al1 hT (y := 86) (pc := 0) (q := (yX4_addAny, cX4_addAny, 8, (some .int), 4)) rfl (show aTab 86 0 = some (.aload_n 0, 1, 0, 0, 0, 0, 0, 0) from rfl) rfl rfl) ?_
    refine e_then (s_getV hT (y := 86) (pc := 1) (q := (yX4_addAny, cX4_addAny, 8, (some .int), 4)) rfl (show aTab 86 1 = some (.getfield 48, 3, 0, 4, 0, 0, 0, 0) from rfl) rfl (by decide) hM hg 11 rfl rfl (v := (Int32.ofNat P)) (show (g 11 0) = (Int32.ofNat P) from hP)) ?_
    refine e_then (e_st hT (y := 86) (pc := 4) (q := (yX4_addAny, cX4_addAny, 8, (some .int), 4)) rfl (show aTab 86 4 = some (.bipush 40, 2, 0, 0, 0, 0, 0, 0) from rfl) (fr' := (86, 6, (lv_args 0 [.ref 20, .int k, .int a, .int b, .int on, .int md]), [.int 40, .int (Int32.ofNat P)])) (M' := M) rfl) ?_
    by_cases c1 : P < 40
    · refine e_then (e_icT hT (y := 86) (pc := 6) (q := (yX4_addAny, cX4_addAny, 8, (some .int), 4)) rfl (show aTab 86 6 = some (.if_icmp .lt 6, 3, 0, 0, 0, 0, 0, 0) from rfl) rfl (t := 12) rfl (cdT (by show _ < _; omega))) ?_
      refine e_then (e_al1 hT (y := 86) (pc := 12) (q := (yX4_addAny, cX4_addAny, 8, (some .int), 4)) rfl (show aTab 86 12 = some (.aload_n 0, 1, 0, 0, 0, 0, 0, 0) from rfl) rfl rfl) ?_
      refine e_then (s_getV hT (y := 86) (pc := 13) (q := (yX4_addAny, cX4_addAny, 8, (some .int), 4)) rfl (show aTab 86 13 = some (.getfield 48, 3, 0, 4, 0, 0, 0, 0) from rfl) rfl (by decide) hM hg 11 rfl rfl (v := (Int32.ofNat P)) (show (g 11 0) = (Int32.ofNat P) from hP)) ?_
      refine e_then (e_is2 hT (y := 86) (pc := 16) (q := (yX4_addAny, cX4_addAny, 8, (some .int), 4)) rfl (show aTab 86 16 = some (.istore 6, 2, 0, 0, 0, 0, 0, 0) from rfl) ⟨rfl, by decide⟩) ?_
      refine e_then (e_al1 hT (y := 86) (pc := 18) (q := (yX4_addAny, cX4_addAny, 8, (some .int), 4)) rfl (show aTab 86 18 = some (.aload_n 0, 1, 0, 0, 0, 0, 0, 0) from rfl) rfl (mlg_r rfl (by decide))) ?_
      refine e_then (e_getR hT (y := 86) (pc := 19) (q := (yX4_addAny, cX4_addAny, 8, (some .int), 4)) rfl (show aTab 86 19 = some (.getfield 9, 3, 0, 4, 1, 0, 0, 0) from rfl) rfl (by decide) (by decide) hM rfl rfl) ?_
      refine e_then (e_il2 hT (y := 86) (pc := 22) (q := (yX4_addAny, cX4_addAny, 8, (some .int), 4)) rfl (show aTab 86 22 = some (.iload 6, 2, 0, 0, 0, 0, 0, 0) from rfl) rfl (mlg_eq 6 _ _)) ?_
      refine e_then (e_il1 hT (y := 86) (pc := 24) (q := (yX4_addAny, cX4_addAny, 8, (some .int), 4)) rfl (show aTab 86 24 = some (.iload_n 1, 1, 0, 0, 0, 0, 0, 0) from rfl) rfl (mlg_i rfl (by decide))) ?_
      obtain ⟨m1, sm1, tm1, em1⟩ := s_ast (sc := none) (d := _) (lv := (mlp 6 (.int (Int32.ofNat P)) (lv_args 0 [.ref 20, .int k, .int a, .int b, .int on, .int md]))) (st := []) (z := k) (i := (Int32.ofNat P)) hT (y := 86) (pc := 25) (q := (yX4_addAny, cX4_addAny, 8, (some .int), 4)) rfl (show aTab 86 25 = some (.iastore, 1, 0, 0, 0, 0, 0, 0) from rfl) rfl hM hg 12 P rfl eP (by omega)
      refine e_then sm1 ?_
      refine e_then (e_al1 hT (y := 86) (pc := 26) (q := (yX4_addAny, cX4_addAny, 8, (some .int), 4)) rfl (show aTab 86 26 = some (.aload_n 0, 1, 0, 0, 0, 0, 0, 0) from rfl) rfl (mlg_r rfl (by decide))) ?_
      refine e_then (e_getR hT (y := 86) (pc := 27) (q := (yX4_addAny, cX4_addAny, 8, (some .int), 4)) rfl (show aTab 86 27 = some (.getfield 15, 3, 0, 4, 2, 0, 0, 0) from rfl) rfl (by decide) (by decide) tm1 rfl rfl) ?_
      refine e_then (e_il2 hT (y := 86) (pc := 30) (q := (yX4_addAny, cX4_addAny, 8, (some .int), 4)) rfl (show aTab 86 30 = some (.iload 6, 2, 0, 0, 0, 0, 0, 0) from rfl) rfl (mlg_eq 6 _ _)) ?_
      refine e_then (e_il1 hT (y := 86) (pc := 32) (q := (yX4_addAny, cX4_addAny, 8, (some .int), 4)) rfl (show aTab 86 32 = some (.iload_n 2, 1, 0, 0, 0, 0, 0, 0) from rfl) rfl (mlg_i rfl (by decide))) ?_
      obtain ⟨m2, sm2, tm2, em2⟩ := s_ast (sc := none) (d := _) (lv := (mlp 6 (.int (Int32.ofNat P)) (lv_args 0 [.ref 20, .int k, .int a, .int b, .int on, .int md]))) (st := []) (z := a) (i := (Int32.ofNat P)) hT (y := 86) (pc := 33) (q := (yX4_addAny, cX4_addAny, 8, (some .int), 4)) rfl (show aTab 86 33 = some (.iastore, 1, 0, 0, 0, 0, 0, 0) from rfl) rfl tm1 em1 13 P rfl eP (by omega)
      refine e_then sm2 ?_
      refine e_then (e_al1 hT (y := 86) (pc := 34) (q := (yX4_addAny, cX4_addAny, 8, (some .int), 4)) rfl (show aTab 86 34 = some (.aload_n 0, 1, 0, 0, 0, 0, 0, 0) from rfl) rfl (mlg_r rfl (by decide))) ?_
      refine e_then (e_getR hT (y := 86) (pc := 35) (q := (yX4_addAny, cX4_addAny, 8, (some .int), 4)) rfl (show aTab 86 35 = some (.getfield 18, 3, 0, 4, 3, 0, 0, 0) from rfl) rfl (by decide) (by decide) tm2 rfl rfl) ?_
      refine e_then (e_il2 hT (y := 86) (pc := 38) (q := (yX4_addAny, cX4_addAny, 8, (some .int), 4)) rfl (show aTab 86 38 = some (.iload 6, 2, 0, 0, 0, 0, 0, 0) from rfl) rfl (mlg_eq 6 _ _)) ?_
      refine e_then (e_il1 hT (y := 86) (pc := 40) (q := (yX4_addAny, cX4_addAny, 8, (some .int), 4)) rfl (show aTab 86 40 = some (.iload_n 3, 1, 0, 0, 0, 0, 0, 0) from rfl) rfl (mlg_i rfl (by decide))) ?_
      obtain ⟨m3, sm3, tm3, em3⟩ := s_ast (sc := none) (d := _) (lv := (mlp 6 (.int (Int32.ofNat P)) (lv_args 0 [.ref 20, .int k, .int a, .int b, .int on, .int md]))) (st := []) (z := b) (i := (Int32.ofNat P)) hT (y := 86) (pc := 41) (q := (yX4_addAny, cX4_addAny, 8, (some .int), 4)) rfl (show aTab 86 41 = some (.iastore, 1, 0, 0, 0, 0, 0, 0) from rfl) rfl tm2 em2 14 P rfl eP (by omega)
      refine e_then sm3 ?_
      refine e_then (e_al1 hT (y := 86) (pc := 42) (q := (yX4_addAny, cX4_addAny, 8, (some .int), 4)) rfl (show aTab 86 42 = some (.aload_n 0, 1, 0, 0, 0, 0, 0, 0) from rfl) rfl (mlg_r rfl (by decide))) ?_
      refine e_then (e_getR hT (y := 86) (pc := 43) (q := (yX4_addAny, cX4_addAny, 8, (some .int), 4)) rfl (show aTab 86 43 = some (.getfield 21, 3, 0, 4, 4, 0, 0, 0) from rfl) rfl (by decide) (by decide) tm3 rfl rfl) ?_
      refine e_then (e_il2 hT (y := 86) (pc := 46) (q := (yX4_addAny, cX4_addAny, 8, (some .int), 4)) rfl (show aTab 86 46 = some (.iload 6, 2, 0, 0, 0, 0, 0, 0) from rfl) rfl (mlg_eq 6 _ _)) ?_
      refine e_then (e_st hT (y := 86) (pc := 48) (q := (yX4_addAny, cX4_addAny, 8, (some .int), 4)) rfl (show aTab 86 48 = some (.iconst 0, 1, 0, 0, 0, 0, 0, 0) from rfl) (fr' := (86, 49, (mlp 6 (.int (Int32.ofNat P)) (lv_args 0 [.ref 20, .int k, .int a, .int b, .int on, .int md])), [.int 0, .int (Int32.ofNat P), .ref 24])) (M' := m3) rfl) ?_
      obtain ⟨m4, sm4, tm4, em4⟩ := s_ast (sc := none) (d := _) (lv := (mlp 6 (.int (Int32.ofNat P)) (lv_args 0 [.ref 20, .int k, .int a, .int b, .int on, .int md]))) (st := []) (z := 0) (i := (Int32.ofNat P)) hT (y := 86) (pc := 49) (q := (yX4_addAny, cX4_addAny, 8, (some .int), 4)) rfl (show aTab 86 49 = some (.iastore, 1, 0, 0, 0, 0, 0, 0) from rfl) rfl tm3 em3 15 P rfl eP (by omega)
      refine e_then sm4 ?_
      refine e_then (e_al1 hT (y := 86) (pc := 50) (q := (yX4_addAny, cX4_addAny, 8, (some .int), 4)) rfl (show aTab 86 50 = some (.aload_n 0, 1, 0, 0, 0, 0, 0, 0) from rfl) rfl (mlg_r rfl (by decide))) ?_
      refine e_then (e_getR hT (y := 86) (pc := 51) (q := (yX4_addAny, cX4_addAny, 8, (some .int), 4)) rfl (show aTab 86 51 = some (.getfield 24, 3, 0, 4, 5, 0, 0, 0) from rfl) rfl (by decide) (by decide) tm4 rfl rfl) ?_
      refine e_then (e_il2 hT (y := 86) (pc := 54) (q := (yX4_addAny, cX4_addAny, 8, (some .int), 4)) rfl (show aTab 86 54 = some (.iload 6, 2, 0, 0, 0, 0, 0, 0) from rfl) rfl (mlg_eq 6 _ _)) ?_
      refine e_then (e_il2 hT (y := 86) (pc := 56) (q := (yX4_addAny, cX4_addAny, 8, (some .int), 4)) rfl (show aTab 86 56 = some (.iload 4, 2, 0, 0, 0, 0, 0, 0) from rfl) rfl (mlg_i rfl (by decide))) ?_
      obtain ⟨m5, sm5, tm5, em5⟩ := s_ast (sc := none) (d := _) (lv := (mlp 6 (.int (Int32.ofNat P)) (lv_args 0 [.ref 20, .int k, .int a, .int b, .int on, .int md]))) (st := []) (z := on) (i := (Int32.ofNat P)) hT (y := 86) (pc := 58) (q := (yX4_addAny, cX4_addAny, 8, (some .int), 4)) rfl (show aTab 86 58 = some (.iastore, 1, 0, 0, 0, 0, 0, 0) from rfl) rfl tm4 em4 16 P rfl eP (by omega)
      refine e_then sm5 ?_
      refine e_then (e_al1 hT (y := 86) (pc := 59) (q := (yX4_addAny, cX4_addAny, 8, (some .int), 4)) rfl (show aTab 86 59 = some (.aload_n 0, 1, 0, 0, 0, 0, 0, 0) from rfl) rfl (mlg_r rfl (by decide))) ?_
      refine e_then (e_getR hT (y := 86) (pc := 60) (q := (yX4_addAny, cX4_addAny, 8, (some .int), 4)) rfl (show aTab 86 60 = some (.getfield 27, 3, 0, 4, 6, 0, 0, 0) from rfl) rfl (by decide) (by decide) tm5 rfl rfl) ?_
      refine e_then (e_il2 hT (y := 86) (pc := 63) (q := (yX4_addAny, cX4_addAny, 8, (some .int), 4)) rfl (show aTab 86 63 = some (.iload 6, 2, 0, 0, 0, 0, 0, 0) from rfl) rfl (mlg_eq 6 _ _)) ?_
      refine e_then (e_il2 hT (y := 86) (pc := 65) (q := (yX4_addAny, cX4_addAny, 8, (some .int), 4)) rfl (show aTab 86 65 = some (.iload 5, 2, 0, 0, 0, 0, 0, 0) from rfl) rfl (mlg_i rfl (by decide))) ?_
      obtain ⟨m6, sm6, tm6, em6⟩ := s_ast (sc := none) (d := _) (lv := (mlp 6 (.int (Int32.ofNat P)) (lv_args 0 [.ref 20, .int k, .int a, .int b, .int on, .int md]))) (st := []) (z := md) (i := (Int32.ofNat P)) hT (y := 86) (pc := 67) (q := (yX4_addAny, cX4_addAny, 8, (some .int), 4)) rfl (show aTab 86 67 = some (.iastore, 1, 0, 0, 0, 0, 0, 0) from rfl) rfl tm5 em5 17 P rfl eP (by omega)
      refine e_then sm6 ?_
      refine e_then (e_al1 hT (y := 86) (pc := 68) (q := (yX4_addAny, cX4_addAny, 8, (some .int), 4)) rfl (show aTab 86 68 = some (.aload_n 0, 1, 0, 0, 0, 0, 0, 0) from rfl) rfl (mlg_r rfl (by decide))) ?_
      refine e_then (e_getR hT (y := 86) (pc := 69) (q := (yX4_addAny, cX4_addAny, 8, (some .int), 4)) rfl (show aTab 86 69 = some (.getfield 30, 3, 0, 4, 7, 0, 0, 0) from rfl) rfl (by decide) (by decide) tm6 rfl rfl) ?_
      refine e_then (e_il2 hT (y := 86) (pc := 72) (q := (yX4_addAny, cX4_addAny, 8, (some .int), 4)) rfl (show aTab 86 72 = some (.iload 6, 2, 0, 0, 0, 0, 0, 0) from rfl) rfl (mlg_eq 6 _ _)) ?_
      refine e_then (e_st hT (y := 86) (pc := 74) (q := (yX4_addAny, cX4_addAny, 8, (some .int), 4)) rfl (show aTab 86 74 = some (.iconst 0, 1, 0, 0, 0, 0, 0, 0) from rfl) (fr' := (86, 75, (mlp 6 (.int (Int32.ofNat P)) (lv_args 0 [.ref 20, .int k, .int a, .int b, .int on, .int md])), [.int 0, .int (Int32.ofNat P), .ref 27])) (M' := m6) rfl) ?_
      obtain ⟨m7, sm7, tm7, em7⟩ := s_ast (sc := none) (d := _) (lv := (mlp 6 (.int (Int32.ofNat P)) (lv_args 0 [.ref 20, .int k, .int a, .int b, .int on, .int md]))) (st := []) (z := 0) (i := (Int32.ofNat P)) hT (y := 86) (pc := 75) (q := (yX4_addAny, cX4_addAny, 8, (some .int), 4)) rfl (show aTab 86 75 = some (.iastore, 1, 0, 0, 0, 0, 0, 0) from rfl) rfl tm6 em6 18 P rfl eP (by omega)
      refine e_then sm7 ?_
      refine e_then (e_al1 hT (y := 86) (pc := 76) (q := (yX4_addAny, cX4_addAny, 8, (some .int), 4)) rfl (show aTab 86 76 = some (.aload_n 0, 1, 0, 0, 0, 0, 0, 0) from rfl) rfl (mlg_r rfl (by decide))) ?_
      refine e_then (e_getR hT (y := 86) (pc := 77) (q := (yX4_addAny, cX4_addAny, 8, (some .int), 4)) rfl (show aTab 86 77 = some (.getfield 33, 3, 0, 4, 8, 0, 0, 0) from rfl) rfl (by decide) (by decide) tm7 rfl rfl) ?_
      refine e_then (e_il2 hT (y := 86) (pc := 80) (q := (yX4_addAny, cX4_addAny, 8, (some .int), 4)) rfl (show aTab 86 80 = some (.iload 6, 2, 0, 0, 0, 0, 0, 0) from rfl) rfl (mlg_eq 6 _ _)) ?_
      refine e_then (e_st hT (y := 86) (pc := 82) (q := (yX4_addAny, cX4_addAny, 8, (some .int), 4)) rfl (show aTab 86 82 = some (.ldc 60, 2, 7, 0, (-1000000005), 0, 0, 0) from rfl) (fr' := (86, 84, (mlp 6 (.int (Int32.ofNat P)) (lv_args 0 [.ref 20, .int k, .int a, .int b, .int on, .int md])), [.int (-1000000005), .int (Int32.ofNat P), .ref 28])) (M' := m7) rfl) ?_
      obtain ⟨m8, sm8, tm8, em8⟩ := s_ast (sc := none) (d := _) (lv := (mlp 6 (.int (Int32.ofNat P)) (lv_args 0 [.ref 20, .int k, .int a, .int b, .int on, .int md]))) (st := []) (z := (-1000000005)) (i := (Int32.ofNat P)) hT (y := 86) (pc := 84) (q := (yX4_addAny, cX4_addAny, 8, (some .int), 4)) rfl (show aTab 86 84 = some (.iastore, 1, 0, 0, 0, 0, 0, 0) from rfl) rfl tm7 em7 19 P rfl eP (by omega)
      refine e_then sm8 ?_
      refine e_then (e_al1 hT (y := 86) (pc := 85) (q := (yX4_addAny, cX4_addAny, 8, (some .int), 4)) rfl (show aTab 86 85 = some (.aload_n 0, 1, 0, 0, 0, 0, 0, 0) from rfl) rfl (mlg_r rfl (by decide))) ?_
      refine e_then (e_getR hT (y := 86) (pc := 86) (q := (yX4_addAny, cX4_addAny, 8, (some .int), 4)) rfl (show aTab 86 86 = some (.getfield 36, 3, 0, 4, 9, 0, 0, 0) from rfl) rfl (by decide) (by decide) tm8 rfl rfl) ?_
      refine e_then (e_il2 hT (y := 86) (pc := 89) (q := (yX4_addAny, cX4_addAny, 8, (some .int), 4)) rfl (show aTab 86 89 = some (.iload 6, 2, 0, 0, 0, 0, 0, 0) from rfl) rfl (mlg_eq 6 _ _)) ?_
      refine e_then (e_st hT (y := 86) (pc := 91) (q := (yX4_addAny, cX4_addAny, 8, (some .int), 4)) rfl (show aTab 86 91 = some (.ldc 60, 2, 7, 0, (-1000000005), 0, 0, 0) from rfl) (fr' := (86, 93, (mlp 6 (.int (Int32.ofNat P)) (lv_args 0 [.ref 20, .int k, .int a, .int b, .int on, .int md])), [.int (-1000000005), .int (Int32.ofNat P), .ref 29])) (M' := m8) rfl) ?_
      obtain ⟨m9, sm9, tm9, em9⟩ := s_ast (sc := none) (d := _) (lv := (mlp 6 (.int (Int32.ofNat P)) (lv_args 0 [.ref 20, .int k, .int a, .int b, .int on, .int md]))) (st := []) (z := (-1000000005)) (i := (Int32.ofNat P)) hT (y := 86) (pc := 93) (q := (yX4_addAny, cX4_addAny, 8, (some .int), 4)) rfl (show aTab 86 93 = some (.iastore, 1, 0, 0, 0, 0, 0, 0) from rfl) rfl tm8 em8 20 P rfl eP (by omega)
      refine e_then sm9 ?_
      refine e_then (e_al1 hT (y := 86) (pc := 94) (q := (yX4_addAny, cX4_addAny, 8, (some .int), 4)) rfl (show aTab 86 94 = some (.aload_n 0, 1, 0, 0, 0, 0, 0, 0) from rfl) rfl (mlg_r rfl (by decide))) ?_
      refine e_then (e_getR hT (y := 86) (pc := 95) (q := (yX4_addAny, cX4_addAny, 8, (some .int), 4)) rfl (show aTab 86 95 = some (.getfield 39, 3, 0, 4, 10, 0, 0, 0) from rfl) rfl (by decide) (by decide) tm9 rfl rfl) ?_
      refine e_then (e_il2 hT (y := 86) (pc := 98) (q := (yX4_addAny, cX4_addAny, 8, (some .int), 4)) rfl (show aTab 86 98 = some (.iload 6, 2, 0, 0, 0, 0, 0, 0) from rfl) rfl (mlg_eq 6 _ _)) ?_
      refine e_then (e_st hT (y := 86) (pc := 100) (q := (yX4_addAny, cX4_addAny, 8, (some .int), 4)) rfl (show aTab 86 100 = some (.ldc 60, 2, 7, 0, (-1000000005), 0, 0, 0) from rfl) (fr' := (86, 102, (mlp 6 (.int (Int32.ofNat P)) (lv_args 0 [.ref 20, .int k, .int a, .int b, .int on, .int md])), [.int (-1000000005), .int (Int32.ofNat P), .ref 30])) (M' := m9) rfl) ?_
      obtain ⟨m10, sm10, tm10, em10⟩ := s_ast (sc := none) (d := _) (lv := (mlp 6 (.int (Int32.ofNat P)) (lv_args 0 [.ref 20, .int k, .int a, .int b, .int on, .int md]))) (st := []) (z := (-1000000005)) (i := (Int32.ofNat P)) hT (y := 86) (pc := 102) (q := (yX4_addAny, cX4_addAny, 8, (some .int), 4)) rfl (show aTab 86 102 = some (.iastore, 1, 0, 0, 0, 0, 0, 0) from rfl) rfl tm9 em9 21 P rfl eP (by omega)
      refine e_then sm10 ?_
      refine e_then (e_st hT (y := 86) (pc := 103) (q := (yX4_addAny, cX4_addAny, 8, (some .int), 4)) rfl (show aTab 86 103 = some (.iconst 0, 1, 0, 0, 0, 0, 0, 0) from rfl) (fr' := (86, 104, (mlp 6 (.int (Int32.ofNat P)) (lv_args 0 [.ref 20, .int k, .int a, .int b, .int on, .int md])), [.int 0])) (M' := m10) rfl) ?_
      refine e_then (e_is2 hT (y := 86) (pc := 104) (q := (yX4_addAny, cX4_addAny, 8, (some .int), 4)) rfl (show aTab 86 104 = some (.istore 7, 2, 0, 0, 0, 0, 0, 0) from rfl) ⟨rfl, by decide⟩) ?_
      obtain ⟨K7, r7, M7, q7, rfl, t7, e7⟩ := xnp_loop hT (g := xnpA g P k a b on md) (show xnpA g P k a b on md 11 0 = Int32.ofNat P from hP) c1 9 0 (mlp 7 (.int 0) (mlp 6 (.int (Int32.ofNat P)) (lv_args 0 [.ref 20, .int k, .int a, .int b, .int on, .int md]))) m10 (by omega) tm10 (by rw [xnpS_0]; exact em10) (mlg_r (mlg_r rfl (by decide)) (by decide)) (mlg_i (mlg_eq 6 _ _) (by decide)) (mlg_eq 7 _ _)
      exact ⟨K7, _, M7, q7, _, rfl, t7, Or.inl ⟨c1, rfl, e7⟩⟩
    · refine e_then (e_icF hT (y := 86) (pc := 6) (q := (yX4_addAny, cX4_addAny, 8, (some .int), 4)) rfl (show aTab 86 6 = some (.if_icmp .lt 6, 3, 0, 0, 0, 0, 0, 0) from rfl) rfl (t := 12) rfl (cdF (by show ¬ _ < _; omega))) ?_
      refine e_then (e_st hT (y := 86) (pc := 9) (q := (yX4_addAny, cX4_addAny, 8, (some .int), 4)) rfl (show aTab 86 9 = some (.ldc 93, 2, 7, 0, (-1000000003), 0, 0, 0) from rfl) (fr' := (86, 11, (lv_args 0 [.ref 20, .int k, .int a, .int b, .int on, .int md]), [.int (-1000000003)])) (M' := M) rfl) ?_
      exact e_fin (e_iret hT (y := 86) (pc := 11) (q := (yX4_addAny, cX4_addAny, 8, (some .int), 4)) rfl (show aTab 86 11 = some (.ireturn, 1, 0, 0, 0, 0, 0, 0) from rfl) ⟨rfl, rfl⟩) ⟨_, rfl, hM, Or.inr ⟨by omega, rfl, hg⟩⟩
  obtain ⟨K, r, M', q, x, rfl, q2, q3⟩ := go
  exact ⟨K, M', x, mRun_dm q hd, q2, q3⟩
def pwQ (ok : Prop) (P : Nat) (x : Int32) (g G g' : Nat → Nat → Int32) : Prop := (¬ ok ∧ x = -1000000001 ∧ g' = g) ∨ (ok ∧ P < 40 ∧ x = Int32.ofNat P ∧ g' = G) ∨ (ok ∧ P = 40 ∧ x = -1000000003 ∧ g' = g)
def hgP (kd : Nat → Int32) (P : Nat) (l b on md : Int32) : Prop := (lnP kd P l ∧ (-9999 ≤ b.toInt ∧ b.toInt ≤ 9999)) ∧ chP kd P on ∧ (0 ≤ md.toInt ∧ md.toInt ≤ 1)
theorem xpp_run (hT : aTabOk) {M : mHe} (hM : yTy M) {g : Nat → Nat → Int32} (hg : rdI M = g) {P : Nat} (hP : g 11 0 = Int32.ofNat P) (hP2 : P ≤ 40) {k a b : Int32} : mEv none 40 (191, 0, lv_args 0 [.ref 9, .int k, .int a, .int b], []) M (fun r M' => ∃ x, r = some (.int x) ∧ yTy M' ∧ pwQ (ftP (g 12) P k a b) P x g (xnpG g P k a b (-1000000005) 0) (rdI M')) := by
  have dF : Decidable (ftP (g 12) P k a b) := Classical.propDecidable _
  obtain ⟨K1, q1⟩ := xft_run hT hM hg hP hP2 (k := k) (a := a) (b := b) (d := 29) (by decide)
  obtain ⟨K2, M2, x2, q2, t2, f2⟩ := xaa_run hT hM hg hP hP2 (k := k) (a := a) (b := b) (on := -1000000005) (md := 0) (d := 29) (by decide)
  have go : mEv none 30 (84, 0, lv_args 0 [.ref 20, .int k, .int a, .int b], []) M (fun r M' => ∃ x, r = some (.int x) ∧ yTy M' ∧ pwQ (ftP (g 12) P k a b) P x g (xnpG g P k a b (-1000000005) 0) (rdI M')) := by
    refine e_then (e_al1 hT (y := 84) (pc := 0) (q := (yX4_add, cX4_add, 4, (some .int), 4)) rfl (show aTab 84 0 = some (.aload_n 0, 1, 0, 0, 0, 0, 0, 0) from rfl) rfl rfl) ?_
    refine e_then (e_il1 hT (y := 84) (pc := 1) (q := (yX4_add, cX4_add, 4, (some .int), 4)) rfl (show aTab 84 1 = some (.iload_n 1, 1, 0, 0, 0, 0, 0, 0) from rfl) rfl rfl) ?_
    refine e_then (e_il1 hT (y := 84) (pc := 2) (q := (yX4_add, cX4_add, 4, (some .int), 4)) rfl (show aTab 84 2 = some (.iload_n 2, 1, 0, 0, 0, 0, 0, 0) from rfl) rfl rfl) ?_
    refine e_then (e_il1 hT (y := 84) (pc := 3) (q := (yX4_add, cX4_add, 4, (some .int), 4)) rfl (show aTab 84 3 = some (.iload_n 3, 1, 0, 0, 0, 0, 0, 0) from rfl) rfl rfl) ?_
    by_cases c1 : ftP (g 12) P k a b
    · rw [gB_t c1] at q1
      refine e_then (e_call hT (y := 84) (pc := 4) (q := (yX4_add, cX4_add, 4, (some .int), 4)) rfl (show aTab 84 4 = some (.invokevirtual 85, 3, 1, 83, 0, 3, 4, 4) from rfl) rfl ⟨by decide, Nat.le_of_ble_eq_true rfl⟩ (ob_at hM (rfl : tTy 11 = some (.inr (4, _)))).choose_spec (Nat.le_of_ble_eq_true rfl) (Nat.le_of_ble_eq_true rfl) ⟨by decide, by decide⟩ q1) ?_
      refine e_then (e_ifT hT (y := 84) (pc := 7) (q := (yX4_add, cX4_add, 4, (some .int), 4)) rfl (show aTab 84 7 = some (.ifCond .ne 6, 3, 0, 0, 0, 0, 0, 0) from rfl) rfl (t := 13) rfl (cdT (by show ¬ _ = _; decide))) ?_
      refine e_then (e_al1 hT (y := 84) (pc := 13) (q := (yX4_add, cX4_add, 4, (some .int), 4)) rfl (show aTab 84 13 = some (.aload_n 0, 1, 0, 0, 0, 0, 0, 0) from rfl) rfl rfl) ?_
      refine e_then (e_il1 hT (y := 84) (pc := 14) (q := (yX4_add, cX4_add, 4, (some .int), 4)) rfl (show aTab 84 14 = some (.iload_n 1, 1, 0, 0, 0, 0, 0, 0) from rfl) rfl rfl) ?_
      refine e_then (e_il1 hT (y := 84) (pc := 15) (q := (yX4_add, cX4_add, 4, (some .int), 4)) rfl (show aTab 84 15 = some (.iload_n 2, 1, 0, 0, 0, 0, 0, 0) from rfl) rfl rfl) ?_
      refine e_then (e_il1 hT (y := 84) (pc := 16) (q := (yX4_add, cX4_add, 4, (some .int), 4)) rfl (show aTab 84 16 = some (.iload_n 3, 1, 0, 0, 0, 0, 0, 0) from rfl) rfl rfl) ?_
      refine e_then (e_st hT (y := 84) (pc := 17) (q := (yX4_add, cX4_add, 4, (some .int), 4)) rfl (show aTab 84 17 = some (.ldc 60, 2, 7, 0, (-1000000005), 0, 0, 0) from rfl) (fr' := (84, 19, (lv_args 0 [.ref 20, .int k, .int a, .int b]), [.int (-1000000005), .int b, .int a, .int k, .ref 20])) (M' := M) rfl) ?_
      refine e_then (e_st hT (y := 84) (pc := 19) (q := (yX4_add, cX4_add, 4, (some .int), 4)) rfl (show aTab 84 19 = some (.iconst 0, 1, 0, 0, 0, 0, 0, 0) from rfl) (fr' := (84, 20, (lv_args 0 [.ref 20, .int k, .int a, .int b]), [.int 0, .int (-1000000005), .int b, .int a, .int k, .ref 20])) (M' := M) rfl) ?_
      refine e_then (e_call hT (y := 84) (pc := 20) (q := (yX4_add, cX4_add, 4, (some .int), 4)) rfl (show aTab 84 20 = some (.invokevirtual 89, 3, 1, 86, 0, 5, 8, 4) from rfl) rfl ⟨by decide, Nat.le_of_ble_eq_true rfl⟩ (ob_at hM (rfl : tTy 11 = some (.inr (4, _)))).choose_spec (Nat.le_of_ble_eq_true rfl) (Nat.le_of_ble_eq_true rfl) ⟨by decide, by decide⟩ q2) ?_
      exact e_fin (e_iret hT (y := 84) (pc := 23) (q := (yX4_add, cX4_add, 4, (some .int), 4)) rfl (show aTab 84 23 = some (.ireturn, 1, 0, 0, 0, 0, 0, 0) from rfl) ⟨rfl, rfl⟩) ⟨_, rfl, t2, Or.inr (f2.elim (fun z => Or.inl ⟨c1, z⟩) (fun z => Or.inr ⟨c1, z⟩))⟩
    · rw [gB_f c1] at q1
      refine e_then (e_call hT (y := 84) (pc := 4) (q := (yX4_add, cX4_add, 4, (some .int), 4)) rfl (show aTab 84 4 = some (.invokevirtual 85, 3, 1, 83, 0, 3, 4, 4) from rfl) rfl ⟨by decide, Nat.le_of_ble_eq_true rfl⟩ (ob_at hM (rfl : tTy 11 = some (.inr (4, _)))).choose_spec (Nat.le_of_ble_eq_true rfl) (Nat.le_of_ble_eq_true rfl) ⟨by decide, by decide⟩ q1) ?_
      refine e_then (e_ifF hT (y := 84) (pc := 7) (q := (yX4_add, cX4_add, 4, (some .int), 4)) rfl (show aTab 84 7 = some (.ifCond .ne 6, 3, 0, 0, 0, 0, 0, 0) from rfl) rfl (t := 13) rfl (cdF (by show ¬ (¬ _ = _); decide))) ?_
      refine e_then (e_st hT (y := 84) (pc := 10) (q := (yX4_add, cX4_add, 4, (some .int), 4)) rfl (show aTab 84 10 = some (.ldc 88, 2, 7, 0, (-1000000001), 0, 0, 0) from rfl) (fr' := (84, 12, (lv_args 0 [.ref 20, .int k, .int a, .int b]), [.int (-1000000001)])) (M' := M) rfl) ?_
      exact e_fin (e_iret hT (y := 84) (pc := 12) (q := (yX4_add, cX4_add, 4, (some .int), 4)) rfl (show aTab 84 12 = some (.ireturn, 1, 0, 0, 0, 0, 0, 0) from rfl) ⟨rfl, rfl⟩) ⟨_, rfl, hM, Or.inl ⟨c1, rfl, hg⟩⟩
  obtain ⟨K6, r6, M6, q6, x, rfl, t6, f6⟩ := go
  have q6 := mRun_dm q6 (show 30 ≤ 39 by decide)
  refine e_then (e_al1 hT (y := 191) (pc := 0) (q := (yX11_paper, cX11_paper, 4, (some .int), 11)) rfl (show aTab 191 0 = some (.aload_n 0, 1, 0, 0, 0, 0, 0, 0) from rfl) rfl rfl) ?_
  refine e_then (e_getR hT (y := 191) (pc := 1) (q := (yX11_paper, cX11_paper, 4, (some .int), 11)) rfl (show aTab 191 1 = some (.getfield 12, 3, 0, 11, 0, 0, 0, 0) from rfl) rfl (by decide) (by decide) hM rfl rfl) ?_
  refine e_then (e_getR hT (y := 191) (pc := 4) (q := (yX11_paper, cX11_paper, 4, (some .int), 11)) rfl (show aTab 191 4 = some (.getfield 85, 3, 0, 1, 4, 0, 0, 0) from rfl) rfl (by decide) (by decide) hM rfl rfl) ?_
  refine e_then (e_il1 hT (y := 191) (pc := 7) (q := (yX11_paper, cX11_paper, 4, (some .int), 11)) rfl (show aTab 191 7 = some (.iload_n 1, 1, 0, 0, 0, 0, 0, 0) from rfl) rfl rfl) ?_
  refine e_then (e_il1 hT (y := 191) (pc := 8) (q := (yX11_paper, cX11_paper, 4, (some .int), 11)) rfl (show aTab 191 8 = some (.iload_n 2, 1, 0, 0, 0, 0, 0, 0) from rfl) rfl rfl) ?_
  refine e_then (e_il1 hT (y := 191) (pc := 9) (q := (yX11_paper, cX11_paper, 4, (some .int), 11)) rfl (show aTab 191 9 = some (.iload_n 3, 1, 0, 0, 0, 0, 0, 0) from rfl) rfl rfl) ?_
  refine e_then (e_call hT (y := 191) (pc := 10) (q := (yX11_paper, cX11_paper, 4, (some .int), 11)) rfl (show aTab 191 10 = some (.invokevirtual 89, 3, 1, 84, 0, 3, 4, 4) from rfl) rfl ⟨by decide, Nat.le_of_ble_eq_true rfl⟩ (ob_at hM (rfl : tTy 11 = some (.inr (4, _)))).choose_spec (Nat.le_of_ble_eq_true rfl) (Nat.le_of_ble_eq_true rfl) ⟨by decide, by decide⟩ q6) ?_
  exact e_fin (e_iret hT (y := 191) (pc := 13) (q := (yX11_paper, cX11_paper, 4, (some .int), 11)) rfl (show aTab 191 13 = some (.ireturn, 1, 0, 0, 0, 0, 0, 0) from rfl) ⟨rfl, rfl⟩) ⟨x, rfl, t6, f6⟩
theorem xhu_run (hT : aTabOk) {M : mHe} (hM : yTy M) {g : Nat → Nat → Int32} (hg : rdI M = g) {P : Nat} (hP : g 11 0 = Int32.ofNat P) (hP2 : P ≤ 40) {l b on md : Int32} : mEv none 40 (192, 0, lv_args 0 [.ref 9, .int l, .int b, .int on, .int md], []) M (fun r M' => ∃ x, r = some (.int x) ∧ yTy M' ∧ pwQ (hgP (g 12) P l b on md) P x g (xnpG g P 3 l b on md) (rdI M')) := by
  have dF : Decidable (ftP (g 12) P 2 l b) := Classical.propDecidable _
  have dC : Decidable (chP (g 12) P on) := Classical.propDecidable _
  have k2 := ft_2 (kd := g 12) (P := P) (k := 2) (a := l) (b := b) rfl
  obtain ⟨K1, q1⟩ := xft_run hT hM hg hP hP2 (k := 2) (a := l) (b := b) (d := 29) (by decide)
  obtain ⟨K3, q3⟩ := xic_run hT hM hg hP hP2 (p := on) (d := 29) (by decide)
  obtain ⟨K4, q4⟩ := within_i hT (M := M) (v := md) (l := 0) (h := 1) (d := 29) (by decide)
  rw [show (0 : Int32).toInt = 0 from rfl, show (1 : Int32).toInt = 1 from rfl] at q4
  obtain ⟨K2, M2, x2, q2, t2, f2⟩ := xaa_run hT hM hg hP hP2 (k := 3) (a := l) (b := b) (on := on) (md := md) (d := 29) (by decide)
  have go : mEv none 30 (85, 0, lv_args 0 [.ref 20, .int l, .int b, .int on, .int md], []) M (fun r M' => ∃ x, r = some (.int x) ∧ yTy M' ∧ pwQ (hgP (g 12) P l b on md) P x g (xnpG g P 3 l b on md) (rdI M')) := by
    refine e_then (e_al1 hT (y := 85) (pc := 0) (q := (yX4_addHung, cX4_addHung, 5, (some .int), 4)) rfl (show aTab 85 0 = some (.aload_n 0, 1, 0, 0, 0, 0, 0, 0) from rfl) rfl rfl) ?_
    refine e_then (e_st hT (y := 85) (pc := 1) (q := (yX4_addHung, cX4_addHung, 5, (some .int), 4)) rfl (show aTab 85 1 = some (.iconst 2, 1, 0, 0, 0, 0, 0, 0) from rfl) (fr' := (85, 2, (lv_args 0 [.ref 20, .int l, .int b, .int on, .int md]), [.int 2, .ref 20])) (M' := M) rfl) ?_
    refine e_then (e_il1 hT (y := 85) (pc := 2) (q := (yX4_addHung, cX4_addHung, 5, (some .int), 4)) rfl (show aTab 85 2 = some (.iload_n 1, 1, 0, 0, 0, 0, 0, 0) from rfl) rfl rfl) ?_
    refine e_then (e_il1 hT (y := 85) (pc := 3) (q := (yX4_addHung, cX4_addHung, 5, (some .int), 4)) rfl (show aTab 85 3 = some (.iload_n 2, 1, 0, 0, 0, 0, 0, 0) from rfl) rfl rfl) ?_
    by_cases c1 : ftP (g 12) P 2 l b
    · rw [gB_t c1] at q1
      refine e_then (e_call hT (y := 85) (pc := 4) (q := (yX4_addHung, cX4_addHung, 5, (some .int), 4)) rfl (show aTab 85 4 = some (.invokevirtual 85, 3, 1, 83, 0, 3, 4, 4) from rfl) rfl ⟨by decide, Nat.le_of_ble_eq_true rfl⟩ (ob_at hM (rfl : tTy 11 = some (.inr (4, _)))).choose_spec (Nat.le_of_ble_eq_true rfl) (Nat.le_of_ble_eq_true rfl) ⟨by decide, by decide⟩ q1) ?_
      refine e_then (e_ifF hT (y := 85) (pc := 7) (q := (yX4_addHung, cX4_addHung, 5, (some .int), 4)) rfl (show aTab 85 7 = some (.ifCond .eq 21, 3, 0, 0, 0, 0, 0, 0) from rfl) rfl (t := 28) rfl (cdF (by show ¬ (_ = _); decide))) ?_
      refine e_then (e_al1 hT (y := 85) (pc := 10) (q := (yX4_addHung, cX4_addHung, 5, (some .int), 4)) rfl (show aTab 85 10 = some (.aload_n 0, 1, 0, 0, 0, 0, 0, 0) from rfl) rfl rfl) ?_
      refine e_then (e_il1 hT (y := 85) (pc := 11) (q := (yX4_addHung, cX4_addHung, 5, (some .int), 4)) rfl (show aTab 85 11 = some (.iload_n 3, 1, 0, 0, 0, 0, 0, 0) from rfl) rfl rfl) ?_
      by_cases c2 : chP (g 12) P on
      · rw [gB_t c2] at q3
        refine e_then (e_call hT (y := 85) (pc := 12) (q := (yX4_addHung, cX4_addHung, 5, (some .int), 4)) rfl (show aTab 85 12 = some (.invokevirtual 75, 3, 1, 78, 0, 1, 2, 4) from rfl) rfl ⟨by decide, Nat.le_of_ble_eq_true rfl⟩ (ob_at hM (rfl : tTy 11 = some (.inr (4, _)))).choose_spec (Nat.le_of_ble_eq_true rfl) (Nat.le_of_ble_eq_true rfl) ⟨by decide, by decide⟩ q3) ?_
        refine e_then (e_ifF hT (y := 85) (pc := 15) (q := (yX4_addHung, cX4_addHung, 5, (some .int), 4)) rfl (show aTab 85 15 = some (.ifCond .eq 13, 3, 0, 0, 0, 0, 0, 0) from rfl) rfl (t := 28) rfl (cdF (by show ¬ (_ = _); decide))) ?_
        refine e_then (e_il2 hT (y := 85) (pc := 18) (q := (yX4_addHung, cX4_addHung, 5, (some .int), 4)) rfl (show aTab 85 18 = some (.iload 4, 2, 0, 0, 0, 0, 0, 0) from rfl) rfl rfl) ?_
        refine e_then (e_st hT (y := 85) (pc := 20) (q := (yX4_addHung, cX4_addHung, 5, (some .int), 4)) rfl (show aTab 85 20 = some (.iconst 0, 1, 0, 0, 0, 0, 0, 0) from rfl) (fr' := (85, 21, (lv_args 0 [.ref 20, .int l, .int b, .int on, .int md]), [.int 0, .int md])) (M' := M) rfl) ?_
        refine e_then (e_st hT (y := 85) (pc := 21) (q := (yX4_addHung, cX4_addHung, 5, (some .int), 4)) rfl (show aTab 85 21 = some (.iconst 1, 1, 0, 0, 0, 0, 0, 0) from rfl) (fr' := (85, 22, (lv_args 0 [.ref 20, .int l, .int b, .int on, .int md]), [.int 1, .int 0, .int md])) (M' := M) rfl) ?_
        by_cases c3 : 0 ≤ md.toInt ∧ md.toInt ≤ 1
        · rw [gB_t c3] at q4
          refine e_then (e_callsN hT (y := 85) (pc := 22) (q := (yX4_addHung, cX4_addHung, 5, (some .int), 4)) rfl (show aTab 85 22 = some (.invokestatic 61, 3, 3, 234, 0, 3, 3, 11) from rfl) (Nat.le_of_ble_eq_true rfl) (Nat.le_of_ble_eq_true rfl) (Nat.le_of_ble_eq_true rfl) ⟨by decide, by decide⟩ q4) ?_
          refine e_then (e_ifT hT (y := 85) (pc := 25) (q := (yX4_addHung, cX4_addHung, 5, (some .int), 4)) rfl (show aTab 85 25 = some (.ifCond .ne 6, 3, 0, 0, 0, 0, 0, 0) from rfl) rfl (t := 31) rfl (cdT (by show ¬ _ = _; decide))) ?_
          refine e_then (e_al1 hT (y := 85) (pc := 31) (q := (yX4_addHung, cX4_addHung, 5, (some .int), 4)) rfl (show aTab 85 31 = some (.aload_n 0, 1, 0, 0, 0, 0, 0, 0) from rfl) rfl rfl) ?_
          refine e_then (e_st hT (y := 85) (pc := 32) (q := (yX4_addHung, cX4_addHung, 5, (some .int), 4)) rfl (show aTab 85 32 = some (.iconst 3, 1, 0, 0, 0, 0, 0, 0) from rfl) (fr' := (85, 33, (lv_args 0 [.ref 20, .int l, .int b, .int on, .int md]), [.int 3, .ref 20])) (M' := M) rfl) ?_
          refine e_then (e_il1 hT (y := 85) (pc := 33) (q := (yX4_addHung, cX4_addHung, 5, (some .int), 4)) rfl (show aTab 85 33 = some (.iload_n 1, 1, 0, 0, 0, 0, 0, 0) from rfl) rfl rfl) ?_
          refine e_then (e_il1 hT (y := 85) (pc := 34) (q := (yX4_addHung, cX4_addHung, 5, (some .int), 4)) rfl (show aTab 85 34 = some (.iload_n 2, 1, 0, 0, 0, 0, 0, 0) from rfl) rfl rfl) ?_
          refine e_then (e_il1 hT (y := 85) (pc := 35) (q := (yX4_addHung, cX4_addHung, 5, (some .int), 4)) rfl (show aTab 85 35 = some (.iload_n 3, 1, 0, 0, 0, 0, 0, 0) from rfl) rfl rfl) ?_
          refine e_then (e_il2 hT (y := 85) (pc := 36) (q := (yX4_addHung, cX4_addHung, 5, (some .int), 4)) rfl (show aTab 85 36 = some (.iload 4, 2, 0, 0, 0, 0, 0, 0) from rfl) rfl rfl) ?_
          refine e_then (e_call hT (y := 85) (pc := 38) (q := (yX4_addHung, cX4_addHung, 5, (some .int), 4)) rfl (show aTab 85 38 = some (.invokevirtual 89, 3, 1, 86, 0, 5, 8, 4) from rfl) rfl ⟨by decide, Nat.le_of_ble_eq_true rfl⟩ (ob_at hM (rfl : tTy 11 = some (.inr (4, _)))).choose_spec (Nat.le_of_ble_eq_true rfl) (Nat.le_of_ble_eq_true rfl) ⟨by decide, by decide⟩ q2) ?_
          exact e_fin (e_iret hT (y := 85) (pc := 41) (q := (yX4_addHung, cX4_addHung, 5, (some .int), 4)) rfl (show aTab 85 41 = some (.ireturn, 1, 0, 0, 0, 0, 0, 0) from rfl) ⟨rfl, rfl⟩) ⟨_, rfl, t2, Or.inr (f2.elim (fun z => Or.inl ⟨⟨k2.mp c1, c2, c3⟩, z⟩) (fun z => Or.inr ⟨⟨k2.mp c1, c2, c3⟩, z⟩))⟩
        · rw [gB_f c3] at q4
          refine e_then (e_callsN hT (y := 85) (pc := 22) (q := (yX4_addHung, cX4_addHung, 5, (some .int), 4)) rfl (show aTab 85 22 = some (.invokestatic 61, 3, 3, 234, 0, 3, 3, 11) from rfl) (Nat.le_of_ble_eq_true rfl) (Nat.le_of_ble_eq_true rfl) (Nat.le_of_ble_eq_true rfl) ⟨by decide, by decide⟩ q4) ?_
          refine e_then (e_ifF hT (y := 85) (pc := 25) (q := (yX4_addHung, cX4_addHung, 5, (some .int), 4)) rfl (show aTab 85 25 = some (.ifCond .ne 6, 3, 0, 0, 0, 0, 0, 0) from rfl) rfl (t := 31) rfl (cdF (by show ¬ (¬ _ = _); decide))) ?_
          refine e_then (e_st hT (y := 85) (pc := 28) (q := (yX4_addHung, cX4_addHung, 5, (some .int), 4)) rfl (show aTab 85 28 = some (.ldc 88, 2, 7, 0, (-1000000001), 0, 0, 0) from rfl) (fr' := (85, 30, (lv_args 0 [.ref 20, .int l, .int b, .int on, .int md]), [.int (-1000000001)])) (M' := M) rfl) ?_
          exact e_fin (e_iret hT (y := 85) (pc := 30) (q := (yX4_addHung, cX4_addHung, 5, (some .int), 4)) rfl (show aTab 85 30 = some (.ireturn, 1, 0, 0, 0, 0, 0, 0) from rfl) ⟨rfl, rfl⟩) ⟨_, rfl, hM, Or.inl ⟨(fun z => by first | exact c1 (k2.mpr z.1) | exact c2 z.2.1 | exact c3 z.2.2), rfl, hg⟩⟩
      · rw [gB_f c2] at q3
        refine e_then (e_call hT (y := 85) (pc := 12) (q := (yX4_addHung, cX4_addHung, 5, (some .int), 4)) rfl (show aTab 85 12 = some (.invokevirtual 75, 3, 1, 78, 0, 1, 2, 4) from rfl) rfl ⟨by decide, Nat.le_of_ble_eq_true rfl⟩ (ob_at hM (rfl : tTy 11 = some (.inr (4, _)))).choose_spec (Nat.le_of_ble_eq_true rfl) (Nat.le_of_ble_eq_true rfl) ⟨by decide, by decide⟩ q3) ?_
        refine e_then (e_ifT hT (y := 85) (pc := 15) (q := (yX4_addHung, cX4_addHung, 5, (some .int), 4)) rfl (show aTab 85 15 = some (.ifCond .eq 13, 3, 0, 0, 0, 0, 0, 0) from rfl) rfl (t := 28) rfl (cdT (by show _ = _; decide))) ?_
        refine e_then (e_st hT (y := 85) (pc := 28) (q := (yX4_addHung, cX4_addHung, 5, (some .int), 4)) rfl (show aTab 85 28 = some (.ldc 88, 2, 7, 0, (-1000000001), 0, 0, 0) from rfl) (fr' := (85, 30, (lv_args 0 [.ref 20, .int l, .int b, .int on, .int md]), [.int (-1000000001)])) (M' := M) rfl) ?_
        exact e_fin (e_iret hT (y := 85) (pc := 30) (q := (yX4_addHung, cX4_addHung, 5, (some .int), 4)) rfl (show aTab 85 30 = some (.ireturn, 1, 0, 0, 0, 0, 0, 0) from rfl) ⟨rfl, rfl⟩) ⟨_, rfl, hM, Or.inl ⟨(fun z => by first | exact c1 (k2.mpr z.1) | exact c2 z.2.1 | exact c3 z.2.2), rfl, hg⟩⟩
    · rw [gB_f c1] at q1
      refine e_then (e_call hT (y := 85) (pc := 4) (q := (yX4_addHung, cX4_addHung, 5, (some .int), 4)) rfl (show aTab 85 4 = some (.invokevirtual 85, 3, 1, 83, 0, 3, 4, 4) from rfl) rfl ⟨by decide, Nat.le_of_ble_eq_true rfl⟩ (ob_at hM (rfl : tTy 11 = some (.inr (4, _)))).choose_spec (Nat.le_of_ble_eq_true rfl) (Nat.le_of_ble_eq_true rfl) ⟨by decide, by decide⟩ q1) ?_
      refine e_then (e_ifT hT (y := 85) (pc := 7) (q := (yX4_addHung, cX4_addHung, 5, (some .int), 4)) rfl (show aTab 85 7 = some (.ifCond .eq 21, 3, 0, 0, 0, 0, 0, 0) from rfl) rfl (t := 28) rfl (cdT (by show _ = _; decide))) ?_
      refine e_then (e_st hT (y := 85) (pc := 28) (q := (yX4_addHung, cX4_addHung, 5, (some .int), 4)) rfl (show aTab 85 28 = some (.ldc 88, 2, 7, 0, (-1000000001), 0, 0, 0) from rfl) (fr' := (85, 30, (lv_args 0 [.ref 20, .int l, .int b, .int on, .int md]), [.int (-1000000001)])) (M' := M) rfl) ?_
      exact e_fin (e_iret hT (y := 85) (pc := 30) (q := (yX4_addHung, cX4_addHung, 5, (some .int), 4)) rfl (show aTab 85 30 = some (.ireturn, 1, 0, 0, 0, 0, 0, 0) from rfl) ⟨rfl, rfl⟩) ⟨_, rfl, hM, Or.inl ⟨(fun z => by first | exact c1 (k2.mpr z.1) | exact c2 z.2.1 | exact c3 z.2.2), rfl, hg⟩⟩
  obtain ⟨K6, r6, M6, q6, x, rfl, t6, f6⟩ := go
  have q6 := mRun_dm q6 (show 30 ≤ 39 by decide)
  refine e_then (e_al1 hT (y := 192) (pc := 0) (q := (yX11_hung, cX11_hung, 5, (some .int), 11)) rfl (show aTab 192 0 = some (.aload_n 0, 1, 0, 0, 0, 0, 0, 0) from rfl) rfl rfl) ?_
  refine e_then (e_getR hT (y := 192) (pc := 1) (q := (yX11_hung, cX11_hung, 5, (some .int), 11)) rfl (show aTab 192 1 = some (.getfield 12, 3, 0, 11, 0, 0, 0, 0) from rfl) rfl (by decide) (by decide) hM rfl rfl) ?_
  refine e_then (e_getR hT (y := 192) (pc := 4) (q := (yX11_hung, cX11_hung, 5, (some .int), 11)) rfl (show aTab 192 4 = some (.getfield 85, 3, 0, 1, 4, 0, 0, 0) from rfl) rfl (by decide) (by decide) hM rfl rfl) ?_
  refine e_then (e_il1 hT (y := 192) (pc := 7) (q := (yX11_hung, cX11_hung, 5, (some .int), 11)) rfl (show aTab 192 7 = some (.iload_n 1, 1, 0, 0, 0, 0, 0, 0) from rfl) rfl rfl) ?_
  refine e_then (e_il1 hT (y := 192) (pc := 8) (q := (yX11_hung, cX11_hung, 5, (some .int), 11)) rfl (show aTab 192 8 = some (.iload_n 2, 1, 0, 0, 0, 0, 0, 0) from rfl) rfl rfl) ?_
  refine e_then (e_il1 hT (y := 192) (pc := 9) (q := (yX11_hung, cX11_hung, 5, (some .int), 11)) rfl (show aTab 192 9 = some (.iload_n 3, 1, 0, 0, 0, 0, 0, 0) from rfl) rfl rfl) ?_
  refine e_then (e_il2 hT (y := 192) (pc := 10) (q := (yX11_hung, cX11_hung, 5, (some .int), 11)) rfl (show aTab 192 10 = some (.iload 4, 2, 0, 0, 0, 0, 0, 0) from rfl) rfl rfl) ?_
  refine e_then (e_call hT (y := 192) (pc := 12) (q := (yX11_hung, cX11_hung, 5, (some .int), 11)) rfl (show aTab 192 12 = some (.invokevirtual 93, 3, 1, 85, 0, 4, 5, 4) from rfl) rfl ⟨by decide, Nat.le_of_ble_eq_true rfl⟩ (ob_at hM (rfl : tTy 11 = some (.inr (4, _)))).choose_spec (Nat.le_of_ble_eq_true rfl) (Nat.le_of_ble_eq_true rfl) ⟨by decide, by decide⟩ q6) ?_
  exact e_fin (e_iret hT (y := 192) (pc := 15) (q := (yX11_hung, cX11_hung, 5, (some .int), 11)) rfl (show aTab 192 15 = some (.ireturn, 1, 0, 0, 0, 0, 0, 0) from rfl) ⟨rfl, rfl⟩) ⟨x, rfl, t6, f6⟩
