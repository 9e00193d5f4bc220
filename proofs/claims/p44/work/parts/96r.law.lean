/-! WHAT BOTH SIDES HOLD ALIKE: interpreters and speeches -/
def lwS : List (Nat × Nat × Nat) := [(40, 0, 0), (41, 0, 5), (42, 0, 7), (93, 0, 0), (94, 0, 5), (95, 0, 7), (0, 2, 2), (119, 3, 3), (120, 9, 9), (120, 3440, 3755), (121, 9, 9), (121, 3440, 3755)]
def lhRP (C : Nat → Nat → Int32) (S : Nat → Int32) : Prop := C 40 0 = S 9 ∧ (∀ i, i < 6 → ∀ a b, a < 7 → b < 7 → a ≠ b → (C 41 i &&& hBit a b = 0 ↔ S (3440 + 49 * i + 7 * a + b) = 0)) ∧ ∀ h, h < 8 → (C 42 h = 0 ∧ S (3740 + 2 * h) = -1) ∨ ∃ a b : Nat, a < 7 ∧ b < 7 ∧ a ≠ b ∧ C 42 h = hBit a b ∧ S (3740 + 2 * h) = Int32.ofNat a ∧ S (3740 + 2 * h + 1) = Int32.ofNat b
theorem lhRP_cg {C C' : Nat → Nat → Int32} {S S' : Nat → Int32} (h1 : C' 40 0 = C 40 0) (h2 : ∀ i, i < 6 → C' 41 i = C 41 i) (h3 : ∀ h, h < 8 → C' 42 h = C 42 h) (h4 : S' 9 = S 9) (h5 : ∀ k, 3440 ≤ k → k ≤ 3755 → S' k = S k) (h : lhRP C S) : lhRP C' S' := by
  obtain ⟨a1, a2, a3⟩ := h
  refine ⟨by rw [h1, h4]; exact a1, fun i hi a b ha hb hab => ?_, fun h hh => ?_⟩
  · rw [h2 i hi, h5 _ (by omega) (by omega)]
    exact a2 i hi a b ha hb hab
  · rw [h3 h hh, h5 _ (by omega) (by omega), h5 (3740 + 2 * h + 1) (by omega) (by omega)]
    exact a3 h hh
def lwR (M : mHe) : Prop := lhRP (rdI M) (rdI M 120) ∧ rdI M 0 2 = rdI M 119 3 ∧ (rdI M 0 2 ≠ 0 → lhRP (fun c k => rdI M (c + 53) k) (rdI M 121))
/-! frames by contracts -/
/-- a region written has nothing to do with a place looked at: cell, first, last -/
def hOff (W : List tG) (p : Nat × Nat × Nat) : Bool := W.all (fun g => !(Nat.beq g.1 p.1) || (List.range (p.2.2 + 1 - p.2.1)).all (fun i => !(ile g.2.1 (Int.ofNat (p.2.1 + i)) && (ile (Int.ofNat (p.2.1 + i)) g.2.2.1 && ieq (Int.ofNat (p.2.1 + i) % Int.ofNat g.2.2.2.1) g.2.2.2.2))))
theorem hOff_ok {W : List tG} {p : Nat × Nat × Nat} (h : hOff W p = true) {M M' : mHe} (hf : yFr W M M') {k : Nat} (h1 : p.2.1 ≤ k) (h2 : k ≤ p.2.2) : rdI M' p.1 k = rdI M p.1 k := rdI_fr hf (fun g hg hy => by
  obtain ⟨y1, y2, y3, y4⟩ := hy
  have h3 := List.all_eq_true.mp h g hg
  rw [Bool.or_eq_true] at h3
  rcases h3 with h3 | h3
  · rw [y1, Nat.beq_refl] at h3
    cases h3
  · have h4 := List.all_eq_true.mp h3 (k - p.2.1) (List.mem_range.mpr (by omega))
    rw [show p.2.1 + (k - p.2.1) = k by omega] at h4
    have a1 : ile g.2.1 (Int.ofNat k) = true := (ile_iff _ _).mpr y2
    have a2 : ile (Int.ofNat k) g.2.2.1 = true := (ile_iff _ _).mpr y3
    have a3 : ieq (Int.ofNat k % Int.ofNat g.2.2.2.1) g.2.2.2.2 = true := (ieq_iff _ _).mpr y4
    rw [a1, a2, a3] at h4
    cases h4)
/-- the places that lwR looks at stay -/
def hKeep (M M' : mHe) : Prop := ∀ p ∈ lwS, ∀ k, p.2.1 ≤ k → k ≤ p.2.2 → rdI M' p.1 k = rdI M p.1 k
theorem hKeep_tr {M M1 M2 : mHe} (a : hKeep M M1) (b : hKeep M1 M2) : hKeep M M2 := fun p hp k h1 h2 => (b p hp k h1 h2).trans (a p hp k h1 h2)
theorem hKeep_fr {W : List tG} (h : lwS.all (hOff W) = true) {M M' : mHe} (hf : yFr W M M') : hKeep M M' := fun p hp k h1 h2 => hOff_ok (List.all_eq_true.mp h p hp) hf h1 h2
theorem lwR_keep {M M' : mHe} (h : hKeep M M') (hR : lwR M) : lwR M' := by
  have k : ∀ p ∈ lwS, ∀ k, p.2.1 ≤ k → k ≤ p.2.2 → rdI M' p.1 k = rdI M p.1 k := h
  have e0 : rdI M' 0 2 = rdI M 0 2 := k (0, 2, 2) (by decide) 2 (Nat.le_refl _) (Nat.le_refl _)
  have e1 : rdI M' 119 3 = rdI M 119 3 := k (119, 3, 3) (by decide) 3 (Nat.le_refl _) (Nat.le_refl _)
  obtain ⟨r1, r2, r3⟩ := hR
  refine ⟨lhRP_cg (k (40, 0, 0) (by decide) 0 (Nat.le_refl _) (Nat.le_refl _)) (fun i hi => k (41, 0, 5) (by decide) i (Nat.zero_le _) (by show i ≤ 5; omega)) (fun i hi => k (42, 0, 7) (by decide) i (Nat.zero_le _) (by show i ≤ 7; omega)) (k (120, 9, 9) (by decide) 9 (Nat.le_refl _) (Nat.le_refl _)) (fun i h1 h2 => k (120, 3440, 3755) (by decide) i h1 h2) r1, by rw [e0, e1]; exact r2, fun hk => ?_⟩
  rw [e0] at hk
  exact lhRP_cg (k (93, 0, 0) (by decide) 0 (Nat.le_refl _) (Nat.le_refl _)) (fun i hi => k (94, 0, 5) (by decide) i (Nat.zero_le _) (by show i ≤ 5; omega)) (fun i hi => k (95, 0, 7) (by decide) i (Nat.zero_le _) (by show i ≤ 7; omega)) (k (121, 9, 9) (by decide) 9 (Nat.le_refl _) (Nat.le_refl _)) (fun i h1 h2 => k (121, 3440, 3755) (by decide) i h1 h2) (r3 hk)
/-! THE LAW BY HAND: what both sides hold alike (lwR) goes through every turn -/
/-! from the head to a case -/
section DISP
variable {sc : Option (Nat × (Nat → Int32))} {d y pc : Nat} {lv : List (Nat × Value)} {st : List Value} {M : mHe} {q : mMd}
theorem e_len0 {n : Nat} {f : Nat → Int32} {x : Nat × Nat × Nat × Int × Nat × Nat × Nat} (hT : aTabOk) (hq : mjM y = some q) (he : aTab y pc = some (.arraylength, x)) (h1 : x.1 = 1) : mTo (some (n, f)) d (y, pc, lv, .ref 0 :: st) M (y, pc + 1, lv, .int (Int32.ofNat n) :: st) M := by
  refine mTo_step ?_
  rw [(e_eq hT hq he).1]
  refine mOr_r (fun s hs => by have := mG1 hs; cases this) (mOr_r (fun s hs => by have := mG2 hs; cases this) (mOr_r (fun s hs => by have := mG3 hs; cases this) (mOr_r (fun s hs => by have := mG4 hs; cases this) (mOr_l ?_))))
  simp only [mOp5, h1, if_true, mGo]
theorem e_ald0 {n : Nat} {f : Nat → Int32} {i : Int32} {x : Nat × Nat × Nat × Int × Nat × Nat × Nat} (hT : aTabOk) (hq : mjM y = some q) (he : aTab y pc = some (.iaload, x)) (h1 : x.1 = 1) (hi : 0 ≤ i.toInt ∧ i.toInt < n) : mTo (some (n, f)) d (y, pc, lv, .int i :: .ref 0 :: st) M (y, pc + 1, lv, .int (f i.toInt.toNat) :: st) M := by
  refine mTo_step ?_
  rw [(e_eq hT hq he).1]
  have hno : ¬ (i < 0 ∨ n ≤ i.toNatClampNeg) := by
    intro z
    rcases z with z | z
    · rw [Int32.lt_iff_toInt_lt] at z
      have : (0 : Int32).toInt = 0 := rfl
      omega
    · have : i.toNatClampNeg = i.toInt.toNat := rfl
      omega
  refine mOr_r (fun s hs => by have := mG1 hs; cases this) (mOr_r (fun s hs => by have := mG2 hs; cases this) (mOr_r (fun s hs => by have := mG3 hs; cases this) (mOr_r (fun s hs => by have := mG4 hs; cases this) (mOr_l ?_))))
  simp only [mOp5, h1, if_true, if_neg hno, mGo]
  rfl
def lwSw : Array Int := #[215, 248, 281, 314, 347, 390, 413, 436, 459, 502, 555, 588, 621, 664, 707, 740, 773, 796, 819, 842, 865, 888, 911, 944, 987, 1010, 1033, 1066, 1089, 1122, 1145, 1158, 1201, 1244, 1277, 1340, 1373, 1406, 1439, 1452, 1495, 1538, 1561, 1594, 1647, 1690, 1713, 1756, 1769, 1782]
def lwT : List Nat := [248, 281, 314, 347, 380, 423, 446, 469, 492, 535, 588, 621, 654, 697, 740, 773, 806, 829, 852, 875, 898, 921, 944, 977, 1020, 1043, 1066, 1099, 1122, 1155, 1178, 1191, 1234, 1277, 1310, 1373, 1406, 1439, 1472, 1485, 1528, 1571, 1594, 1627, 1680, 1723, 1746, 1789, 1802, 1815, 1838]
theorem lwSw_ok : ∀ k : Nat, k < 50 → ∃ off t, lwSw[k]? = some off ∧ mTg 33 off = some t ∧ t ∈ lwT := by
  intro k hk
  have h : (List.range 50).all (fun k => match lwSw[k]? with
    | some off => (match mTg 33 off with
      | some t => lwT.any (fun j => Nat.beq j t)
      | none => false)
    | none => false) = true := by decide +kernel
  have h1 := List.all_eq_true.mp h k (List.mem_range.mpr hk)
  split at h1
  · next off ho =>
    split at h1
    · next t ht =>
      obtain ⟨j, j1, j2⟩ := List.any_eq_true.mp h1
      rw [Nat.eq_of_beq_eq_true j2] at j1
      exact ⟨off, t, ho, ht, j1⟩
    · cases h1
  · cases h1
theorem e_sw {a : Int32} (hT : aTabOk) (hq : mjM 365 = some q) : ∃ t ∈ lwT, mTo sc d (365, 33, lv, .int a :: st) M (365, t, lv, st) M := by
  have key : ∀ t, (if a.toInt < 0 ∨ 49 < a.toInt then mBr 365 33 1805 lv st M else (match lwSw[(a.toInt - 0).toNat]? with
      | some off => mBr 365 33 off lv st M
      | none => none)) = mGo 365 t lv st M → mTo sc d (365, 33, lv, .int a :: st) M (365, t, lv, st) M := by
    intro t ht
    refine mTo_step ?_
    rw [(e_eq hT hq (show aTab 365 33 = some (.tableswitch 1805 0 49 lwSw, 215, 0, 0, 0, 0, 0, 0) from rfl)).1]
    refine mOr_r (fun s hs => by have := mG1 hs; cases this) (mOr_r (fun s hs => by have := mG2 hs; cases this) (mOr_r (fun s hs => by have := mG3 hs; cases this) (mOr_l ?_)))
    show (if a.toInt < 0 ∨ 49 < a.toInt then _ else _) = _
    exact ht
  by_cases h : a.toInt < 0 ∨ 49 < a.toInt
  · exact ⟨1838, by decide, key _ (by rw [if_pos h]; rfl)⟩
  · obtain ⟨off, t, h1, h2, h3⟩ := lwSw_ok (a.toInt - 0).toNat (by omega)
    exact ⟨t, h3, key _ (by rw [if_neg h, h1]; simp only [mBr, h2])⟩
end DISP
def hSt (e : Int) (clv : List (Nat × Value)) (M : mHe) : Prop := mlg 0 clv = some (.ref 0) ∧ mlg 1 clv = some (.ref 9) ∧ mlg 2 clv = some (.ref 128) ∧ (∃ x : Int32, mlg 3 clv = some (.int x) ∧ x.toInt = e) ∧ (0 ≤ e ∧ e ≤ 384) ∧ yTy M ∧ lwR M
def hEnd (n : Nat) (f : Nat → Int32) (e : Int) (fr : mFr) (M : mHe) : Prop := (∃ N M', mRun (some (n, f)) N 150 fr M = some (some (.int 1), M') ∧ yTy M') ∨ ∃ clv' M', mTo (some (n, f)) 150 fr M (365, 18, clv', []) M' ∧ hSt (e + 6) clv' M'
def hStep (n : Nat) (f : Nat → Int32) (pc : Nat) : Prop := ∀ (e : Int) (clv : List (Nat × Value)) (M : mHe), hSt e clv M → e + 6 ≤ (n : Int) → hEnd n f e (365, pc, clv, []) M
theorem hEnd_to {n : Nat} {f : Nat → Int32} {e : Int} {fr fr' : mFr} {M M' : mHe} (a : mTo (some (n, f)) 150 fr M fr' M') (h : hEnd n f e fr' M') : hEnd n f e fr M := by
  rcases h with ⟨N, M2, h1, h2⟩ | ⟨clv', M2, h1, h2⟩
  · obtain ⟨N', h3⟩ := mTo_run a N _ h1
    exact Or.inl ⟨N', M2, h3, h2⟩
  · exact Or.inr ⟨clv', M2, mTo_tr a h1, h2⟩
theorem hq_law : mjM 365 = some (yL_law, cL_law, 4, (some .boolean), 13) := rfl
/-- a case's end -/
theorem hTail (hT : aTabOk) {n : Nat} {f : Nat → Int32} (hn : n ≤ 384) {e : Int} {clv : List (Nat × Value)} {M : mHe} (hst : hSt e clv M) (he : e + 6 ≤ (n : Int)) : hEnd n f e (365, 1838, clv, []) M := by
  obtain ⟨l0, l1, l2, ⟨x, l3, hx⟩, hb, hM, hR⟩ := hst
  have e6 : (Int32.ofInt 6).toInt = 6 := rfl
  have hx6 : (x + Int32.ofInt 6).toInt = e + 6 := by rw [i32_add (by omega) (by omega), e6, hx]
  have r1 := e_ii (sc := some (n, f)) (d := 150) (lv := clv) (st := []) (M := M) (k := 3) (v := 6) hT hq_law (show aTab 365 1838 = some (.iinc 3 6, 3, 0, 0, 0, 0, 0, 0) from rfl) ⟨rfl, by decide⟩ l3
  have r2 := e_st (sc := some (n, f)) (d := 150) (lv := mlp 3 (.int (x + Int32.ofInt 6)) clv) (st := []) (M := M) hT hq_law (show aTab 365 1841 = some (.goto (-1823), 3, 0, 0, 0, 0, 0, 0) from rfl) (fr' := (365, 18, mlp 3 (.int (x + Int32.ofInt 6)) clv, [])) (M' := M) rfl
  exact Or.inr ⟨_, M, mTo_tr r1 r2, mlg_r l0 (by decide), mlg_r l1 (by decide), mlg_r l2 (by decide), ⟨_, mlg_eq 3 _ _, hx6⟩, ⟨by omega, by omega⟩, hM, hR⟩
theorem hTurn (hT : aTabOk) {n : Nat} {f : Nat → Int32} (hn : n ≤ 384) (hS : ∀ pc ∈ lwT, hStep n f pc) {e : Int} {clv : List (Nat × Value)} {M : mHe} (hst : hSt e clv M) : hEnd n f e (365, 18, clv, []) M := by
  obtain ⟨l0, l1, l2, ⟨x, l3, hx⟩, hb, hM, hR⟩ := id hst
  have hq := hq_law
  have r1 := e_il1 (sc := some (n, f)) (d := 150) (lv := clv) (st := []) (M := M) (k := 3) hT hq (show aTab 365 18 = some (.iload_n 3, 1, 0, 0, 0, 0, 0, 0) from rfl) rfl l3
  have r2 := e_al1 (sc := some (n, f)) (d := 150) (lv := clv) (st := [.int x]) (M := M) (k := 0) hT hq (show aTab 365 19 = some (.aload_n 0, 1, 0, 0, 0, 0, 0, 0) from rfl) rfl l0
  have r3 := e_len0 (n := n) (f := f) (d := 150) (lv := clv) (st := [.int x]) (M := M) hT hq (show aTab 365 20 = some (.arraylength, 1, 0, 0, 0, 0, 0, 0) from rfl) rfl
  have r4 := e_st (sc := some (n, f)) (d := 150) (lv := clv) (st := [.int (Int32.ofNat n), .int x]) (M := M) hT hq (show aTab 365 21 = some (.bipush 6, 2, 0, 0, 0, 0, 0, 0) from rfl) (fr' := (365, 23, clv, [.int 6, .int (Int32.ofNat n), .int x])) (M' := M) rfl
  have r5 := e_st (sc := some (n, f)) (d := 150) (lv := clv) (st := [.int 6, .int (Int32.ofNat n), .int x]) (M := M) hT hq (show aTab 365 23 = some (.isub, 1, 0, 0, 0, 0, 0, 0) from rfl) (fr' := (365, 24, clv, [.int (Int32.ofNat n - 6), .int x])) (M' := M) rfl
  have hn6 : (Int32.ofNat n - 6).toInt = (n : Int) - 6 := by
    have h1 : (Int32.ofNat n).toInt = (n : Int) := Int32.toInt_ofNat_of_lt (by omega)
    have h2 : (6 : Int32).toInt = 6 := rfl
    rw [i32_sub (by rw [h1, h2]; omega) (by rw [h1, h2]; omega), h1, h2]
  have r05 := mTo_tr r1 (mTo_tr r2 (mTo_tr r3 (mTo_tr r4 r5)))
  by_cases hgt : (n : Int) - 6 < e
  · have r6 := e_icT (sc := some (n, f)) (d := 150) (lv := clv) (st := []) (M := M) (a := x) (b := Int32.ofNat n - 6) hT hq (show aTab 365 24 = some (.if_icmp .gt 1820, 3, 0, 0, 0, 0, 0, 0) from rfl) rfl (show mTg 24 1820 = some 1844 from rfl) (cdT (by show _ > _; rw [hn6, hx]; omega))
    have r7 := e_st (sc := some (n, f)) (d := 150) (lv := clv) (st := []) (M := M) hT hq (show aTab 365 1844 = some (.iconst 1, 1, 0, 0, 0, 0, 0, 0) from rfl) (fr' := (365, 1845, clv, [.int 1])) (M' := M) rfl
    have r8 := e_zret (sc := some (n, f)) (d := 150) (lv := clv) (M := M) (x := 1) hT hq (show aTab 365 1845 = some (.ireturn, 1, 0, 0, 0, 0, 0, 0) from rfl) ⟨rfl, rfl⟩ (Or.inr rfl)
    obtain ⟨N, h⟩ := (mTo_tr r05 (mTo_tr r6 r7)) _ _ r8
    exact Or.inl ⟨N, M, h, hM⟩
  · have r6 := e_icF (sc := some (n, f)) (d := 150) (lv := clv) (st := []) (M := M) (a := x) (b := Int32.ofNat n - 6) hT hq (show aTab 365 24 = some (.if_icmp .gt 1820, 3, 0, 0, 0, 0, 0, 0) from rfl) rfl (show mTg 24 1820 = some 1844 from rfl) (cdF (by show ¬ _ > _; rw [hn6, hx]; omega))
    have r7 := e_al1 (sc := some (n, f)) (d := 150) (lv := clv) (st := []) (M := M) (k := 0) hT hq (show aTab 365 27 = some (.aload_n 0, 1, 0, 0, 0, 0, 0, 0) from rfl) rfl l0
    have r8 := e_il1 (sc := some (n, f)) (d := 150) (lv := clv) (st := [.ref 0]) (M := M) (k := 3) hT hq (show aTab 365 28 = some (.iload_n 3, 1, 0, 0, 0, 0, 0, 0) from rfl) rfl l3
    have r9 := e_ald0 (n := n) (f := f) (d := 150) (lv := clv) (st := []) (M := M) (i := x) hT hq (show aTab 365 29 = some (.iaload, 1, 0, 0, 0, 0, 0, 0) from rfl) rfl (by omega)
    have r10 := e_st (sc := some (n, f)) (d := 150) (lv := clv) (st := [.int (f x.toInt.toNat)]) (M := M) hT hq (show aTab 365 30 = some (.bipush 63, 2, 0, 0, 0, 0, 0, 0) from rfl) (fr' := (365, 32, clv, [.int 63, .int (f x.toInt.toNat)])) (M' := M) rfl
    have r11 := e_st (sc := some (n, f)) (d := 150) (lv := clv) (st := [.int 63, .int (f x.toInt.toNat)]) (M := M) hT hq (show aTab 365 32 = some (.iand, 1, 0, 0, 0, 0, 0, 0) from rfl) (fr' := (365, 33, clv, [.int (f x.toInt.toNat &&& 63)])) (M' := M) rfl
    obtain ⟨t, t1, r12⟩ := e_sw (sc := some (n, f)) (d := 150) (lv := clv) (st := []) (M := M) (a := f x.toInt.toNat &&& 63) hT hq
    exact hEnd_to (mTo_tr r05 (mTo_tr r6 (mTo_tr r7 (mTo_tr r8 (mTo_tr r9 (mTo_tr r10 (mTo_tr r11 r12))))))) (hS t t1 e clv M hst (by omega))
theorem hLoop (hT : aTabOk) {n : Nat} {f : Nat → Int32} (hn : n ≤ 384) (hS : ∀ pc ∈ lwT, hStep n f pc) : ∀ (k : Nat) (e : Int) (clv : List (Nat × Value)) (M : mHe), hSt e clv M → 384 - e ≤ (k : Int) → ∃ N M', mRun (some (n, f)) N 150 (365, 18, clv, []) M = some (some (.int 1), M') ∧ yTy M' := by
  intro k
  induction k with
  | zero =>
    intro e clv M hst hk
    rcases hTurn hT hn hS hst with h | ⟨clv', M', g1, g2⟩
    · exact h
    · have h1 := hst.2.2.2.2.1
      have h2 := g2.2.2.2.2.1
      omega
  | succ k ih =>
    intro e clv M hst hk
    rcases hTurn hT hn hS hst with h | ⟨clv', M', g1, g2⟩
    · exact h
    · obtain ⟨N, M2, h3, h4⟩ := ih (e + 6) clv' M' g2 (by omega)
      obtain ⟨N', h5⟩ := mTo_run g1 N _ h3
      exact ⟨N', M2, h5, h4⟩
/-- two calls: both end, what is held alike is so behind them, and where they are compared the answers are one -/
def hBoth (yx ym na : Nat) (cmp : Bool) : Prop := ∀ (M : mHe), yTy M → lwR M → ∀ as : List Int32, as.length = na → ∃ K1 M1 K2 M2 r1 r2, mRun none K1 149 (yx, 0, lv_args 0 (.ref 9 :: as.map .int), []) M = some (some (.int r1), M1) ∧ yTy M1 ∧ mRun none K2 149 (ym, 0, lv_args 0 (.ref 128 :: as.map .int), []) M1 = some (some (.int r2), M2) ∧ yTy M2 ∧ lwR M2 ∧ (cmp = true → r1 = r2)
def hCtA (r na : Nat) (c : tCt) : Bool := decide (c.2.1 = (0, r, 0, 0) :: List.replicate na (1, 0, -2147483648, 2147483647)) && (c.2.2.1.isSome && (Nat.ble c.2.2.2.2.1 149 && c.2.2.2.2.2.2.isEmpty))
theorem hArgs : ∀ (as : List Int32), yArg (List.replicate as.length (1, 0, -2147483648, 2147483647)) (as.map Value.int) := by
  intro as
  induction as with
  | nil => trivial
  | cons a as ih => exact ⟨⟨a, rfl, i32_lo a, i32_hi a⟩, ih⟩
theorem hCt_run {c : tCt} (hc : tCtOk c) {r na : Nat} (h : hCtA r na c = true) {M : mHe} (hM : yTy M) {as : List Int32} (ha : as.length = na) : ∃ K M' x, mRun none K 149 (c.1, 0, lv_args 0 (.ref r :: as.map .int), []) M = some (some (.int x), M') ∧ yTy M' ∧ yFr c.2.2.2.1 M M' := by
  unfold hCtA at h
  rw [Bool.and_eq_true, Bool.and_eq_true, Bool.and_eq_true] at h
  obtain ⟨h1, h2, h3, h4⟩ := h
  obtain ⟨N, r', M', m1, m2, m3, m4, -⟩ := hc M (.ref r :: as.map .int) 149 hM (by rw [of_decide_eq_true h1, ← ha]; exact ⟨rfl, hArgs as⟩) (Nat.le_of_ble_eq_true h3) (fun p hp => by rw [List.isEmpty_iff.mp h4] at hp; cases hp)
  unfold yRes at m4
  split at m4
  · next e => rw [e] at h2; cases h2
  · obtain ⟨x, rfl, -, -⟩ := m4
    exact ⟨N, M', x, m1, m2, m3⟩
def hFrOk (na : Nat) (cx cm : tCt) : Bool := hCtA 9 na cx && (hCtA 128 na cm && (lwS.all (hOff cx.2.2.2.1) && lwS.all (hOff cm.2.2.2.1)))
theorem hFr {cx cm : tCt} {na : Nat} (h : hFrOk na cx cm = true) (h1 : tCtOk cx) (h2 : tCtOk cm) : hBoth cx.1 cm.1 na false := fun M hM hR as ha => by
  unfold hFrOk at h
  rw [Bool.and_eq_true, Bool.and_eq_true, Bool.and_eq_true] at h
  obtain ⟨a1, a2, a3, a4⟩ := h
  obtain ⟨K1, M1, r1, p1, t1, f1⟩ := hCt_run h1 a1 hM ha
  obtain ⟨K2, M2, r2, p2, t2, f2⟩ := hCt_run h2 a2 t1 ha
  exact ⟨K1, M1, K2, M2, r1, r2, p1, t1, p2, t2, lwR_keep (hKeep_tr (hKeep_fr a3 f1) (hKeep_fr a4 f2)) hR, fun z => by cases z⟩
