/-! HAND: what run does to who is in, at one member's number -/
def gF (p : tP) (v : aV) (lf : tLf_) : Bool := match tFind lf.2.1 p with
  | some w => aSame w v
  | none => false
theorem gF_ok {xs : tXs} {E : List Int} {lf : tLf_} {M : mHe} {p : tP} {v : aV} {k : Nat} (h : gF p v lf = true) (hH : yH xs E lf.2.1 M) (hk : yIx E p = some (k : Int)) : ∃ w, yRd xs M p.1 k = some w ∧ yV E v w := by
  unfold gF at h
  split at h
  · next w hw =>
    obtain ⟨k', k1, w', k2, k3⟩ := hH.2 _ (tFind_mem hw)
    have : k' = k := by
      have h1 : some (k' : Int) = some (k : Int) := k1.symm.trans hk
      exact Int.ofNat.inj (Option.some.inj h1)
    subst this
    rw [aSame_eq h] at k3
    exact ⟨w', k2, k3⟩
  · cases h
theorem gI_ok {xs : tXs} {E : List Int} {lf : tLf_} {M : mHe} {p : tP} {i k : Nat} {x : Int32} (h : gF p (4, i, 0, 0) lf = true) (hH : yH xs E lf.2.1 M) (hk : yIx E p = some (k : Int)) (he : E[i]? = some x.toInt) (hc : p.1 < 144) : ∀ ys : tXs, yRd ys M p.1 k = some (.int x) := fun ys => by
  obtain ⟨w, w1, w2⟩ := gF_ok h hH hk
  obtain ⟨y, rfl, -, e, e1, e2⟩ := yV_int rfl w2
  rw [he] at e1
  cases e1
  have : y = x := i32eq (by omega)
  rw [← this]
  exact (rd_any hc).trans w1
theorem yIx_1 {E : List Int} {c i j : Nat} (h : E[i]? = some (j : Int)) : yIx E (c, i, 0, 1) = some (j : Int) := by
  show (if (1 : Nat) = 0 then some (0 : Int) else (E[i]?).map (fun e => e * Int.ofNat 1 + 0)) = _
  rw [if_neg (by omega), h]
  simp
theorem yIx_5 {E : List Int} {c i j o : Nat} (h : E[i]? = some (j : Int)) : yIx E (c, i, Int.ofNat o, 5) = some ((j * 5 + o : Nat) : Int) := by
  show (if (5 : Nat) = 0 then some (Int.ofNat o) else (E[i]?).map (fun e => e * Int.ofNat 5 + Int.ofNat o)) = _
  rw [if_neg (by omega), h]
  simp
/-- numbers for a run -/
theorem go_E {E : List Int} {bs : List (Int × Int)} {ds : List (Nat × Nat × Int)} (hl : E.length = bs.length) (h : ∀ (i : Nat) (e l u : Int), E[i]? = some e → bs[i]? = some (l, u) → (-2147483648 ≤ e ∧ e ≤ 2147483647) ∧ l ≤ e ∧ e ≤ u) (hd : ∀ t ∈ ds, ∃ e1 e2 : Int, E[t.1]? = some e1 ∧ E[t.2.1]? = some e2 ∧ e1 - e2 ≤ t.2.2) : xE E (bs, ds) := by
  have h0 : xE E (bs, []) := xE_of_list hl (fun i l u e hb he => ⟨(h i e l u he hb).2, (h i e l u he hb).1⟩)
  exact ⟨h0.1, h0.2.1, h0.2.2.1, hd⟩
def fu : Int × Int := (-2147483648, 2147483647)
/-! the loop over the members -/
def lvK : tKt := (fun y pc => bif Nat.beq y 51 && Nat.beq pc 2 then some (.inr none) else none, [])
def lvH : tF := [((2, 0, 0, 0), (4, 2, 0, 0)), ((5, 3, 0, 1), (4, 5, 0, 0)), ((7, 3, 0, 1), (4, 6, 0, 0))]
def lvBs : List (Int × Int) := [fu, fu, (0, 20), (0, 19), (0, 20), fu, fu]
def lvRun (k : Nat) (ds : List (Nat × Nat × Int)) (chk : tLf_ → Bool) : Bool := tCk lvK 4000 90 [] (51, 3, [(0, kR 11), (1, (4, 0, 0, 0)), (2, (4, 1, 0, 0)), (3, (4, k, 0, 0))], [(4, k, 0, 0)]) lvH (lvBs, ds) chk
def lvAt (k : Nat) (lf : tLf_) : Bool := lAt 51 2 [] [(0, kR 11), (1, (4, 0, 0, 0)), (2, (4, 1, 0, 0)), (3, (4, k, 1, 0))] lf && (gF (2, 0, 0, 0) (4, 2, 0, 0) lf && gF (5, 3, 0, 1) (4, 5, 0, 0) lf)
def lvA (d : Nat × Nat × Int) : Bool := lvRun 4 [(4, 2, -1), d] (fun lf => lvAt 4 lf && gF (7, 3, 0, 1) (4, 6, 0, 0) lf)
/-- at the member: left, or as it was -/
def lvW (lf : tLf_) : Bool := (gF (7, 3, 0, 1) (kI 0) lf && (tImp lf.2.2 (4, 0, 0, 0) (4, 5, 0, 0) (-1) && tImp lf.2.2 (4, 5, 0, 0) (4, 1, 0, 0) 0)) || (gF (7, 3, 0, 1) (4, 6, 0, 0) lf && (tImp lf.2.2 (4, 5, 0, 0) (4, 0, 0, 0) 0 || tImp lf.2.2 (4, 1, 0, 0) (4, 5, 0, 0) (-1)))
def lvB : Bool := lvRun 3 [(3, 2, -1)] (fun lf => lvAt 3 lf && lvW lf)
def lvX : Bool := lvRun 2 [] (fun lf => lVoid lf && gF (7, 3, 0, 1) (4, 6, 0, 0) lf)
set_option maxRecDepth 100000 in
theorem lvA1 : lvA (4, 3, -1) = true := by decide +kernel
set_option maxRecDepth 100000 in
theorem lvA2 : lvA (3, 4, -1) = true := by decide +kernel
set_option maxRecDepth 100000 in
theorem lvB1 : lvB = true := by decide +kernel
set_option maxRecDepth 100000 in
theorem lvX1 : lvX = true := by decide +kernel
theorem lvb_loop (hT : aTabOk) {fr ti z t x : Int32} {j : Nat} (hz : 0 ≤ z.toInt ∧ z.toInt ≤ 20) (hj : j < 20) : ∀ (d : Nat) (k y : Int32) (lv : List (Nat × Value)) (M : mHe), k.toInt + (d : Int) = z.toInt → 0 ≤ k.toInt → yTy M → (∀ xs : tXs, yRd xs M 2 0 = some (.int z)) → (∀ xs : tXs, yRd xs M 5 j = some (.int t)) → (∀ xs : tXs, yRd xs M 7 j = some (.int y)) → y = (if k.toInt ≤ (j : Int) then x else goT fr ti t x) → mlg 0 lv = some (.ref 11) → mlg 1 lv = some (.int fr) → mlg 2 lv = some (.int ti) → mlg 3 lv = some (.int k) → mEv none 90 (51, 2, lv, []) M (fun r M' => r = none ∧ yTy M' ∧ ∀ xs : tXs, yRd xs M' 7 j = some (.int (if z.toInt ≤ (j : Int) then x else goT fr ti t x))) := by
  intro d
  induction d with
  | zero =>
    intro k y lv M hk hk0 hM hsz htr hin hy l0 l1 l2 l3
    have ek : k = z := i32eq (by omega)
    subst ek
    refine e_then (e_il1 hT (y := 51) (pc := 2) (q := (yX2_leaveBetween, cX2_leaveBetween, 4, none, 2)) rfl (show aTab 51 2 = some (.iload_n 3, 1, 0, 0, 0, 0, 0, 0) from rfl) rfl l3) ?_
    have hE : xE [fr.toInt, ti.toInt, k.toInt, (j : Int), k.toInt, t.toInt, y.toInt] (lvBs, []) := go_E rfl (fun i e l u he hb => by
      match i, he, hb with
      | 0, he, hb => cases he; cases hb; exact ⟨⟨i32_lo _, i32_hi _⟩, i32_lo _, i32_hi _⟩
      | 1, he, hb => cases he; cases hb; exact ⟨⟨i32_lo _, i32_hi _⟩, i32_lo _, i32_hi _⟩
      | 2, he, hb => cases he; cases hb; omega
      | 3, he, hb => cases he; cases hb; omega
      | 4, he, hb => cases he; cases hb; omega
      | 5, he, hb => cases he; cases hb; exact ⟨⟨i32_lo _, i32_hi _⟩, i32_lo _, i32_hi _⟩
      | 6, he, hb => cases he; cases hb; exact ⟨⟨i32_lo _, i32_hi _⟩, i32_lo _, i32_hi _⟩
      | i + 7, he, hb => simp at he) (fun t ht => by cases ht)
    obtain ⟨lf, f1, f2⟩ := tSegC (xs := x00) hT (fun ct hct => by cases hct) (show lvRun 2 [] (fun lf => lVoid lf && gF (7, 3, 0, 1) (4, 6, 0, 0) lf) = true from lvX1) hE (clv := lv) (yLv_cons l0 (yV_kR _ _) (yLv_cons l1 (yV_atom rfl) (yLv_cons l2 (yV_atom rfl) (yLv_cons l3 (yV_atom rfl) (yLv_nil _ _))))) (cst := [.int k]) ⟨yV_atom rfl, trivial⟩ (M := M) ⟨hM, fun q hq => by
      simp only [lvH, List.mem_cons, List.not_mem_nil, or_false] at hq
      rcases hq with rfl | rfl | rfl
      · exact ⟨0, rfl, _, hsz x00, yV_atom rfl⟩
      · exact ⟨j, yIx_1 rfl, _, htr x00, yV_atom rfl⟩
      · exact ⟨j, yIx_1 rfl, _, hin x00, yV_atom rfl⟩⟩
    rw [Bool.and_eq_true] at f1
    obtain ⟨X, N, M', p1, p2, p3, -⟩ := lVoid_ok f1.1 f2
    refine ⟨N, none, M', p2, rfl, p3.1, ?_⟩
    have := gI_ok (x := y) f1.2 p3 (yIx_app (yIx_1 rfl)) rfl (by decide)
    rw [hy] at this
    exact this
  | succ d ih =>
    intro k y lv M hk hk0 hM hsz htr hin hy l0 l1 l2 l3
    have h1 : (Int32.ofInt 1).toInt = 1 := rfl
    have k1 : (k + 1).toInt = k.toInt + 1 := by
      have : (1 : Int32).toInt = 1 := rfl
      rw [i32_add (by omega) (by omega), this]
    refine e_then (e_il1 hT (y := 51) (pc := 2) (q := (yX2_leaveBetween, cX2_leaveBetween, 4, none, 2)) rfl (show aTab 51 2 = some (.iload_n 3, 1, 0, 0, 0, 0, 0, 0) from rfl) rfl l3) ?_
    -- a turn
    have turn : ∀ (i : Nat) (ds : List (Nat × Nat × Int)) (chk : tLf_ → Bool), lvRun i ds (fun lf => lvAt i lf && chk lf) = true → ([fr.toInt, ti.toInt, z.toInt, (j : Int), k.toInt, t.toInt, y.toInt] : List Int)[i]? = some k.toInt → (∀ t' ∈ ds, ∃ e1 e2 : Int, ([fr.toInt, ti.toInt, z.toInt, (j : Int), k.toInt, t.toInt, y.toInt] : List Int)[t'.1]? = some e1 ∧ ([fr.toInt, ti.toInt, z.toInt, (j : Int), k.toInt, t.toInt, y.toInt] : List Int)[t'.2.1]? = some e2 ∧ e1 - e2 ≤ t'.2.2) → (∀ (lf : tLf_) (X : List Int) (M' : mHe), chk lf = true → xE ([fr.toInt, ti.toInt, z.toInt, (j : Int), k.toInt, t.toInt, y.toInt] ++ X) lf.2.2 → yH x00 ([fr.toInt, ti.toInt, z.toInt, (j : Int), k.toInt, t.toInt, y.toInt] ++ X) lf.2.1 M' → ∃ y' : Int32, (∀ xs : tXs, yRd xs M' 7 j = some (.int y')) ∧ y' = (if (k + 1).toInt ≤ (j : Int) then x else goT fr ti t x)) → mEv none 90 (51, 3, lv, [.int k]) M (fun r M' => r = none ∧ yTy M' ∧ ∀ xs : tXs, yRd xs M' 7 j = some (.int (if z.toInt ≤ (j : Int) then x else goT fr ti t x))) := by
      intro i ds chk hrun hi hds hend
      have hE : xE [fr.toInt, ti.toInt, z.toInt, (j : Int), k.toInt, t.toInt, y.toInt] (lvBs, ds) := go_E rfl (fun i e l u he hb => by
        match i, he, hb with
        | 0, he, hb => cases he; cases hb; exact ⟨⟨i32_lo _, i32_hi _⟩, i32_lo _, i32_hi _⟩
        | 1, he, hb => cases he; cases hb; exact ⟨⟨i32_lo _, i32_hi _⟩, i32_lo _, i32_hi _⟩
        | 2, he, hb => cases he; cases hb; omega
        | 3, he, hb => cases he; cases hb; omega
        | 4, he, hb => cases he; cases hb; omega
        | 5, he, hb => cases he; cases hb; exact ⟨⟨i32_lo _, i32_hi _⟩, i32_lo _, i32_hi _⟩
        | 6, he, hb => cases he; cases hb; exact ⟨⟨i32_lo _, i32_hi _⟩, i32_lo _, i32_hi _⟩
        | i + 7, he, hb => simp at he) hds
      obtain ⟨lf, f1, f2⟩ := tSegC (xs := x00) hT (fun ct hct => by cases hct) hrun hE (clv := lv) (yLv_cons l0 (yV_kR _ _) (yLv_cons l1 (yV_atom rfl) (yLv_cons l2 (yV_atom rfl) (yLv_cons l3 (yV_atom hi) (yLv_nil _ _))))) (cst := [.int k]) ⟨yV_atom hi, trivial⟩ (M := M) ⟨hM, fun q hq => by
        simp only [lvH, List.mem_cons, List.not_mem_nil, or_false] at hq
        rcases hq with rfl | rfl | rfl
        · exact ⟨0, rfl, _, hsz x00, yV_atom rfl⟩
        · exact ⟨j, yIx_1 rfl, _, htr x00, yV_atom rfl⟩
        · exact ⟨j, yIx_1 rfl, _, hin x00, yV_atom rfl⟩⟩
      unfold lvAt at f1
      rw [Bool.and_eq_true, Bool.and_eq_true, Bool.and_eq_true] at f1
      obtain ⟨⟨f3, f4, f5⟩, f6⟩ := f1
      obtain ⟨X, lv', st', M1, m1, m2, m3, m4, m5, m6, -⟩ := lAt_ok f3 f2
      have hst := yS_nil m3
      subst hst
      obtain ⟨fr', g1, e1⟩ := loc_i (k := 1) (i := 0) (a := 0) (e := fr.toInt) m4 (by simp) rfl
      obtain ⟨ti', g2, e2⟩ := loc_i (k := 2) (i := 1) (a := 0) (e := ti.toInt) m4 (by simp) rfl
      obtain ⟨k', g3, e3⟩ := loc_i (k := 3) (i := i) (a := 1) (e := k.toInt) m4 (by simp) hi
      have hfr : fr' = fr := i32eq (by omega)
      have hti : ti' = ti := i32eq (by omega)
      have hkk : k' = k + 1 := i32eq (by omega)
      subst hfr; subst hti; subst hkk
      obtain ⟨y', y1, y2⟩ := hend lf X M1 f6 m1 m6
      exact e_then m2 (ih (k + 1) y' lv' M1 (by omega) (by omega) m6.1 (gI_ok (x := z) f4 m6 rfl rfl (by decide)) (gI_ok (x := t) f5 m6 (yIx_app (yIx_1 rfl)) rfl (by decide)) y1 y2 (loc_r m4 (by simp)) g1 g2 g3)
    by_cases c1 : k.toInt < (j : Int)
    · refine turn 4 _ _ lvA1 rfl (fun t' ht' => ?_) (fun lf X M' hc hE hH => ⟨y, gI_ok (x := y) hc hH (yIx_app (yIx_1 rfl)) rfl (by decide), ?_⟩)
      · simp only [List.mem_cons, List.not_mem_nil, or_false] at ht'
        rcases ht' with rfl | rfl
        · exact ⟨_, _, rfl, rfl, by show k.toInt - z.toInt ≤ -1; omega⟩
        · exact ⟨_, _, rfl, rfl, by show k.toInt - (j : Int) ≤ -1; omega⟩
      · rw [hy, if_pos (by omega), if_pos (by omega)]
    by_cases c2 : (j : Int) < k.toInt
    · refine turn 4 _ _ lvA2 rfl (fun t' ht' => ?_) (fun lf X M' hc hE hH => ⟨y, gI_ok (x := y) hc hH (yIx_app (yIx_1 rfl)) rfl (by decide), ?_⟩)
      · simp only [List.mem_cons, List.not_mem_nil, or_false] at ht'
        rcases ht' with rfl | rfl
        · exact ⟨_, _, rfl, rfl, by show k.toInt - z.toInt ≤ -1; omega⟩
        · exact ⟨_, _, rfl, rfl, by show (j : Int) - k.toInt ≤ -1; omega⟩
      · rw [hy, if_neg (by omega), if_neg (by omega)]
    · have ejk : (j : Int) = k.toInt := by omega
      have hyx : y = x := by rw [hy, if_pos (by omega)]
      refine turn 3 _ _ lvB1 (by rw [← ejk]; rfl) (fun t' ht' => ?_) (fun lf X M' hc hE hH => ?_)
      · simp only [List.mem_cons, List.not_mem_nil, or_false] at ht'
        subst ht'
        exact ⟨_, _, rfl, rfl, by show (j : Int) - z.toInt ≤ -1; omega⟩
      · rw [if_neg (by omega)]
        have n0 : yN ([fr.toInt, ti.toInt, z.toInt, (j : Int), k.toInt, t.toInt, y.toInt] ++ X) (4, 0, 0, 0) fr.toInt := ⟨fr.toInt, rfl, by omega⟩
        have n1 : yN ([fr.toInt, ti.toInt, z.toInt, (j : Int), k.toInt, t.toInt, y.toInt] ++ X) (4, 1, 0, 0) ti.toInt := ⟨ti.toInt, rfl, by omega⟩
        have n5 : yN ([fr.toInt, ti.toInt, z.toInt, (j : Int), k.toInt, t.toInt, y.toInt] ++ X) (4, 5, 0, 0) t.toInt := ⟨t.toInt, rfl, by omega⟩
        unfold lvW at hc
        rw [Bool.or_eq_true, Bool.and_eq_true, Bool.and_eq_true, Bool.and_eq_true, Bool.or_eq_true] at hc
        rcases hc with ⟨h1, h2, h3⟩ | ⟨h1, h2⟩
        · have i1 := tImp_ok hE n0 n5 h2
          have i2 := tImp_ok hE n5 n1 h3
          refine ⟨0, fun xs => ?_, by unfold goT; rw [if_pos ⟨by omega, by omega⟩]⟩
          obtain ⟨w, w1, w2⟩ := gF_ok h1 hH (yIx_app (yIx_1 (j := j) rfl))
          obtain ⟨x0, rfl, w3⟩ := yV_int rfl w2
          have hx0 : x0 = 0 := i32eq (by have h := w3.2; exact Int.le_antisymm h.2 h.1)
          rw [← hx0]
          exact (rd_any (by decide)).trans w1
        · refine ⟨y, gI_ok (x := y) h1 hH (yIx_app (yIx_1 rfl)) rfl (by decide), ?_⟩
          unfold goT
          rw [hyx, if_neg]
          rintro ⟨g1, g2⟩
          rcases h2 with h2 | h2
          · have := tImp_ok hE n5 n0 h2
            omega
          · have := tImp_ok hE n1 n5 h2
            omega
theorem leave_run (hT : aTabOk) {fr ti z t x : Int32} {j : Nat} (hz : 0 ≤ z.toInt ∧ z.toInt ≤ 20) (hj : j < 20) {M : mHe} (hM : yTy M) (hsz : ∀ xs : tXs, yRd xs M 2 0 = some (.int z)) (htr : ∀ xs : tXs, yRd xs M 5 j = some (.int t)) (hin : ∀ xs : tXs, yRd xs M 7 j = some (.int x)) : mEv none 90 (51, 0, lv_args 0 [.ref 11, .int fr, .int ti], []) M (fun r M' => r = none ∧ yTy M' ∧ ∀ xs : tXs, yRd xs M' 7 j = some (.int (if z.toInt ≤ (j : Int) then x else goT fr ti t x))) := by
  have h0 : (0 : Int32).toInt = 0 := rfl
  refine e_then (e_st hT (y := 51) (pc := 0) (q := (yX2_leaveBetween, cX2_leaveBetween, 4, none, 2)) rfl (show aTab 51 0 = some (.iconst 0, 1, 0, 0, 0, 0, 0, 0) from rfl) (fr' := (51, 1, (lv_args 0 [.ref 11, .int fr, .int ti]), [.int 0])) (M' := M) rfl) ?_
  refine e_then (e_is1 hT (y := 51) (pc := 1) (q := (yX2_leaveBetween, cX2_leaveBetween, 4, none, 2)) rfl (show aTab 51 1 = some (.istore_n 3, 1, 0, 0, 0, 0, 0, 0) from rfl) ⟨rfl, by decide⟩) ?_
  exact lvb_loop hT hz hj z.toInt.toNat 0 x _ M (by omega) (by omega) hM hsz htr hin (by rw [if_pos (by omega)]) (mlg_r rfl (by decide)) (mlg_i rfl (by decide)) (mlg_i rfl (by decide)) (mlg_eq 3 _ _)
def gnK : tKt := (fun y pc => bif Nat.beq y 15 && Nat.beq pc 76 then some (.inr none) else tPt_ y pc, [])
def gnT : Bool := tCk gnK 20000 100 [] (15, 44, [(0, kR 10), (1, (4, 1, 0, 0)), (2, (4, 0, 0, 0))], []) [((1, 0, 0, 0), (4, 2, 0, 0)), ((2, 0, 0, 0), (4, 3, 0, 0)), ((5, 4, 0, 1), (4, 5, 0, 0)), ((7, 4, 0, 1), (4, 6, 0, 0))] ([(0, 9999), (1, 240), (1, 9999), (0, 20), (0, 19), fu, fu], []) (fun lf => lAt 15 76 [] [(0, kR 10), (2, (4, 0, 0, 0))] lf && (gF (1, 0, 0, 0) (4, 2, 0, 0) lf && (gF (2, 0, 0, 0) (4, 3, 0, 0) lf && (gF (5, 4, 0, 1) (4, 5, 0, 0) lf && gF (7, 4, 0, 1) (4, 6, 0, 0) lf))))
set_option maxRecDepth 100000 in
theorem gnT_ok : gnT = true := by decide +kernel
theorem yIx_0 {E : List Int} {c k : Nat} : yIx E (c, 0, Int.ofNat k, 0) = some (k : Int) := rfl
theorem goV_bad {j : Nat} {m a z t x : Int32} (h : ¬ (1 ≤ a.toInt ∧ a.toInt ≤ 240)) : goV j m a z t x = x := by unfold goV; rw [if_neg (fun g => h g.1)]
theorem goV_full {j : Nat} {m a z t x : Int32} (h : ¬ m.toInt + a.toInt ≤ 9999) : goV j m a z t x = x := by unfold goV; rw [if_neg (fun g => h g.2.1)]
theorem goV_go {j : Nat} {m a z t x : Int32} (h : 1 ≤ a.toInt ∧ a.toInt ≤ 240) (h2 : m.toInt + a.toInt ≤ 9999) : goV j m a z t x = if z.toInt ≤ (j : Int) then x else goT m (m + a) t x := by
  unfold goV
  by_cases hz : z.toInt ≤ (j : Int)
  · rw [if_pos hz, if_neg (fun g => by omega)]
  · rw [if_neg hz, if_pos ⟨h, h2, by omega⟩]
theorem goOn_go (hT : aTabOk) {M : mHe} (hM : yTy M) {m a z t x : Int32} {j : Nat} (hm0 : 0 ≤ m.toInt ∧ m.toInt ≤ 9999) (hz : 0 ≤ z.toInt ∧ z.toInt ≤ 20) (hj : j < 20) (hm : ∀ xs : tXs, yRd xs M 1 0 = some (.int m)) (hsz : ∀ xs : tXs, yRd xs M 2 0 = some (.int z)) (htr : ∀ xs : tXs, yRd xs M 5 j = some (.int t)) (hin : ∀ xs : tXs, yRd xs M 7 j = some (.int x)) : mEv none 100 (15, 0, lv_args 0 [.ref 10, .int a], []) M (fun r M' => (∃ r0, r = some (.int r0)) ∧ ∀ xs : tXs, yRd xs M' 7 j = some (.int (goV j m a z t x))) := by
  by_cases ha : 1 ≤ a.toInt ∧ a.toInt ≤ 240
  · obtain ⟨lv, M1, m1, l0, l1, t1, f1⟩ := mn_go hT mnB_1 hM ha
    obtain ⟨fs, hfs, hty⟩ := yTy_obj t1 (rfl : tTy 1 = some (.inr (1, _)))
    have h1m : ∀ xs, yRd xs M1 1 0 = some (.int m) := fun xs => (yFr_nil f1 1 0).trans (hm xs)
    have hf0 : fs[0]? = some (.int m) := by
      have := h1m x00
      rw [yRd_obj _ (by decide) hfs] at this
      exact this
    have hsum : (m + a).toInt = m.toInt + a.toInt := i32_add (by omega) (by omega)
    refine e_then m1 ?_
    have e99 : (9999 : Int32).toInt = 9999 := rfl
    refine e_then (e_al1 hT (y := 15) (pc := 14) (q := (yX1_goOn, cX1_goOn, 3, (some .int), 1)) rfl (show aTab 15 14 = some (.aload_n 0, 1, 0, 0, 0, 0, 0, 0) from rfl) rfl l0) ?_
    refine e_then (e_getf hT (y := 15) (pc := 15) (q := (yX1_goOn, cX1_goOn, 3, (some .int), 1)) rfl (show aTab 15 15 = some (.getfield 76, 3, 0, 1, 0, 0, 0, 0) from rfl) rfl (by decide) (by decide) hfs hf0) ?_
    refine e_then (e_il1 hT (y := 15) (pc := 18) (q := (yX1_goOn, cX1_goOn, 3, (some .int), 1)) rfl (show aTab 15 18 = some (.iload_n 1, 1, 0, 0, 0, 0, 0, 0) from rfl) rfl l1) ?_
    refine e_then (e_st hT (y := 15) (pc := 19) (q := (yX1_goOn, cX1_goOn, 3, (some .int), 1)) rfl (show aTab 15 19 = some (.iadd, 1, 0, 0, 0, 0, 0, 0) from rfl) (fr' := (15, 20, lv, [.int (m + a)])) (M' := M1) rfl) ?_
    refine e_then (e_st hT (y := 15) (pc := 20) (q := (yX1_goOn, cX1_goOn, 3, (some .int), 1)) rfl (show aTab 15 20 = some (.sipush 9999, 3, 0, 0, 0, 0, 0, 0) from rfl) (fr' := (15, 23, lv, [.int 9999, .int (m + a)])) (M' := M1) rfl) ?_
    by_cases hs : m.toInt + a.toInt ≤ 9999
    · refine e_then (e_icT hT (y := 15) (pc := 23) (q := (yX1_goOn, cX1_goOn, 3, (some .int), 1)) rfl (show aTab 15 23 = some (.if_icmp .le 6, 3, 0, 0, 0, 0, 0, 0) from rfl) rfl (t := 29) rfl (cdT (by show _ ≤ _; rw [hsum, e99]; exact hs))) ?_
      refine e_then (e_al1 hT (y := 15) (pc := 29) (q := (yX1_goOn, cX1_goOn, 3, (some .int), 1)) rfl (show aTab 15 29 = some (.aload_n 0, 1, 0, 0, 0, 0, 0, 0) from rfl) rfl l0) ?_
      refine e_then (e_getf hT (y := 15) (pc := 30) (q := (yX1_goOn, cX1_goOn, 3, (some .int), 1)) rfl (show aTab 15 30 = some (.getfield 76, 3, 0, 1, 0, 0, 0, 0) from rfl) rfl (by decide) (by decide) hfs hf0) ?_
      refine e_then (e_is1 hT (y := 15) (pc := 33) (q := (yX1_goOn, cX1_goOn, 3, (some .int), 1)) rfl (show aTab 15 33 = some (.istore_n 2, 1, 0, 0, 0, 0, 0, 0) from rfl) ⟨rfl, by decide⟩) ?_
      refine e_then (e_al1 hT (y := 15) (pc := 34) (q := (yX1_goOn, cX1_goOn, 3, (some .int), 1)) rfl (show aTab 15 34 = some (.aload_n 0, 1, 0, 0, 0, 0, 0, 0) from rfl) rfl (mlg_r l0 (by decide))) ?_
      refine e_then (e_st hT (y := 15) (pc := 35) (q := (yX1_goOn, cX1_goOn, 3, (some .int), 1)) rfl (show aTab 15 35 = some (.dup, 1, 0, 0, 0, 0, 0, 0) from rfl) (fr' := (15, 36, (mlp 2 (.int m) lv), [.ref 10, .ref 10])) (M' := M1) rfl) ?_
      refine e_then (e_getf hT (y := 15) (pc := 36) (q := (yX1_goOn, cX1_goOn, 3, (some .int), 1)) rfl (show aTab 15 36 = some (.getfield 76, 3, 0, 1, 0, 0, 0, 0) from rfl) rfl (by decide) (by decide) hfs hf0) ?_
      refine e_then (e_il1 hT (y := 15) (pc := 39) (q := (yX1_goOn, cX1_goOn, 3, (some .int), 1)) rfl (show aTab 15 39 = some (.iload_n 1, 1, 0, 0, 0, 0, 0, 0) from rfl) rfl (mlg_i l1 (by decide))) ?_
      refine e_then (e_st hT (y := 15) (pc := 40) (q := (yX1_goOn, cX1_goOn, 3, (some .int), 1)) rfl (show aTab 15 40 = some (.iadd, 1, 0, 0, 0, 0, 0, 0) from rfl) (fr' := (15, 41, (mlp 2 (.int m) lv), [.int (m + a), .ref 10])) (M' := M1) rfl) ?_
      have hkl : 0 < fs.length := (List.getElem?_eq_some_iff.mp hf0).1
      obtain ⟨Ms, hMs⟩ : ∃ Ms : mHe, Ms = M1.set 1 (.inr (1, fs.set 0 (.int (m + a)))) := ⟨_, rfl⟩
      have t2 : yTy Ms := by
        rw [hMs]
        exact yTy_setO t1 (rfl : tTy 1 = some (.inr (1, _))) ⟨by rw [List.length_set]; exact hty.1, fun j ft hj => by
          by_cases ej : j = 0
          · subst ej
            cases hj
            exact ⟨_, List.getElem?_set_self hkl, m + a, rfl, i32_lo _, i32_hi _⟩
          · obtain ⟨v, v1, v2⟩ := hty.2 j ft hj
            exact ⟨v, by rw [List.getElem?_set_ne (fun z => ej z.symm)]; exact v1, v2⟩⟩
      have hlt := (List.getElem?_eq_some_iff.mp hfs).1
      have r2 : ∀ xs, yRd xs Ms 1 0 = some (.int (m + a)) := fun xs => by
        rw [hMs, yRd_obj _ (by decide) (List.getElem?_set_self hlt), List.getElem?_set_self hkl]
      have f2 : ∀ (xs : tXs) (c k : Nat), c ≠ 1 → yRd xs Ms c k = yRd xs M c k := fun xs c k hc => by
        rw [hMs]
        exact (yRd_ne hc).trans (yFr_nil f1 c k)
      refine e_then (e_putf hT (y := 15) (pc := 41) (q := (yX1_goOn, cX1_goOn, 3, (some .int), 1)) rfl (show aTab 15 41 = some (.putfield 76, 3, 0, 1, 0, 0, 0, 0) from rfl) rfl rfl ⟨by decide, rfl, rfl⟩ (by decide) hfs hkl) ?_
      show mEv none 100 (15, 44, (mlp 2 (.int m) lv), []) (M1.set 1 (.inr (1, fs.set 0 (.int (m + a))))) _
      rw [← hMs]
      have hE : xE [m.toInt, a.toInt, (m + a).toInt, z.toInt, (j : Int), t.toInt, x.toInt] ([(0, 9999), (1, 240), (1, 9999), (0, 20), (0, 19), fu, fu], []) := go_E rfl (fun i e l u he hb => by
        match i, he, hb with
        | 0, he, hb => cases he; cases hb; omega
        | 1, he, hb => cases he; cases hb; omega
        | 2, he, hb => cases he; cases hb; omega
        | 3, he, hb => cases he; cases hb; omega
        | 4, he, hb => cases he; cases hb; omega
        | 5, he, hb => cases he; cases hb; exact ⟨⟨i32_lo _, i32_hi _⟩, i32_lo _, i32_hi _⟩
        | 6, he, hb => cases he; cases hb; exact ⟨⟨i32_lo _, i32_hi _⟩, i32_lo _, i32_hi _⟩
        | i + 7, he, hb => simp at he) (fun t ht => by cases ht)
      obtain ⟨lf, g1, g2⟩ := tSegC (xs := x00) hT (fun ct hct => by cases hct) gnT_ok hE (clv := (mlp 2 (.int m) lv)) (yLv_cons (mlg_r l0 (by decide)) (yV_kR _ _) (yLv_cons (mlg_i l1 (by decide)) (yV_atom rfl) (yLv_cons (mlg_eq 2 _ _) (yV_atom rfl) (yLv_nil _ _)))) (cst := []) (show yS _ [] [] from trivial) (M := Ms) ⟨t2, fun q hq => by
        simp only [List.mem_cons, List.not_mem_nil, or_false] at hq
        rcases hq with rfl | rfl | rfl | rfl
        · exact ⟨0, rfl, _, r2 x00, yV_atom rfl⟩
        · exact ⟨0, rfl, _, (f2 x00 2 0 (by decide)).trans (hsz x00), yV_atom rfl⟩
        · exact ⟨j, yIx_1 rfl, _, (f2 x00 5 j (by decide)).trans (htr x00), yV_atom rfl⟩
        · exact ⟨j, yIx_1 rfl, _, (f2 x00 7 j (by decide)).trans (hin x00), yV_atom rfl⟩⟩
      rw [Bool.and_eq_true, Bool.and_eq_true, Bool.and_eq_true, Bool.and_eq_true] at g1
      obtain ⟨c0, c1, c2, c3, c4⟩ := g1
      obtain ⟨X, lv', st', M2, p1, p2, p3, p4, -, p6, -⟩ := lAt_ok c0 g2
      have hst := yS_nil p3
      subst hst
      have d1 := gI_ok (x := m + a) (k := 0) c1 p6 (yIx_app yIx_0) rfl (by decide)
      have d2 := gI_ok (x := z) (k := 0) c2 p6 (yIx_app yIx_0) rfl (by decide)
      have d3 := gI_ok (x := t) (k := j) c3 p6 (yIx_app (yIx_1 rfl)) rfl (by decide)
      have d4 := gI_ok (x := x) (k := j) c4 p6 (yIx_app (yIx_1 rfl)) rfl (by decide)
      obtain ⟨m', n2, e2⟩ := loc_i (k := 2) (i := 0) (a := 0) (e := m.toInt) p4 (by simp) rfl
      have hmm : m' = m := i32eq (by omega)
      subst hmm
      have n0 := loc_r (k := 0) (r := 10) p4 (by simp)
      refine e_then p2 ?_
      obtain ⟨N5, r5, M5, q1, rfl, q2, q3⟩ := leave_run hT (fr := m') (ti := m' + a) hz hj p6.1 d2 d3 d4
      obtain ⟨fs2, hfs2, -⟩ := yTy_obj p6.1 (rfl : tTy 1 = some (.inr (1, _)))
      obtain ⟨fs3, hfs3, -⟩ := yTy_obj p6.1 (rfl : tTy 2 = some (.inr (2, _)))
      have hf2 : fs2[0]? = some (.int (m' + a)) := by
        have := d1 x00
        rw [yRd_obj _ (by decide) hfs2] at this
        exact this
      obtain ⟨fs5, hfs5, hty5⟩ := yTy_obj q2 (rfl : tTy 1 = some (.inr (1, _)))
      obtain ⟨v5, hv5, x5, rfl, -, -⟩ := hty5.2 0 _ rfl
      have q1 := mRun_dm q1 (show 90 ≤ 99 by decide)
      refine e_then (e_al1 hT (y := 15) (pc := 76) (q := (yX1_goOn, cX1_goOn, 3, (some .int), 1)) rfl (show aTab 15 76 = some (.aload_n 0, 1, 0, 0, 0, 0, 0, 0) from rfl) rfl n0) ?_
      refine e_then (e_getR hT (y := 15) (pc := 77) (q := (yX1_goOn, cX1_goOn, 3, (some .int), 1)) rfl (show aTab 15 77 = some (.getfield 12, 3, 0, 1, 3, 0, 0, 0) from rfl) rfl (by decide) (by decide) p6.1 rfl rfl) ?_
      refine e_then (e_il1 hT (y := 15) (pc := 80) (q := (yX1_goOn, cX1_goOn, 3, (some .int), 1)) rfl (show aTab 15 80 = some (.iload_n 2, 1, 0, 0, 0, 0, 0, 0) from rfl) rfl n2) ?_
      refine e_then (e_al1 hT (y := 15) (pc := 81) (q := (yX1_goOn, cX1_goOn, 3, (some .int), 1)) rfl (show aTab 15 81 = some (.aload_n 0, 1, 0, 0, 0, 0, 0, 0) from rfl) rfl n0) ?_
      refine e_then (e_getf hT (y := 15) (pc := 82) (q := (yX1_goOn, cX1_goOn, 3, (some .int), 1)) rfl (show aTab 15 82 = some (.getfield 76, 3, 0, 1, 0, 0, 0, 0) from rfl) rfl (by decide) (by decide) hfs2 hf2) ?_
      refine e_then (e_call hT (y := 15) (pc := 85) (q := (yX1_goOn, cX1_goOn, 3, (some .int), 1)) rfl (show aTab 15 85 = some (.invokevirtual 126, 3, 1, 51, 0, 2, 4, 2) from rfl) rfl ⟨by decide, Nat.le_of_ble_eq_true rfl⟩ hfs3 (Nat.le_of_ble_eq_true rfl) (Nat.le_of_ble_eq_true rfl) ⟨by decide, by decide⟩ q1) ?_
      refine e_then (e_al1 hT (y := 15) (pc := 88) (q := (yX1_goOn, cX1_goOn, 3, (some .int), 1)) rfl (show aTab 15 88 = some (.aload_n 0, 1, 0, 0, 0, 0, 0, 0) from rfl) rfl n0) ?_
      refine e_then (e_getf hT (y := 15) (pc := 89) (q := (yX1_goOn, cX1_goOn, 3, (some .int), 1)) rfl (show aTab 15 89 = some (.getfield 76, 3, 0, 1, 0, 0, 0, 0) from rfl) rfl (by decide) (by decide) hfs5 hv5) ?_
      rw [goV_go ha hs]
      exact e_fin (e_iret hT (y := 15) (pc := 92) (q := (yX1_goOn, cX1_goOn, 3, (some .int), 1)) rfl (show aTab 15 92 = some (.ireturn, 1, 0, 0, 0, 0, 0, 0) from rfl) ⟨rfl, rfl⟩) ⟨⟨_, rfl⟩, q3⟩
    · refine e_then (e_icF hT (y := 15) (pc := 23) (q := (yX1_goOn, cX1_goOn, 3, (some .int), 1)) rfl (show aTab 15 23 = some (.if_icmp .le 6, 3, 0, 0, 0, 0, 0, 0) from rfl) rfl (t := 29) rfl (cdF (by show ¬ _ ≤ _; rw [hsum, e99]; exact hs))) ?_
      refine e_then (e_st hT (y := 15) (pc := 26) (q := (yX1_goOn, cX1_goOn, 3, (some .int), 1)) rfl (show aTab 15 26 = some (.ldc 121, 2, 7, 0, (-1000000003), 0, 0, 0) from rfl) (fr' := (15, 28, lv, [.int (-1000000003)])) (M' := M1) rfl) ?_
      rw [goV_full hs]
      exact e_fin (e_iret hT (y := 15) (pc := 28) (q := (yX1_goOn, cX1_goOn, 3, (some .int), 1)) rfl (show aTab 15 28 = some (.ireturn, 1, 0, 0, 0, 0, 0, 0) from rfl) ⟨rfl, rfl⟩) ⟨⟨_, rfl⟩, fun xs => (yFr_nil f1 7 j).trans (hin xs)⟩
  · have hb : a.toInt ≤ 0 ∨ 241 ≤ a.toInt := by omega
    rw [goV_bad ha]
    rcases hb with hb | hb
    · obtain ⟨N, M1, m1, t1, f1⟩ := mn_bad hT mnA_1 hM (a := a) ⟨i32_lo _, hb⟩
      exact ⟨N, _, M1, m1, ⟨_, rfl⟩, fun xs => (yFr_nil f1 7 j).trans (hin xs)⟩
    · obtain ⟨N, M1, m1, t1, f1⟩ := mn_bad hT mnA_2 hM (a := a) ⟨hb, i32_hi _⟩
      exact ⟨N, _, M1, m1, ⟨_, rfl⟩, fun xs => (yFr_nil f1 7 j).trans (hin xs)⟩
theorem xrun_go (hT : aTabOk) {M : mHe} (hM : yTy M) {m a z t x : Int32} {j : Nat} (hm0 : 0 ≤ m.toInt ∧ m.toInt ≤ 9999) (hz : 0 ≤ z.toInt ∧ z.toInt ≤ 20) (hj : j < 20) (hm : ∀ xs : tXs, yRd xs M 1 0 = some (.int m)) (hsz : ∀ xs : tXs, yRd xs M 2 0 = some (.int z)) (htr : ∀ xs : tXs, yRd xs M 5 j = some (.int t)) (hin : ∀ xs : tXs, yRd xs M 7 j = some (.int x)) : mEv none 101 (190, 0, lv_args 0 [.ref 9, .int a], []) M (fun r M' => ∀ xs : tXs, yRd xs M' 7 j = some (.int (goV j m a z t x))) := by
  obtain ⟨N, r, M', m1, ⟨r0, rfl⟩, h1⟩ := goOn_go hT hM hm0 hz hj hm hsz htr hin (a := a)
  obtain ⟨fs, hfs, -⟩ := yTy_obj hM (rfl : tTy 1 = some (.inr (1, _)))
  refine e_then (e_al1 hT (y := 190) (pc := 0) (q := (yX11_run, cX11_run, 2, (some .int), 11)) rfl (show aTab 190 0 = some (.aload_n 0, 1, 0, 0, 0, 0, 0, 0) from rfl) rfl rfl) ?_
  refine e_then (e_getR hT (y := 190) (pc := 1) (q := (yX11_run, cX11_run, 2, (some .int), 11)) rfl (show aTab 190 1 = some (.getfield 12, 3, 0, 11, 0, 0, 0, 0) from rfl) rfl (by decide) (by decide) hM rfl rfl) ?_
  refine e_then (e_il1 hT (y := 190) (pc := 4) (q := (yX11_run, cX11_run, 2, (some .int), 11)) rfl (show aTab 190 4 = some (.iload_n 1, 1, 0, 0, 0, 0, 0, 0) from rfl) rfl rfl) ?_
  refine e_then (e_call hT (y := 190) (pc := 5) (q := (yX11_run, cX11_run, 2, (some .int), 11)) rfl (show aTab 190 5 = some (.invokevirtual 82, 3, 1, 15, 0, 1, 3, 1) from rfl) rfl ⟨by decide, Nat.le_of_ble_eq_true rfl⟩ hfs (Nat.le_of_ble_eq_true rfl) (Nat.le_of_ble_eq_true rfl) ⟨by decide, by decide⟩ m1) ?_
  exact e_fin (e_iret hT (y := 190) (pc := 8) (q := (yX11_run, cX11_run, 2, (some .int), 11)) rfl (show aTab 190 8 = some (.ireturn, 1, 0, 0, 0, 0, 0, 0) from rfl) ⟨rfl, rfl⟩) h1
/-! the reference's minute -/
def rmK : tKt := (fun y pc => bif Nat.beq y 267 && Nat.beq pc 40 then some (.inr none) else tPt_ y pc, [])
def rmH (n z t x : Nat) : tF := [((120, 0, 0, 0), (4, 0, 0, 0)), ((120, 0, 3, 0), (4, z, 0, 0)), ((120, n, 22, 5), (4, t, 0, 0)), ((120, n, 23, 5), (4, x, 0, 0))]
def rmT : Bool := tCk rmK 20000 100 [] (267, 0, [(0, kR 128)], []) (rmH 2 1 3 4) ([(0, 9998), (0, 20), (0, 19), fu, fu], []) (fun lf => lAt 267 40 [] [(0, kR 128), (1, kI 0)] lf && (gF (120, 0, 0, 0) (4, 0, 1, 0) lf && (gF (120, 0, 3, 0) (4, 1, 0, 0) lf && (gF (120, 2, 22, 5) (4, 3, 0, 0) lf && gF (120, 2, 23, 5) (4, 4, 0, 0) lf))))
set_option maxRecDepth 100000 in
theorem rmT_ok : rmT = true := by decide +kernel
def rvBs : List (Int × Int) := [(1, 9999), (0, 20), (0, 19), (0, 20), fu, fu]
def rvRun (k : Nat) (ds : List (Nat × Nat × Int)) (chk : tLf_ → Bool) : Bool := tCk rmK 4000 90 [] (267, 41, [(0, kR 128), (1, (4, k, 0, 0))], [(4, k, 0, 0)]) (rmH 2 1 4 5) (rvBs, ds) chk
def rvAt (k : Nat) (lf : tLf_) : Bool := lAt 267 40 [] [(0, kR 128), (1, (4, k, 1, 0))] lf && (gF (120, 0, 0, 0) (4, 0, 0, 0) lf && (gF (120, 0, 3, 0) (4, 1, 0, 0) lf && gF (120, 2, 22, 5) (4, 4, 0, 0) lf))
def rvA (d : Nat × Nat × Int) : Bool := rvRun 3 [(3, 1, -1), d] (fun lf => rvAt 3 lf && gF (120, 2, 23, 5) (4, 5, 0, 0) lf)
def rvW (lf : tLf_) : Bool := (gF (120, 2, 23, 5) (kI 0) lf && (tImp lf.2.2 (4, 0, 0, 0) (4, 4, 0, 0) 0 && tImp lf.2.2 (4, 4, 0, 0) (4, 0, 0, 0) 0)) || (gF (120, 2, 23, 5) (4, 5, 0, 0) lf && (tImp lf.2.2 (4, 4, 0, 0) (4, 0, 0, 0) (-1) || tImp lf.2.2 (4, 0, 0, 0) (4, 4, 0, 0) (-1)))
def rvB : Bool := rvRun 2 [(2, 1, -1)] (fun lf => rvAt 2 lf && rvW lf)
def rvX : Bool := rvRun 1 [] (fun lf => lVoid lf && gF (120, 2, 23, 5) (4, 5, 0, 0) lf)
set_option maxRecDepth 100000 in
theorem rvA1 : rvA (3, 2, -1) = true := by decide +kernel
set_option maxRecDepth 100000 in
theorem rvA2 : rvA (2, 3, -1) = true := by decide +kernel
set_option maxRecDepth 100000 in
theorem rvB1 : rvB = true := by decide +kernel
set_option maxRecDepth 100000 in
theorem rvX1 : rvX = true := by decide +kernel
def goM (n t x : Int32) : Int32 := if t.toInt = n.toInt then 0 else x
theorem rmH_ok {E : List Int} {M : mHe} {a b c d j : Nat} {n z t x : Int32} (h0 : ∀ xs : tXs, yRd xs M 120 0 = some (.int n)) (h1 : ∀ xs : tXs, yRd xs M 120 3 = some (.int z)) (h2 : ∀ xs : tXs, yRd xs M 120 (j * 5 + 22) = some (.int t)) (h3 : ∀ xs : tXs, yRd xs M 120 (j * 5 + 23) = some (.int x)) (e0 : E[0]? = some n.toInt) (e1 : E[b]? = some z.toInt) (e2 : E[a]? = some (j : Int)) (e3 : E[c]? = some t.toInt) (e4 : E[d]? = some x.toInt) : yF x00 E (rmH a b c d) M := fun q hq => by
  simp only [rmH, List.mem_cons, List.not_mem_nil, or_false] at hq
  rcases hq with rfl | rfl | rfl | rfl
  · exact ⟨0, rfl, _, h0 x00, yV_atom e0⟩
  · exact ⟨3, rfl, _, h1 x00, yV_atom e1⟩
  · exact ⟨j * 5 + 22, yIx_5 (o := 22) e2, _, h2 x00, yV_atom e3⟩
  · exact ⟨j * 5 + 23, yIx_5 (o := 23) e2, _, h3 x00, yV_atom e4⟩
theorem rv_loop (hT : aTabOk) {n z t x : Int32} {j : Nat} (hn : 1 ≤ n.toInt ∧ n.toInt ≤ 9999) (hz : 0 ≤ z.toInt ∧ z.toInt ≤ 20) (hj : j < 20) : ∀ (d : Nat) (k y : Int32) (lv : List (Nat × Value)) (M : mHe), k.toInt + (d : Int) = z.toInt → 0 ≤ k.toInt → yTy M → (∀ xs : tXs, yRd xs M 120 0 = some (.int n)) → (∀ xs : tXs, yRd xs M 120 3 = some (.int z)) → (∀ xs : tXs, yRd xs M 120 (j * 5 + 22) = some (.int t)) → (∀ xs : tXs, yRd xs M 120 (j * 5 + 23) = some (.int y)) → y = (if k.toInt ≤ (j : Int) then x else goM n t x) → mlg 0 lv = some (.ref 128) → mlg 1 lv = some (.int k) → mEv none 90 (267, 40, lv, []) M (fun r M' => ∀ xs : tXs, yRd xs M' 120 (j * 5 + 23) = some (.int (if z.toInt ≤ (j : Int) then x else goM n t x))) := by
  intro d
  have bnd : ∀ (k y : Int32), 0 ≤ k.toInt ∧ k.toInt ≤ z.toInt → ∀ (ds : List (Nat × Nat × Int)), (∀ t' ∈ ds, ∃ e1 e2 : Int, ([n.toInt, z.toInt, (j : Int), k.toInt, t.toInt, y.toInt] : List Int)[t'.1]? = some e1 ∧ ([n.toInt, z.toInt, (j : Int), k.toInt, t.toInt, y.toInt] : List Int)[t'.2.1]? = some e2 ∧ e1 - e2 ≤ t'.2.2) → xE [n.toInt, z.toInt, (j : Int), k.toInt, t.toInt, y.toInt] (rvBs, ds) := fun k y hk ds hds => go_E rfl (fun i e l u he hb => by
    match i, he, hb with
    | 0, he, hb => cases he; cases hb; omega
    | 1, he, hb => cases he; cases hb; omega
    | 2, he, hb => cases he; cases hb; omega
    | 3, he, hb => cases he; cases hb; omega
    | 4, he, hb => cases he; cases hb; exact ⟨⟨i32_lo _, i32_hi _⟩, i32_lo _, i32_hi _⟩
    | 5, he, hb => cases he; cases hb; exact ⟨⟨i32_lo _, i32_hi _⟩, i32_lo _, i32_hi _⟩
    | i + 6, he, hb => simp at he) hds
  induction d with
  | zero =>
    intro k y lv M hk hk0 hM hmi hsz htr hin hy l0 l1
    have ek : k = z := i32eq (by omega)
    subst ek
    refine e_then (e_il1 hT (y := 267) (pc := 40) (q := (yX12_minute, cX12_minute, 3, none, 12)) rfl (show aTab 267 40 = some (.iload_n 1, 1, 0, 0, 0, 0, 0, 0) from rfl) rfl l1) ?_
    have hE := bnd k y (by omega) [] (fun t ht => by cases ht)
    obtain ⟨lf, f1, f2⟩ := tSegC (xs := x00) hT (fun ct hct => by cases hct) (show rvRun 1 [] (fun lf => lVoid lf && gF (120, 2, 23, 5) (4, 5, 0, 0) lf) = true from rvX1) hE (clv := lv) (yLv_cons l0 (yV_kR _ _) (yLv_cons l1 (yV_atom rfl) (yLv_nil _ _))) (cst := [.int k]) ⟨yV_atom rfl, trivial⟩ (M := M) ⟨hM, rmH_ok hmi hsz htr hin rfl rfl rfl rfl rfl⟩
    rw [Bool.and_eq_true] at f1
    obtain ⟨X, N, M', p1, p2, p3, -⟩ := lVoid_ok f1.1 f2
    refine ⟨N, none, M', p2, ?_⟩
    have := gI_ok (x := y) f1.2 p3 (yIx_app (yIx_5 (o := 23) rfl)) rfl (by decide)
    rw [hy] at this
    exact this
  | succ d ih =>
    intro k y lv M hk hk0 hM hmi hsz htr hin hy l0 l1
    have h1 : (Int32.ofInt 1).toInt = 1 := rfl
    have k1 : (k + 1).toInt = k.toInt + 1 := by
      have : (1 : Int32).toInt = 1 := rfl
      rw [i32_add (by omega) (by omega), this]
    refine e_then (e_il1 hT (y := 267) (pc := 40) (q := (yX12_minute, cX12_minute, 3, none, 12)) rfl (show aTab 267 40 = some (.iload_n 1, 1, 0, 0, 0, 0, 0, 0) from rfl) rfl l1) ?_
    have turn : ∀ (i : Nat) (ds : List (Nat × Nat × Int)) (chk : tLf_ → Bool), rvRun i ds (fun lf => rvAt i lf && chk lf) = true → ([n.toInt, z.toInt, (j : Int), k.toInt, t.toInt, y.toInt] : List Int)[i]? = some k.toInt → (∀ t' ∈ ds, ∃ e1 e2 : Int, ([n.toInt, z.toInt, (j : Int), k.toInt, t.toInt, y.toInt] : List Int)[t'.1]? = some e1 ∧ ([n.toInt, z.toInt, (j : Int), k.toInt, t.toInt, y.toInt] : List Int)[t'.2.1]? = some e2 ∧ e1 - e2 ≤ t'.2.2) → (∀ (lf : tLf_) (X : List Int) (M' : mHe), chk lf = true → xE ([n.toInt, z.toInt, (j : Int), k.toInt, t.toInt, y.toInt] ++ X) lf.2.2 → yH x00 ([n.toInt, z.toInt, (j : Int), k.toInt, t.toInt, y.toInt] ++ X) lf.2.1 M' → ∃ y' : Int32, (∀ xs : tXs, yRd xs M' 120 (j * 5 + 23) = some (.int y')) ∧ y' = (if (k + 1).toInt ≤ (j : Int) then x else goM n t x)) → mEv none 90 (267, 41, lv, [.int k]) M (fun r M' => ∀ xs : tXs, yRd xs M' 120 (j * 5 + 23) = some (.int (if z.toInt ≤ (j : Int) then x else goM n t x))) := by
      intro i ds chk hrun hi hds hend
      have hE := bnd k y (by omega) ds hds
      obtain ⟨lf, f1, f2⟩ := tSegC (xs := x00) hT (fun ct hct => by cases hct) hrun hE (clv := lv) (yLv_cons l0 (yV_kR _ _) (yLv_cons l1 (yV_atom hi) (yLv_nil _ _))) (cst := [.int k]) ⟨yV_atom hi, trivial⟩ (M := M) ⟨hM, rmH_ok hmi hsz htr hin rfl rfl rfl rfl rfl⟩
      unfold rvAt at f1
      rw [Bool.and_eq_true, Bool.and_eq_true, Bool.and_eq_true, Bool.and_eq_true] at f1
      obtain ⟨⟨f3, f4, f5, f7⟩, f6⟩ := f1
      obtain ⟨X, lv', st', M1, m1, m2, m3, m4, m5, m6, -⟩ := lAt_ok f3 f2
      have hst := yS_nil m3
      subst hst
      obtain ⟨k', g3, e3⟩ := loc_i (k := 1) (i := i) (a := 1) (e := k.toInt) m4 (by simp) hi
      have hkk : k' = k + 1 := i32eq (by omega)
      subst hkk
      obtain ⟨y', y1, y2⟩ := hend lf X M1 f6 m1 m6
      exact e_then m2 (ih (k + 1) y' lv' M1 (by omega) (by omega) m6.1 (gI_ok (x := n) (k := 0) f4 m6 rfl rfl (by decide)) (gI_ok (x := z) (k := 3) f5 m6 rfl rfl (by decide)) (gI_ok (x := t) f7 m6 (yIx_app (yIx_5 (o := 22) rfl)) rfl (by decide)) y1 y2 (loc_r m4 (by simp)) g3)
    by_cases c1 : k.toInt < (j : Int)
    · refine turn 3 _ _ rvA1 rfl (fun t' ht' => ?_) (fun lf X M' hc hE hH => ⟨y, gI_ok (x := y) hc hH (yIx_app (yIx_5 (o := 23) rfl)) rfl (by decide), ?_⟩)
      · simp only [List.mem_cons, List.not_mem_nil, or_false] at ht'
        rcases ht' with rfl | rfl
        · exact ⟨_, _, rfl, rfl, by show k.toInt - z.toInt ≤ -1; omega⟩
        · exact ⟨_, _, rfl, rfl, by show k.toInt - (j : Int) ≤ -1; omega⟩
      · rw [hy, if_pos (by omega), if_pos (by omega)]
    by_cases c2 : (j : Int) < k.toInt
    · refine turn 3 _ _ rvA2 rfl (fun t' ht' => ?_) (fun lf X M' hc hE hH => ⟨y, gI_ok (x := y) hc hH (yIx_app (yIx_5 (o := 23) rfl)) rfl (by decide), ?_⟩)
      · simp only [List.mem_cons, List.not_mem_nil, or_false] at ht'
        rcases ht' with rfl | rfl
        · exact ⟨_, _, rfl, rfl, by show k.toInt - z.toInt ≤ -1; omega⟩
        · exact ⟨_, _, rfl, rfl, by show (j : Int) - k.toInt ≤ -1; omega⟩
      · rw [hy, if_neg (by omega), if_neg (by omega)]
    · have ejk : (j : Int) = k.toInt := by omega
      have hyx : y = x := by rw [hy, if_pos (by omega)]
      refine turn 2 _ _ rvB1 (by rw [← ejk]; rfl) (fun t' ht' => ?_) (fun lf X M' hc hE hH => ?_)
      · simp only [List.mem_cons, List.not_mem_nil, or_false] at ht'
        subst ht'
        exact ⟨_, _, rfl, rfl, by show (j : Int) - z.toInt ≤ -1; omega⟩
      · rw [if_neg (by omega)]
        have n0 : yN ([n.toInt, z.toInt, (j : Int), k.toInt, t.toInt, y.toInt] ++ X) (4, 0, 0, 0) n.toInt := ⟨n.toInt, rfl, by omega⟩
        have n4 : yN ([n.toInt, z.toInt, (j : Int), k.toInt, t.toInt, y.toInt] ++ X) (4, 4, 0, 0) t.toInt := ⟨t.toInt, rfl, by omega⟩
        unfold rvW at hc
        rw [Bool.or_eq_true, Bool.and_eq_true, Bool.and_eq_true, Bool.and_eq_true, Bool.or_eq_true] at hc
        rcases hc with ⟨h1, h2, h3⟩ | ⟨h1, h2⟩
        · have i1 := tImp_ok hE n0 n4 h2
          have i2 := tImp_ok hE n4 n0 h3
          refine ⟨0, fun xs => ?_, by unfold goM; rw [if_pos (by omega)]⟩
          obtain ⟨w, w1, w2⟩ := gF_ok h1 hH (yIx_app (yIx_5 (j := j) (o := 23) rfl))
          obtain ⟨x0, rfl, w3⟩ := yV_int rfl w2
          have hx0 : x0 = 0 := i32eq (by have h := w3.2; exact Int.le_antisymm h.2 h.1)
          rw [← hx0]
          exact (rd_any (by decide)).trans w1
        · refine ⟨y, gI_ok (x := y) h1 hH (yIx_app (yIx_5 (o := 23) rfl)) rfl (by decide), ?_⟩
          unfold goM
          rw [hyx, if_neg]
          intro g1
          rcases h2 with h2 | h2
          · have := tImp_ok hE n4 n0 h2
            omega
          · have := tImp_ok hE n0 n4 h2
            omega
theorem minute_go (hT : aTabOk) {M : mHe} (hM : yTy M) {m z t x : Int32} {j : Nat} (hm0 : 0 ≤ m.toInt ∧ m.toInt ≤ 9998) (hz : 0 ≤ z.toInt ∧ z.toInt ≤ 20) (hj : j < 20) (hm : ∀ xs : tXs, yRd xs M 120 0 = some (.int m)) (hsz : ∀ xs : tXs, yRd xs M 120 3 = some (.int z)) (htr : ∀ xs : tXs, yRd xs M 120 (j * 5 + 22) = some (.int t)) (hin : ∀ xs : tXs, yRd xs M 120 (j * 5 + 23) = some (.int x)) : mEv none 100 (267, 0, lv_args 0 [.ref 128], []) M (fun r M' => ∀ xs : tXs, yRd xs M' 120 (j * 5 + 23) = some (.int (if z.toInt ≤ (j : Int) then x else goM (m + 1) t x))) := by
  have hE : xE [m.toInt, z.toInt, (j : Int), t.toInt, x.toInt] ([(0, 9998), (0, 20), (0, 19), fu, fu], []) := go_E rfl (fun i e l u he hb => by
    match i, he, hb with
    | 0, he, hb => cases he; cases hb; omega
    | 1, he, hb => cases he; cases hb; omega
    | 2, he, hb => cases he; cases hb; omega
    | 3, he, hb => cases he; cases hb; exact ⟨⟨i32_lo _, i32_hi _⟩, i32_lo _, i32_hi _⟩
    | 4, he, hb => cases he; cases hb; exact ⟨⟨i32_lo _, i32_hi _⟩, i32_lo _, i32_hi _⟩
    | i + 5, he, hb => simp at he) (fun t ht => by cases ht)
  obtain ⟨lf, g1, g2⟩ := tSegC (xs := x00) hT (fun ct hct => by cases hct) rmT_ok hE (clv := lv_args 0 [.ref 128]) (yLv_cons rfl (yV_kR _ _) (yLv_nil _ _)) (cst := []) (show yS _ [] [] from trivial) (M := M) ⟨hM, rmH_ok hm hsz htr hin rfl rfl rfl rfl rfl⟩
  rw [Bool.and_eq_true, Bool.and_eq_true, Bool.and_eq_true, Bool.and_eq_true] at g1
  obtain ⟨c0, c1, c2, c3, c4⟩ := g1
  obtain ⟨X, lv', st', M2, p1, p2, p3, p4, -, p6, -⟩ := lAt_ok c0 g2
  have hst := yS_nil p3
  subst hst
  have h1 : (1 : Int32).toInt = 1 := rfl
  have m1 : (m + 1).toInt = m.toInt + 1 := by rw [i32_add (by omega) (by omega), h1]
  have d1 : ∀ xs : tXs, yRd xs M2 120 0 = some (.int (m + 1)) := fun xs => by
    obtain ⟨w, w1, w2⟩ := gF_ok (k := 0) c1 p6 (yIx_app yIx_0)
    obtain ⟨y, rfl, -, e, e1, e2⟩ := yV_int rfl w2
    have e1 : some m.toInt = some e := e1
    cases e1
    have : y = m + 1 := i32eq (by omega)
    rw [← this]
    exact (rd_any (by decide)).trans w1
  obtain ⟨v0, n1, e0⟩ := p4 (1, kI 0) (by simp)
  obtain ⟨x0, rfl, w3⟩ := yV_int rfl e0
  have hx0 : x0 = 0 := i32eq (by have h := w3.2; exact Int.le_antisymm h.2 h.1)
  subst hx0
  have h0 : (0 : Int32).toInt = 0 := rfl
  obtain ⟨N, r, M', q1, q2⟩ := rv_loop hT (n := m + 1) (z := z) (t := t) (x := x) (by omega) hz hj z.toInt.toNat 0 x lv' M2 (by omega) (by omega) p6.1 d1 (gI_ok (x := z) (k := 3) c2 p6 (yIx_app yIx_0) rfl (by decide)) (gI_ok (x := t) c3 p6 (yIx_app (yIx_5 (o := 22) rfl)) rfl (by decide)) (gI_ok (x := x) c4 p6 (yIx_app (yIx_5 (o := 23) rfl)) rfl (by decide)) (by rw [if_pos (by omega)]) (loc_r p4 (by simp)) n1
  exact e_then p2 ⟨N, r, M', mRun_dm q1 (by decide), q2⟩
theorem goT_step {m c c1 t x : Int32} (h : c1.toInt = c.toInt + 1) (hm : m.toInt ≤ c.toInt) : goM c1 t (goT m c t x) = goT m c1 t x := by
  unfold goM goT
  by_cases g : t.toInt = c1.toInt
  · rw [if_pos g, if_pos (by omega)]
  · rw [if_neg g]
    by_cases g2 : m.toInt < t.toInt ∧ t.toInt ≤ c.toInt
    · rw [if_pos g2, if_pos (by omega)]
    · rw [if_neg g2, if_neg (by omega)]
theorem goT_0 {m t x : Int32} : goT m m t x = x := by unfold goT; rw [if_neg (by omega)]
theorem mrunL_go (hT : aTabOk) {m a z t x : Int32} {j : Nat} (hm0 : 0 ≤ m.toInt) (ha : 1 ≤ a.toInt ∧ a.toInt ≤ 240) (hs : m.toInt + a.toInt ≤ 9999) (hz : 0 ≤ z.toInt ∧ z.toInt ≤ 20) (hj : j < 20) : ∀ (d : Nat) (k c y : Int32) (lv : List (Nat × Value)) (M : mHe), k.toInt + (d : Int) = a.toInt → 0 ≤ k.toInt → c.toInt = m.toInt + k.toInt → yTy M → (∀ xs : tXs, yRd xs M 120 0 = some (.int c)) → (∀ xs : tXs, yRd xs M 120 3 = some (.int z)) → (∀ xs : tXs, yRd xs M 120 (j * 5 + 22) = some (.int t)) → (∀ xs : tXs, yRd xs M 120 (j * 5 + 23) = some (.int y)) → y = (if z.toInt ≤ (j : Int) then x else goT m c t x) → mlg 0 lv = some (.ref 128) → mlg 1 lv = some (.int a) → mlg 2 lv = some (.int k) → mEv none 101 (268, 34, lv, []) M (fun r M' => ∀ xs : tXs, yRd xs M' 120 (j * 5 + 23) = some (.int (if z.toInt ≤ (j : Int) then x else goT m (m + a) t x))) := by
  have hsum : (m + a).toInt = m.toInt + a.toInt := i32_add (by omega) (by omega)
  intro d
  induction d with
  | zero =>
    intro k c y lv M hk hk0 hc hM hmi hsz htr hin hy l0 l1 l2
    have ec : c = m + a := i32eq (by omega)
    subst ec
    obtain ⟨f, hf, -⟩ := yTy_arr hM tTy_120
    have hf0 : f (0 : Int32).toInt.toNat = m + a := by
      have := hmi x00
      rw [yRd_arr _ (by decide) hf (by decide)] at this
      simp only [Option.some.injEq, Value.int.injEq] at this
      exact this
    refine e_then (e_il1 hT (y := 268) (pc := 34) (q := (yX12_run, cX12_run, 3, (some .int), 12)) rfl (show aTab 268 34 = some (.iload_n 2, 1, 0, 0, 0, 0, 0, 0) from rfl) rfl l2) ?_
    refine e_then (e_il1 hT (y := 268) (pc := 35) (q := (yX12_run, cX12_run, 3, (some .int), 12)) rfl (show aTab 268 35 = some (.iload_n 1, 1, 0, 0, 0, 0, 0, 0) from rfl) rfl l1) ?_
    refine e_then (e_icT hT (y := 268) (pc := 36) (q := (yX12_run, cX12_run, 3, (some .int), 12)) rfl (show aTab 268 36 = some (.if_icmp .ge 13, 3, 0, 0, 0, 0, 0, 0) from rfl) rfl (t := 49) rfl (cdT (by show _ ≤ _; omega))) ?_
    refine e_then (e_al1 hT (y := 268) (pc := 49) (q := (yX12_run, cX12_run, 3, (some .int), 12)) rfl (show aTab 268 49 = some (.aload_n 0, 1, 0, 0, 0, 0, 0, 0) from rfl) rfl l0) ?_
    refine e_then (e_getR hT (y := 268) (pc := 50) (q := (yX12_run, cX12_run, 3, (some .int), 12)) rfl (show aTab 268 50 = some (.getfield 7, 3, 0, 12, 0, 0, 0, 0) from rfl) rfl (by decide) (by decide) hM rfl rfl) ?_
    refine e_then (e_st hT (y := 268) (pc := 53) (q := (yX12_run, cX12_run, 3, (some .int), 12)) rfl (show aTab 268 53 = some (.iconst 0, 1, 0, 0, 0, 0, 0, 0) from rfl) (fr' := (268, 54, lv, [.int 0, .ref 129])) (M' := M) rfl) ?_
    refine e_then (e_ald hT (y := 268) (pc := 54) (q := (yX12_run, cX12_run, 3, (some .int), 12)) rfl (show aTab 268 54 = some (.iaload, 1, 0, 0, 0, 0, 0, 0) from rfl) ⟨rfl, by omega⟩ hf (by decide)) ?_
    rw [hf0]
    exact e_fin (e_iret hT (y := 268) (pc := 55) (q := (yX12_run, cX12_run, 3, (some .int), 12)) rfl (show aTab 268 55 = some (.ireturn, 1, 0, 0, 0, 0, 0, 0) from rfl) ⟨rfl, rfl⟩) (fun xs => by rw [← hy]; exact hin xs)
  | succ d ih =>
    intro k c y lv M hk hk0 hc hM hmi hsz htr hin hy l0 l1 l2
    obtain ⟨N1, M1, n1, n2, n3, n4⟩ := minute_run hT hM (m := c) (by omega) hmi
    obtain ⟨N2, r2, M2, g1, g2⟩ := minute_go hT hM (by omega) hz hj hmi hsz htr hin
    have hdet := mRun_det g1 n1
    have hM2 : M2 = M1 := congrArg Prod.snd hdet
    subst hM2
    obtain ⟨fs, hfs, -⟩ := yTy_obj hM (rfl : tTy 119 = some (.inr (12, _)))
    have h1 : (1 : Int32).toInt = 1 := rfl
    have e1 : (Int32.ofInt 1).toInt = 1 := rfl
    have z1 : (c + 1).toInt = c.toInt + 1 := by rw [i32_add (by omega) (by omega), h1]
    have k1 : (k + Int32.ofInt 1).toInt = k.toInt + 1 := by rw [i32_add (by omega) (by omega), e1]
    have keep : ∀ i : Nat, (i = 3 ∨ i = j * 5 + 22) → ∀ xs : tXs, yRd xs M2 120 i = yRd xs M 120 i := fun i hi xs => n3 xs 120 i (fun g hg hy => by
      simp only [mnWM, List.mem_cons, List.not_mem_nil, or_false] at hg
      obtain ⟨-, y2, y3, y4⟩ := hy
      rcases hg with rfl | rfl | rfl | rfl | rfl | rfl | rfl
      all_goals simp only [Int.ofNat_eq_natCast] at y2 y3 y4
      all_goals (rcases hi with rfl | rfl <;> omega))
    refine e_then (e_il1 hT (y := 268) (pc := 34) (q := (yX12_run, cX12_run, 3, (some .int), 12)) rfl (show aTab 268 34 = some (.iload_n 2, 1, 0, 0, 0, 0, 0, 0) from rfl) rfl l2) ?_
    refine e_then (e_il1 hT (y := 268) (pc := 35) (q := (yX12_run, cX12_run, 3, (some .int), 12)) rfl (show aTab 268 35 = some (.iload_n 1, 1, 0, 0, 0, 0, 0, 0) from rfl) rfl l1) ?_
    refine e_then (e_icF hT (y := 268) (pc := 36) (q := (yX12_run, cX12_run, 3, (some .int), 12)) rfl (show aTab 268 36 = some (.if_icmp .ge 13, 3, 0, 0, 0, 0, 0, 0) from rfl) rfl (t := 49) rfl (cdF (by show ¬ _ ≤ _; omega))) ?_
    refine e_then (e_al1 hT (y := 268) (pc := 39) (q := (yX12_run, cX12_run, 3, (some .int), 12)) rfl (show aTab 268 39 = some (.aload_n 0, 1, 0, 0, 0, 0, 0, 0) from rfl) rfl l0) ?_
    refine e_then (e_call hT (y := 268) (pc := 40) (q := (yX12_run, cX12_run, 3, (some .int), 12)) rfl (show aTab 268 40 = some (.invokevirtual 123, 3, 1, 267, 0, 0, 3, 12) from rfl) rfl ⟨by decide, Nat.le_of_ble_eq_true rfl⟩ hfs (Nat.le_of_ble_eq_true rfl) (Nat.le_of_ble_eq_true rfl) ⟨by decide, by decide⟩ n1) ?_
    refine e_then (e_ii hT (y := 268) (pc := 43) (q := (yX12_run, cX12_run, 3, (some .int), 12)) rfl (show aTab 268 43 = some (.iinc 2 1, 3, 0, 0, 0, 0, 0, 0) from rfl) ⟨rfl, by decide⟩ l2) ?_
    refine e_then (e_st hT (y := 268) (pc := 46) (q := (yX12_run, cX12_run, 3, (some .int), 12)) rfl (show aTab 268 46 = some (.goto (-12), 3, 0, 0, 0, 0, 0, 0) from rfl) (fr' := (268, 34, (mlp 2 (.int (k + Int32.ofInt 1)) lv), [])) (M' := M2) rfl) ?_
    exact ih (k + Int32.ofInt 1) (c + 1) _ _ M2 (by omega) (by omega) (by omega) n2 n4 (fun xs => (keep 3 (Or.inl rfl) xs).trans (hsz xs)) (fun xs => (keep _ (Or.inr rfl) xs).trans (htr xs)) g2 (by
      by_cases hzj : z.toInt ≤ (j : Int)
      · rw [if_pos hzj, if_pos hzj, hy, if_pos hzj]
      · rw [if_neg hzj, if_neg hzj, hy, if_neg hzj, goT_step z1 (by omega)]) (mlg_r l0 (by decide)) (mlg_i l1 (by decide)) (mlg_eq 2 _ _)
theorem mrun_go (hT : aTabOk) {M : mHe} (hM : yTy M) {m a z t x : Int32} {j : Nat} (hm0 : 0 ≤ m.toInt ∧ m.toInt ≤ 9999) (hz : 0 ≤ z.toInt ∧ z.toInt ≤ 20) (hj : j < 20) (hm : ∀ xs : tXs, yRd xs M 120 0 = some (.int m)) (hsz : ∀ xs : tXs, yRd xs M 120 3 = some (.int z)) (htr : ∀ xs : tXs, yRd xs M 120 (j * 5 + 22) = some (.int t)) (hin : ∀ xs : tXs, yRd xs M 120 (j * 5 + 23) = some (.int x)) : mEv none 101 (268, 0, lv_args 0 [.ref 128, .int a], []) M (fun r M' => ∀ xs : tXs, yRd xs M' 120 (j * 5 + 23) = some (.int (goV j m a z t x))) := by
  by_cases ha : 1 ≤ a.toInt ∧ a.toInt ≤ 240
  · obtain ⟨lv, M1, m1, l0, l1, t1, f1⟩ := mn_go hT mnB_2 hM ha
    have h1m : ∀ xs, yRd xs M1 120 0 = some (.int m) := fun xs => (yFr_nil f1 120 0).trans (hm xs)
    obtain ⟨f, hf, -⟩ := yTy_arr t1 tTy_120
    have hf0 : f (0 : Int32).toInt.toNat = m := by
      have := h1m x00
      rw [yRd_arr _ (by decide) hf (by decide)] at this
      cases this
      rfl
    have hsum : (m + a).toInt = m.toInt + a.toInt := i32_add (by omega) (by omega)
    have e99 : (9999 : Int32).toInt = 9999 := rfl
    refine e_then m1 ?_
    refine e_then (e_al1 hT (y := 268) (pc := 15) (q := (yX12_run, cX12_run, 3, (some .int), 12)) rfl (show aTab 268 15 = some (.aload_n 0, 1, 0, 0, 0, 0, 0, 0) from rfl) rfl l0) ?_
    refine e_then (e_getR hT (y := 268) (pc := 16) (q := (yX12_run, cX12_run, 3, (some .int), 12)) rfl (show aTab 268 16 = some (.getfield 7, 3, 0, 12, 0, 0, 0, 0) from rfl) rfl (by decide) (by decide) t1 rfl rfl) ?_
    refine e_then (e_st hT (y := 268) (pc := 19) (q := (yX12_run, cX12_run, 3, (some .int), 12)) rfl (show aTab 268 19 = some (.iconst 0, 1, 0, 0, 0, 0, 0, 0) from rfl) (fr' := (268, 20, lv, [.int 0, .ref 129])) (M' := M1) rfl) ?_
    refine e_then (e_ald hT (y := 268) (pc := 20) (q := (yX12_run, cX12_run, 3, (some .int), 12)) rfl (show aTab 268 20 = some (.iaload, 1, 0, 0, 0, 0, 0, 0) from rfl) ⟨rfl, by omega⟩ hf (by decide)) ?_
    rw [hf0]
    refine e_then (e_il1 hT (y := 268) (pc := 21) (q := (yX12_run, cX12_run, 3, (some .int), 12)) rfl (show aTab 268 21 = some (.iload_n 1, 1, 0, 0, 0, 0, 0, 0) from rfl) rfl l1) ?_
    refine e_then (e_st hT (y := 268) (pc := 22) (q := (yX12_run, cX12_run, 3, (some .int), 12)) rfl (show aTab 268 22 = some (.iadd, 1, 0, 0, 0, 0, 0, 0) from rfl) (fr' := (268, 23, lv, [.int (m + a)])) (M' := M1) rfl) ?_
    refine e_then (e_st hT (y := 268) (pc := 23) (q := (yX12_run, cX12_run, 3, (some .int), 12)) rfl (show aTab 268 23 = some (.sipush 9999, 3, 0, 0, 0, 0, 0, 0) from rfl) (fr' := (268, 26, lv, [.int 9999, .int (m + a)])) (M' := M1) rfl) ?_
    by_cases hs : m.toInt + a.toInt ≤ 9999
    · refine e_then (e_icT hT (y := 268) (pc := 26) (q := (yX12_run, cX12_run, 3, (some .int), 12)) rfl (show aTab 268 26 = some (.if_icmp .le 6, 3, 0, 0, 0, 0, 0, 0) from rfl) rfl (t := 32) rfl (cdT (by show _ ≤ _; rw [hsum, e99]; exact hs))) ?_
      refine e_then (e_st hT (y := 268) (pc := 32) (q := (yX12_run, cX12_run, 3, (some .int), 12)) rfl (show aTab 268 32 = some (.iconst 0, 1, 0, 0, 0, 0, 0, 0) from rfl) (fr' := (268, 33, lv, [.int 0])) (M' := M1) rfl) ?_
      refine e_then (e_is1 hT (y := 268) (pc := 33) (q := (yX12_run, cX12_run, 3, (some .int), 12)) rfl (show aTab 268 33 = some (.istore_n 2, 1, 0, 0, 0, 0, 0, 0) from rfl) ⟨rfl, by decide⟩) ?_
      rw [goV_go ha hs]
      have h0 : (0 : Int32).toInt = 0 := rfl
      exact mrunL_go hT hm0.1 ha hs hz hj a.toInt.toNat 0 m x _ M1 (by omega) (by omega) (by omega) t1 h1m (fun xs => (yFr_nil f1 120 3).trans (hsz xs)) (fun xs => (yFr_nil f1 120 _).trans (htr xs)) (fun xs => (yFr_nil f1 120 _).trans (hin xs)) (by rw [goT_0]; split <;> rfl) (mlg_r l0 (by decide)) (mlg_i l1 (by decide)) (mlg_eq 2 _ _)
    · refine e_then (e_icF hT (y := 268) (pc := 26) (q := (yX12_run, cX12_run, 3, (some .int), 12)) rfl (show aTab 268 26 = some (.if_icmp .le 6, 3, 0, 0, 0, 0, 0, 0) from rfl) rfl (t := 32) rfl (cdF (by show ¬ _ ≤ _; rw [hsum, e99]; exact hs))) ?_
      refine e_then (e_st hT (y := 268) (pc := 29) (q := (yX12_run, cX12_run, 3, (some .int), 12)) rfl (show aTab 268 29 = some (.ldc 90, 2, 7, 0, (-1000000003), 0, 0, 0) from rfl) (fr' := (268, 31, lv, [.int (-1000000003)])) (M' := M1) rfl) ?_
      rw [goV_full hs]
      exact e_fin (e_iret hT (y := 268) (pc := 31) (q := (yX12_run, cX12_run, 3, (some .int), 12)) rfl (show aTab 268 31 = some (.ireturn, 1, 0, 0, 0, 0, 0, 0) from rfl) ⟨rfl, rfl⟩) (fun xs => (yFr_nil f1 120 _).trans (hin xs))
  · have hb : a.toInt ≤ 0 ∨ 241 ≤ a.toInt := by omega
    rw [goV_bad ha]
    rcases hb with hb | hb
    · obtain ⟨N, M1, m1, t1, f1⟩ := mn_bad hT mnA_3 hM (a := a) ⟨i32_lo _, hb⟩
      exact ⟨N, _, M1, mRun_dm m1 (by decide), fun xs => (yFr_nil f1 120 _).trans (hin xs)⟩
    · obtain ⟨N, M1, m1, t1, f1⟩ := mn_bad hT mnA_4 hM (a := a) ⟨hb, i32_hi _⟩
      exact ⟨N, _, M1, mRun_dm m1 (by decide), fun xs => (yFr_nil f1 120 _).trans (hin xs)⟩
theorem goPost_ok (hT : aTabOk) : goPost := by
  refine ⟨fun M hM m a z t x j hm0 hz hj hm hsz htr hin => ?_, fun M hM m a z t x j hm0 hz hj hm hsz htr hin => ?_⟩
  · obtain ⟨N, r, M', m1, h1⟩ := xrun_go hT hM hm0 hz hj hm hsz htr hin (a := a)
    exact ⟨N, r, M', mRun_dm m1 (by decide), h1⟩
  · obtain ⟨N, r, M', m1, h1⟩ := mrun_go hT hM hm0 hz hj hm hsz htr hin (a := a)
    exact ⟨N, r, M', mRun_dm m1 (by decide), h1⟩
