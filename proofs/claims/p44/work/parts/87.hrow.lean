/-! HAND: the row of changes -/
/-- a place, by an atom, between these -/
def lFp (p : tP) (l u : Int) (lf : tLf_) : Bool := match tFind lf.2.1 p with
  | some w => tIsI w && (ile l (tBd lf.2.2 w).1 && ile (tBd lf.2.2 w).2 u)
  | none => false
theorem lFp_ok {xs : tXs} {E : List Int} {M : mHe} {lf : tLf_} {p : tP} {k : Nat} {l u : Int} (h : lFp p l u lf = true) (hE : xE E lf.2.2) (hH : yH xs E lf.2.1 M) (hp : yIx E p = some (k : Int)) : ∃ x : Int32, yRd xs M p.1 k = some (.int x) ∧ l ≤ x.toInt ∧ x.toInt ≤ u := by
  unfold lFp at h
  split at h
  · next w hw =>
    rw [Bool.and_eq_true, Bool.and_eq_true, ile_iff, ile_iff] at h
    obtain ⟨k', h1, v, v1, v2⟩ := yF_find hH.2 hw
    simp only at h1 v1 v2
    rw [hp] at h1
    have : k = k' := by
      have := Option.some.inj h1
      omega
    subst this
    obtain ⟨x, rfl, x1⟩ := yV_int h.1 v2
    have := tBd_N hE x1.2
    exact ⟨x, v1, by omega, by omega⟩
  · cases h
/-- a typed store -/
theorem yTy_sa {M : mHe} {c : Nat} {l h vl vh : Int} {x y : Int32} (hM : yTy M) (hc : (tSa ([(l, h), (vl, vh)], []) [] [] c (4, 0, 0, 0) (4, 1, 0, 0)).isSome = true) (hx : l ≤ x.toInt ∧ x.toInt ≤ h) (hy : vl ≤ y.toInt ∧ y.toInt ≤ vh) : ∃ n f, M[c]? = some (.inl (n, f)) ∧ (0 ≤ x.toInt ∧ x.toInt < n) ∧ yTy (M.set c (.inl (n, upd f x.toInt.toNat y))) := by
  have hE : xE [x.toInt, y.toInt] ([(l, h), (vl, vh)], []) := by
    refine xE_of_list rfl (fun i l u e hb he => ?_)
    match i with
    | 0 => cases hb; cases he; exact ⟨hx, i32_lo _, i32_hi _⟩
    | 1 => cases hb; cases he; exact ⟨hy, i32_lo _, i32_hi _⟩
    | i + 2 => simp at hb
  obtain ⟨fs', h⟩ := Option.isSome_iff_exists.mp hc
  obtain ⟨n, f, h1, h2, h3, h4, -⟩ := tSa_ok (xs := (0, fun _ => 0)) (x := x) (y := y) hE (fun q hq => by cases hq) hM (show yN [x.toInt, y.toInt] (4, 0, 0, 0) x.toInt from ⟨x.toInt, rfl, by omega⟩) (show yN [x.toInt, y.toInt] (4, 1, 0, 0) y.toInt from ⟨y.toInt, rfl, by omega⟩) h
  refine ⟨n, f, h1, ?_, h4⟩
  have h3 : x.toInt.toNat < n := h3
  rw [Int32.lt_iff_toInt_lt] at h2
  have : (0 : Int32).toInt = 0 := rfl
  omega
abbrev rwW : List tG := [(131, 0, 99, 1, 0), (127, 0, 39, 1, 0), (128, 0, 39, 1, 0), (130, 0, 127, 1, 0)]
abbrev x00 : tXs := (0, fun _ => 0)
def gd (M0 : mHe) (c : Int32) : Prop := (0 ≤ c.toInt ∧ c.toInt ≤ 39) ∧ ∃ z : Int32, yRd x00 M0 120 (160 + 10 * c.toInt.toNat) = some (.int z) ∧ (2 ≤ z.toInt ∧ z.toInt ≤ 3) ∧ ∃ m : Int32, yRd x00 M0 120 5 = some (.int m) ∧ c.toInt < m.toInt
def gdAt (M0 M : mHe) (j : Nat) : Prop := ∃ c : Int32, yRd x00 M 127 j = some (.int c) ∧ gd M0 c
theorem yFr_upd {W : List tG} {M0 M : mHe} {c k n : Nat} {f : Nat → Int32} {x : Int32} (h : yFr W M0 M) (hM : M[c]? = some (.inl (n, f))) (hg : ∃ g ∈ W, yG g c k) : yFr W M0 (M.set c (.inl (n, upd f k x))) := yFr_tr h (yFr_set hM hg)
theorem gdAt_set {M0 M : mHe} {a j : Nat} {f : Nat → Int32} {x : Int32} (hs : M[127]? = some (.inl (40, f))) (hj : j < 40) (hx : j = a → gd M0 x) (h : j ≠ a → gdAt M0 M j) : gdAt M0 (M.set 127 (.inl (40, upd f a x))) j := by
  by_cases e : j = a
  · subst e
    exact ⟨x, by rw [yRd_arr _ (by decide) (List.getElem?_set_self (List.getElem?_eq_some_iff.mp hs).1) hj, upd_same], hx rfl⟩
  · obtain ⟨c, c1, c2⟩ := h e
    exact ⟨c, by rw [yRd_upd hs (fun z => e z.2)]; exact c1, c2⟩
theorem gdAt_ne {M0 M : mHe} {a j c n : Nat} {f : Nat → Int32} {x : Int32} (hs : M[c]? = some (.inl (n, f))) (hc : c ≠ 127) (h : gdAt M0 M j) : gdAt M0 (M.set c (.inl (n, upd f a x))) j := by
  obtain ⟨z, z1, z2⟩ := h
  exact ⟨z, by rw [yRd_upd hs (fun q => hc q.1.symm)]; exact z1, z2⟩
theorem row_out (hT : aTabOk) {M0 : mHe} {kk : Int32} {n k : Nat} (hkk : kk.toInt = (k : Int)) (hn : n ≤ k) (hk : k ≤ 39) (hg : gd M0 kk) {t v : Int32} {Q : Option Value → mHe → Prop} {a : Nat} {M : mHe} {lv : List (Nat × Value)} : a ≤ n → yTy M → yFr rwW M0 M → (∀ j, j ≤ n → j ≠ a → gdAt M0 M j) → mlg 0 lv = some (.ref 128) → mlg 1 lv = some (.int t) → mlg 2 lv = some (.int (Int32.ofNat n)) → mlg 3 lv = some (.int kk) → mlg 4 lv = some (.int v) → mlg 5 lv = some (.int (Int32.ofNat a)) → (∀ lv' M', yTy M' → yFr rwW M0 M' → (∀ j, j < n + 1 → gdAt M0 M' j) → mlg 0 lv' = some (.ref 128) → mlg 1 lv' = some (.int t) → mlg 2 lv' = some (.int (Int32.ofNat n + Int32.ofInt 1)) → mlg 3 lv' = some (.int kk) → mEv none 6 (296, 127, lv', []) M' Q) → mEv none 6 (296, 107, lv, []) M Q := by
  intro ha hM hfr hgd l0 l1 l2 l3 l4 l5 hk2
  have ea := i32n (k := a) (by omega)
  have ea2 : (Int32.ofNat a).toInt.toNat = a := by rw [ea]; omega
  obtain ⟨n1, f1, s1, s2, s3⟩ := yTy_sa (c := 128) (l := 0) (h := 39) (vl := -2147483648) (vh := 2147483647) (x := Int32.ofNat a) (y := v) hM (by decide +kernel) (by omega) ⟨i32_lo _, i32_hi _⟩
  obtain ⟨z1, z2, -⟩ := yTy_arr hM (rfl : tTy 128 = some (.inl (40, 0, [])))
  rw [s1] at z2
  cases z2
  obtain ⟨n2, f2, r1, r2, r3⟩ := yTy_sa (c := 127) (l := 0) (h := 39) (vl := 0) (vh := 39) (x := Int32.ofNat a) (y := kk) s3 (by decide +kernel) (by omega) (by omega)
  obtain ⟨z1, z2, -⟩ := yTy_arr s3 (rfl : tTy 127 = some (.inl (40, 0, _)))
  rw [r1] at z2
  cases z2
  have hfr1 := yFr_upd (x := v) hfr s1 (k := (Int32.ofNat a).toInt.toNat) ⟨(128, 0, 39, 1, 0), by simp, rfl, by show (0 : Int) ≤ _; omega, by show _ ≤ (39 : Int); omega, by show _ % (1 : Int) = 0; omega⟩
  have hfr2 := yFr_upd (x := kk) hfr1 r1 (k := (Int32.ofNat a).toInt.toNat) ⟨(127, 0, 39, 1, 0), by simp, rfl, by show (0 : Int) ≤ _; omega, by show _ ≤ (39 : Int); omega, by show _ % (1 : Int) = 0; omega⟩
  refine e_then (e_al1 hT (y := 296) (pc := 107) (q := (yX12_findRow, cX12_findRow, 6, (some .int), 12)) rfl (show aTab 296 107 = some (.aload_n 0, 1, 0, 0, 0, 0, 0, 0) from rfl) rfl l0) ?_
  refine e_then (e_getR hT (y := 296) (pc := 108) (q := (yX12_findRow, cX12_findRow, 6, (some .int), 12)) rfl (show aTab 296 108 = some (.getfield 34, 3, 0, 12, 12, 0, 0, 0) from rfl) rfl (by decide) (by decide) hM rfl rfl) ?_
  refine e_then (e_il2 hT (y := 296) (pc := 111) (q := (yX12_findRow, cX12_findRow, 6, (some .int), 12)) rfl (show aTab 296 111 = some (.iload 5, 2, 0, 0, 0, 0, 0, 0) from rfl) rfl l5) ?_
  refine e_then (e_il2 hT (y := 296) (pc := 113) (q := (yX12_findRow, cX12_findRow, 6, (some .int), 12)) rfl (show aTab 296 113 = some (.iload 4, 2, 0, 0, 0, 0, 0, 0) from rfl) rfl l4) ?_
  refine e_then (e_ast hT (y := 296) (pc := 115) (q := (yX12_findRow, cX12_findRow, 6, (some .int), 12)) rfl (show aTab 296 115 = some (.iastore, 1, 0, 0, 0, 0, 0, 0) from rfl) ⟨rfl, by omega⟩ s1 s2) ?_
  refine e_then (e_al1 hT (y := 296) (pc := 116) (q := (yX12_findRow, cX12_findRow, 6, (some .int), 12)) rfl (show aTab 296 116 = some (.aload_n 0, 1, 0, 0, 0, 0, 0, 0) from rfl) rfl l0) ?_
  refine e_then (e_getR hT (y := 296) (pc := 117) (q := (yX12_findRow, cX12_findRow, 6, (some .int), 12)) rfl (show aTab 296 117 = some (.getfield 31, 3, 0, 12, 11, 0, 0, 0) from rfl) rfl (by decide) (by decide) s3 rfl rfl) ?_
  refine e_then (e_il2 hT (y := 296) (pc := 120) (q := (yX12_findRow, cX12_findRow, 6, (some .int), 12)) rfl (show aTab 296 120 = some (.iload 5, 2, 0, 0, 0, 0, 0, 0) from rfl) rfl l5) ?_
  refine e_then (e_il1 hT (y := 296) (pc := 122) (q := (yX12_findRow, cX12_findRow, 6, (some .int), 12)) rfl (show aTab 296 122 = some (.iload_n 3, 1, 0, 0, 0, 0, 0, 0) from rfl) rfl l3) ?_
  refine e_then (e_ast hT (y := 296) (pc := 123) (q := (yX12_findRow, cX12_findRow, 6, (some .int), 12)) rfl (show aTab 296 123 = some (.iastore, 1, 0, 0, 0, 0, 0, 0) from rfl) ⟨rfl, by omega⟩ r1 r2) ?_
  refine e_then (e_ii hT (y := 296) (pc := 124) (q := (yX12_findRow, cX12_findRow, 6, (some .int), 12)) rfl (show aTab 296 124 = some (.iinc 2 1, 3, 0, 0, 0, 0, 0, 0) from rfl) ⟨rfl, by decide⟩ l2) ?_
  refine hk2 _ _ r3 hfr2 (fun j hj => gdAt_set r1 (by omega) (fun e => hg) (fun e => ?_)) (mlg_r l0 (by decide)) (mlg_i l1 (by decide)) (mlg_eq 2 _ _) (mlg_i l3 (by decide))
  exact gdAt_ne s1 (by decide) (hgd j (by omega) (fun q => e (by rw [ea2]; exact q)))
theorem row_in (hT : aTabOk) {M0 : mHe} {kk : Int32} {n k : Nat} (hkk : kk.toInt = (k : Int)) (hn : n ≤ k) (hk : k ≤ 39) (hg : gd M0 kk) {t v : Int32} {Q : Option Value → mHe → Prop} : ∀ (a : Nat) (M : mHe) (lv : List (Nat × Value)), a ≤ n → yTy M → yFr rwW M0 M → (∀ j, j ≤ n → j ≠ a → gdAt M0 M j) → mlg 0 lv = some (.ref 128) → mlg 1 lv = some (.int t) → mlg 2 lv = some (.int (Int32.ofNat n)) → mlg 3 lv = some (.int kk) → mlg 4 lv = some (.int v) → mlg 5 lv = some (.int (Int32.ofNat a)) → (∀ lv' M', yTy M' → yFr rwW M0 M' → (∀ j, j < n + 1 → gdAt M0 M' j) → mlg 0 lv' = some (.ref 128) → mlg 1 lv' = some (.int t) → mlg 2 lv' = some (.int (Int32.ofNat n + Int32.ofInt 1)) → mlg 3 lv' = some (.int kk) → mEv none 6 (296, 127, lv', []) M' Q) → mEv none 6 (296, 50, lv, []) M Q := by
  intro a
  induction a with
  | zero =>
    intro M lv ha hM hfr hgd l0 l1 l2 l3 l4 l5 hk2
    refine e_then (e_il2 hT (y := 296) (pc := 50) (q := (yX12_findRow, cX12_findRow, 6, (some .int), 12)) rfl (show aTab 296 50 = some (.iload 5, 2, 0, 0, 0, 0, 0, 0) from rfl) rfl l5) ?_
    refine e_then (e_ifT hT (y := 296) (pc := 52) (q := (yX12_findRow, cX12_findRow, 6, (some .int), 12)) rfl (show aTab 296 52 = some (.ifCond .le 55, 3, 0, 0, 0, 0, 0, 0) from rfl) rfl (t := 107) rfl (cdT (by rw [i32n (by omega)]; show (0 : Int) ≤ 0; omega))) ?_
    exact row_out hT hkk hn hk hg ha hM hfr hgd l0 l1 l2 l3 l4 l5 hk2
  | succ a ih =>
    intro M lv ha hM hfr hgd l0 l1 l2 l3 l4 l5 hk2
    have ea := i32n (k := a + 1) (by omega)
    have eb := i32n (k := a) (by omega)
    have e1 : (1 : Int32).toInt = 1 := rfl
    have em : Int32.ofNat (a + 1) - 1 = Int32.ofNat a := i32eq (by rw [i32_sub (by rw [ea, e1]; omega) (by rw [ea, e1]; omega), ea, eb, e1]; omega)
    obtain ⟨f0, hf0, -⟩ := yTy_arr hM (rfl : tTy 128 = some (.inl (40, 0, [])))
    have hx0 : 0 ≤ (Int32.ofNat (a + 1) - 1).toInt ∧ (Int32.ofNat (a + 1) - 1).toInt < (40 : Nat) := by rw [em, eb]; omega
    refine e_then (e_il2 hT (y := 296) (pc := 50) (q := (yX12_findRow, cX12_findRow, 6, (some .int), 12)) rfl (show aTab 296 50 = some (.iload 5, 2, 0, 0, 0, 0, 0, 0) from rfl) rfl l5) ?_
    refine e_then (e_ifF hT (y := 296) (pc := 52) (q := (yX12_findRow, cX12_findRow, 6, (some .int), 12)) rfl (show aTab 296 52 = some (.ifCond .le 55, 3, 0, 0, 0, 0, 0, 0) from rfl) rfl (t := 107) rfl (cdF (by rw [ea]; show ¬ ((a + 1 : Nat) : Int) ≤ (0 : Int); omega))) ?_
    refine e_then (e_al1 hT (y := 296) (pc := 55) (q := (yX12_findRow, cX12_findRow, 6, (some .int), 12)) rfl (show aTab 296 55 = some (.aload_n 0, 1, 0, 0, 0, 0, 0, 0) from rfl) rfl l0) ?_
    refine e_then (e_getR hT (y := 296) (pc := 56) (q := (yX12_findRow, cX12_findRow, 6, (some .int), 12)) rfl (show aTab 296 56 = some (.getfield 34, 3, 0, 12, 12, 0, 0, 0) from rfl) rfl (by decide) (by decide) hM rfl rfl) ?_
    refine e_then (e_il2 hT (y := 296) (pc := 59) (q := (yX12_findRow, cX12_findRow, 6, (some .int), 12)) rfl (show aTab 296 59 = some (.iload 5, 2, 0, 0, 0, 0, 0, 0) from rfl) rfl l5) ?_
    refine e_then (e_st hT (y := 296) (pc := 61) (q := (yX12_findRow, cX12_findRow, 6, (some .int), 12)) rfl (show aTab 296 61 = some (.iconst 1, 1, 0, 0, 0, 0, 0, 0) from rfl) (fr' := (296, 62, lv, [.int 1, .int (Int32.ofNat (a + 1)), .ref 137])) (M' := M) rfl) ?_
    refine e_then (e_st hT (y := 296) (pc := 62) (q := (yX12_findRow, cX12_findRow, 6, (some .int), 12)) rfl (show aTab 296 62 = some (.isub, 1, 0, 0, 0, 0, 0, 0) from rfl) (fr' := (296, 63, lv, [.int ((Int32.ofNat (a + 1)) - 1), .ref 137])) (M' := M) rfl) ?_
    refine e_then (e_ald hT (y := 296) (pc := 63) (q := (yX12_findRow, cX12_findRow, 6, (some .int), 12)) rfl (show aTab 296 63 = some (.iaload, 1, 0, 0, 0, 0, 0, 0) from rfl) ⟨rfl, by omega⟩ hf0 hx0) ?_
    refine e_then (e_il2 hT (y := 296) (pc := 64) (q := (yX12_findRow, cX12_findRow, 6, (some .int), 12)) rfl (show aTab 296 64 = some (.iload 4, 2, 0, 0, 0, 0, 0, 0) from rfl) rfl l4) ?_
    by_cases hc : v.toInt ≤ (f0 (Int32.ofNat (a + 1) - 1).toInt.toNat).toInt
    · refine e_then (e_icT hT (y := 296) (pc := 66) (q := (yX12_findRow, cX12_findRow, 6, (some .int), 12)) rfl (show aTab 296 66 = some (.if_icmp .ge 41, 3, 0, 0, 0, 0, 0, 0) from rfl) rfl (t := 107) rfl (cdT (by show v.toInt ≤ _; exact hc))) ?_
      exact row_out hT hkk hn hk hg ha hM hfr hgd l0 l1 l2 l3 l4 l5 hk2
    · obtain ⟨n1, f1, s1, s2, s3⟩ := yTy_sa (c := 128) (l := 0) (h := 39) (vl := -2147483648) (vh := 2147483647) (x := Int32.ofNat (a + 1)) (y := f0 (Int32.ofNat (a + 1) - 1).toInt.toNat) hM (by decide +kernel) (by omega) ⟨i32_lo _, i32_hi _⟩
      rw [hf0] at s1
      cases s1
      obtain ⟨f2, hf2, hf2t, -⟩ := yTy_arr s3 (rfl : tTy 127 = some (.inl (40, 0, [(0, 39, 1, [(0, 39)])])))
      obtain ⟨c, c1, c2⟩ := gdAt_ne (a := (Int32.ofNat (a + 1)).toInt.toNat) (x := f0 (Int32.ofNat (a + 1) - 1).toInt.toNat) hf0 (by decide) (hgd a (by omega) (by omega))
      rw [yRd_arr _ (by decide) hf2 (by omega)] at c1
      have c1 : f2 a = c := by cases c1; rfl
      have c3 : f2 (Int32.ofNat (a + 1) - 1).toInt.toNat = c := by rw [em, eb]; exact c1
      obtain ⟨n2, f3, r1, r2, r3⟩ := yTy_sa (c := 127) (l := 0) (h := 39) (vl := 0) (vh := 39) (x := Int32.ofNat (a + 1)) (y := c) s3 (by decide +kernel) (by omega) c2.1
      rw [hf2] at r1
      cases r1
      have hfr1 := yFr_upd (x := f0 (Int32.ofNat (a + 1) - 1).toInt.toNat) hfr hf0 (k := (Int32.ofNat (a + 1)).toInt.toNat) ⟨(128, 0, 39, 1, 0), by simp, rfl, by show (0 : Int) ≤ _; omega, by show _ ≤ (39 : Int); omega, by show _ % (1 : Int) = 0; omega⟩
      have hfr2 := yFr_upd (x := c) hfr1 hf2 (k := (Int32.ofNat (a + 1)).toInt.toNat) ⟨(127, 0, 39, 1, 0), by simp, rfl, by show (0 : Int) ≤ _; omega, by show _ ≤ (39 : Int); omega, by show _ % (1 : Int) = 0; omega⟩
      have ea2 : (Int32.ofNat (a + 1)).toInt.toNat = a + 1 := by rw [ea]; omega
      refine e_then (e_icF hT (y := 296) (pc := 66) (q := (yX12_findRow, cX12_findRow, 6, (some .int), 12)) rfl (show aTab 296 66 = some (.if_icmp .ge 41, 3, 0, 0, 0, 0, 0, 0) from rfl) rfl (t := 107) rfl (cdF (by show ¬ v.toInt ≤ _; exact hc))) ?_
      refine e_then (e_al1 hT (y := 296) (pc := 69) (q := (yX12_findRow, cX12_findRow, 6, (some .int), 12)) rfl (show aTab 296 69 = some (.aload_n 0, 1, 0, 0, 0, 0, 0, 0) from rfl) rfl l0) ?_
      refine e_then (e_getR hT (y := 296) (pc := 70) (q := (yX12_findRow, cX12_findRow, 6, (some .int), 12)) rfl (show aTab 296 70 = some (.getfield 34, 3, 0, 12, 12, 0, 0, 0) from rfl) rfl (by decide) (by decide) hM rfl rfl) ?_
      refine e_then (e_il2 hT (y := 296) (pc := 73) (q := (yX12_findRow, cX12_findRow, 6, (some .int), 12)) rfl (show aTab 296 73 = some (.iload 5, 2, 0, 0, 0, 0, 0, 0) from rfl) rfl l5) ?_
      refine e_then (e_al1 hT (y := 296) (pc := 75) (q := (yX12_findRow, cX12_findRow, 6, (some .int), 12)) rfl (show aTab 296 75 = some (.aload_n 0, 1, 0, 0, 0, 0, 0, 0) from rfl) rfl l0) ?_
      refine e_then (e_getR hT (y := 296) (pc := 76) (q := (yX12_findRow, cX12_findRow, 6, (some .int), 12)) rfl (show aTab 296 76 = some (.getfield 34, 3, 0, 12, 12, 0, 0, 0) from rfl) rfl (by decide) (by decide) hM rfl rfl) ?_
      refine e_then (e_il2 hT (y := 296) (pc := 79) (q := (yX12_findRow, cX12_findRow, 6, (some .int), 12)) rfl (show aTab 296 79 = some (.iload 5, 2, 0, 0, 0, 0, 0, 0) from rfl) rfl l5) ?_
      refine e_then (e_st hT (y := 296) (pc := 81) (q := (yX12_findRow, cX12_findRow, 6, (some .int), 12)) rfl (show aTab 296 81 = some (.iconst 1, 1, 0, 0, 0, 0, 0, 0) from rfl) (fr' := (296, 82, lv, [.int 1, .int (Int32.ofNat (a + 1)), .ref 137, .int (Int32.ofNat (a + 1)), .ref 137])) (M' := M) rfl) ?_
      refine e_then (e_st hT (y := 296) (pc := 82) (q := (yX12_findRow, cX12_findRow, 6, (some .int), 12)) rfl (show aTab 296 82 = some (.isub, 1, 0, 0, 0, 0, 0, 0) from rfl) (fr' := (296, 83, lv, [.int ((Int32.ofNat (a + 1)) - 1), .ref 137, .int (Int32.ofNat (a + 1)), .ref 137])) (M' := M) rfl) ?_
      refine e_then (e_ald hT (y := 296) (pc := 83) (q := (yX12_findRow, cX12_findRow, 6, (some .int), 12)) rfl (show aTab 296 83 = some (.iaload, 1, 0, 0, 0, 0, 0, 0) from rfl) ⟨rfl, by omega⟩ hf0 hx0) ?_
      refine e_then (e_ast hT (y := 296) (pc := 84) (q := (yX12_findRow, cX12_findRow, 6, (some .int), 12)) rfl (show aTab 296 84 = some (.iastore, 1, 0, 0, 0, 0, 0, 0) from rfl) ⟨rfl, by omega⟩ hf0 s2) ?_
      refine e_then (e_al1 hT (y := 296) (pc := 85) (q := (yX12_findRow, cX12_findRow, 6, (some .int), 12)) rfl (show aTab 296 85 = some (.aload_n 0, 1, 0, 0, 0, 0, 0, 0) from rfl) rfl l0) ?_
      refine e_then (e_getR hT (y := 296) (pc := 86) (q := (yX12_findRow, cX12_findRow, 6, (some .int), 12)) rfl (show aTab 296 86 = some (.getfield 31, 3, 0, 12, 11, 0, 0, 0) from rfl) rfl (by decide) (by decide) s3 rfl rfl) ?_
      refine e_then (e_il2 hT (y := 296) (pc := 89) (q := (yX12_findRow, cX12_findRow, 6, (some .int), 12)) rfl (show aTab 296 89 = some (.iload 5, 2, 0, 0, 0, 0, 0, 0) from rfl) rfl l5) ?_
      refine e_then (e_al1 hT (y := 296) (pc := 91) (q := (yX12_findRow, cX12_findRow, 6, (some .int), 12)) rfl (show aTab 296 91 = some (.aload_n 0, 1, 0, 0, 0, 0, 0, 0) from rfl) rfl l0) ?_
      refine e_then (e_getR hT (y := 296) (pc := 92) (q := (yX12_findRow, cX12_findRow, 6, (some .int), 12)) rfl (show aTab 296 92 = some (.getfield 31, 3, 0, 12, 11, 0, 0, 0) from rfl) rfl (by decide) (by decide) s3 rfl rfl) ?_
      refine e_then (e_il2 hT (y := 296) (pc := 95) (q := (yX12_findRow, cX12_findRow, 6, (some .int), 12)) rfl (show aTab 296 95 = some (.iload 5, 2, 0, 0, 0, 0, 0, 0) from rfl) rfl l5) ?_
      refine e_then (e_st hT (y := 296) (pc := 97) (q := (yX12_findRow, cX12_findRow, 6, (some .int), 12)) rfl (show aTab 296 97 = some (.iconst 1, 1, 0, 0, 0, 0, 0, 0) from rfl) (fr' := (296, 98, lv, [.int 1, .int (Int32.ofNat (a + 1)), .ref 136, .int (Int32.ofNat (a + 1)), .ref 136])) (M' := (M.set 128 (.inl (40, upd f0 (Int32.ofNat (a + 1)).toInt.toNat (f0 (Int32.ofNat (a + 1) - 1).toInt.toNat))))) rfl) ?_
      refine e_then (e_st hT (y := 296) (pc := 98) (q := (yX12_findRow, cX12_findRow, 6, (some .int), 12)) rfl (show aTab 296 98 = some (.isub, 1, 0, 0, 0, 0, 0, 0) from rfl) (fr' := (296, 99, lv, [.int ((Int32.ofNat (a + 1)) - 1), .ref 136, .int (Int32.ofNat (a + 1)), .ref 136])) (M' := (M.set 128 (.inl (40, upd f0 (Int32.ofNat (a + 1)).toInt.toNat (f0 (Int32.ofNat (a + 1) - 1).toInt.toNat))))) rfl) ?_
      refine e_then (e_ald hT (y := 296) (pc := 99) (q := (yX12_findRow, cX12_findRow, 6, (some .int), 12)) rfl (show aTab 296 99 = some (.iaload, 1, 0, 0, 0, 0, 0, 0) from rfl) ⟨rfl, by omega⟩ hf2 hx0) ?_
      rw [c3]
      refine e_then (e_ast hT (y := 296) (pc := 100) (q := (yX12_findRow, cX12_findRow, 6, (some .int), 12)) rfl (show aTab 296 100 = some (.iastore, 1, 0, 0, 0, 0, 0, 0) from rfl) ⟨rfl, by omega⟩ hf2 r2) ?_
      refine e_then (e_ii hT (y := 296) (pc := 101) (q := (yX12_findRow, cX12_findRow, 6, (some .int), 12)) rfl (show aTab 296 101 = some (.iinc 5 (-1), 3, 0, 0, 0, 0, 0, 0) from rfl) ⟨rfl, by decide⟩ l5) ?_
      refine e_then (e_st hT (y := 296) (pc := 104) (q := (yX12_findRow, cX12_findRow, 6, (some .int), 12)) rfl (show aTab 296 104 = some (.goto (-54), 3, 0, 0, 0, 0, 0, 0) from rfl) (fr' := (296, 50, _, [])) (M' := _) rfl) ?_
      have es : Int32.ofNat (a + 1) + Int32.ofInt (-1) = Int32.ofNat a := i32eq (by
        have e2 : (Int32.ofInt (-1)).toInt = -1 := rfl
        rw [i32_add (by rw [ea, e2]; omega) (by rw [ea, e2]; omega), ea, eb, e2]; omega)
      rw [es]
      refine ih _ _ (by omega) r3 hfr2 (fun j hj hja => gdAt_set hf2 (by omega) (fun e => c2) (fun e => gdAt_ne hf0 (by decide) (hgd j hj (fun q => e (by rw [ea2]; exact q))))) (mlg_r l0 (by decide)) (mlg_i l1 (by decide)) (mlg_i l2 (by decide)) (mlg_i l3 (by decide)) (mlg_i l4 (by decide)) (mlg_eq 5 _ _) hk2
/-! HAND: the row of changes, its turns -/
def tWk : tCt := (324, [(0, 128, 0, 0), (1, 0, 0, 11)], some (-2147483648, 2147483647), [(131, 0, 99, 1, 0)], 2, [], [])
def rwK : tKt := (fun y pc => bif Nat.beq y 296 && (Nat.beq pc 133 || Nat.beq pc 127 || Nat.beq pc 47) then some (.inr none) else none, [tWk])
def rwA : Bool := tCk rwK 600 6 [[(131, 0, 99, 1, 0), (130, 0, 127, 1, 0)]] (296, 11, [(0, kR 128), (1, (4, 0, 0, 0)), (2, (4, 1, 0, 0)), (3, (4, 2, 0, 0))], [(4, 2, 0, 0)]) [] ([(-1, 11), (0, 40), (0, 40)], []) (fun lf => lAt 296 133 [] [(0, kR 128), (1, (4, 0, 0, 0)), (2, (4, 1, 0, 0)), (3, (4, 2, 0, 0))] lf || (lAt 296 127 [] [(0, kR 128), (1, (4, 0, 0, 0)), (2, (4, 1, 0, 0)), (3, (4, 2, 0, 0))] lf && lL 3 0 39 lf) || (lAt 296 47 [] [(0, kR 128), (1, (4, 0, 0, 0)), (2, (4, 1, 0, 0)), (3, (4, 2, 0, 0))] lf && lL 3 0 39 lf && lL 4 (-2147483648) 2147483647 lf && lFp (120, 2, 160, 10) 2 3 lf && lRelG 120 5 (4, 2, 0, 0) 1 lf))
theorem rwA_ok : rwA = true := by decide +kernel
theorem row_loop (hT : aTabOk) {M0 : mHe} {t : Int32} (ht : -1 ≤ t.toInt ∧ t.toInt ≤ 11) : ∀ (j n k : Nat) (M : mHe) (lv : List (Nat × Value)), k + j = 40 → n ≤ k → yTy M → yFr rwW M0 M → (∀ i, i < n → gdAt M0 M i) → mlg 0 lv = some (.ref 128) → mlg 1 lv = some (.int t) → mlg 2 lv = some (.int (Int32.ofNat n)) → mlg 3 lv = some (.int (Int32.ofNat k)) → mEv none 6 (296, 10, lv, []) M (fun r M' => ∃ n' : Nat, r = some (.int (Int32.ofNat n')) ∧ n' ≤ 40 ∧ yTy M' ∧ yFr rwW M0 M' ∧ ∀ i, i < n' → gdAt M0 M' i) := by
  intro j
  induction j with
  | zero => ?_
  | succ j ih => ?_
  all_goals
    intro n k M lv hj hn hM hfr hgd l0 l1 l2 l3
    have en := i32n (k := n) (by omega)
    have ek := i32n (k := k) (by omega)
    have e1 : (Int32.ofInt 1).toInt = 1 := rfl
    refine e_then (e_il1 hT (y := 296) (pc := 10) (q := (yX12_findRow, cX12_findRow, 6, (some .int), 12)) rfl (show aTab 296 10 = some (.iload_n 3, 1, 0, 0, 0, 0, 0, 0) from rfl) rfl l3) ?_
    have hA := rwA_ok
    unfold rwA at hA
    have hE : xE [t.toInt, (Int32.ofNat n).toInt, (Int32.ofNat k).toInt] ([(-1, 11), (0, 40), (0, 40)], []) := by
      refine xE_of_list rfl (fun i l u e hb he => ?_)
      match i with
      | 0 => cases hb; cases he; exact ⟨ht, i32_lo _, i32_hi _⟩
      | 1 => cases hb; cases he; exact ⟨by omega, i32_lo _, i32_hi _⟩
      | 2 => cases hb; cases he; exact ⟨by omega, i32_lo _, i32_hi _⟩
      | i + 3 => simp at hb
    have hL : yLv [t.toInt, (Int32.ofNat n).toInt, (Int32.ofNat k).toInt] [(0, kR 128), (1, (4, 0, 0, 0)), (2, (4, 1, 0, 0)), (3, (4, 2, 0, 0))] lv := yLv_cons l0 (yV_kR _ _) (yLv_cons l1 (yV_atom rfl) (yLv_cons l2 (yV_atom rfl) (yLv_cons l3 (yV_atom rfl) (yLv_nil _ _))))
    obtain ⟨lf, f1, f2⟩ := tSegC (xs := x00) hT (fun ct hct => by rw [List.mem_singleton.mp hct]; exact hand_worked hT) hA hE hL (cst := [.int (Int32.ofNat k)]) ⟨yV_atom rfl, trivial⟩ ⟨hM, fun q hq => by cases hq⟩
    simp only [Bool.or_eq_true, Bool.and_eq_true] at f1
    have hW : ∀ {M' : mHe}, (∀ W ∈ ([[(131, 0, 99, 1, 0), (130, 0, 127, 1, 0)]] : List (List tG)), yFr W M M') → yFr rwW M0 M' ∧ ∀ i, i < n → gdAt M0 M' i := fun {M'} h => by
      have h := h _ (List.mem_singleton_self _)
      refine ⟨yFr_tr hfr (yFr_sub (by decide +kernel) h), fun i hi => ?_⟩
      obtain ⟨c, c1, c2⟩ := hgd i hi
      refine ⟨c, ?_, c2⟩
      rw [h _ 127 i (fun g hg => by
        rcases List.mem_cons.mp hg with rfl | hg
        · rintro ⟨z, -⟩; cases z
        · rw [List.mem_singleton.mp hg]; rintro ⟨z, -⟩; cases z)]
      exact c1
    rcases f1 with (f1 | ⟨f1, f3⟩) | ⟨⟨⟨⟨f1, f3⟩, f4⟩, f5⟩, f6⟩
    · obtain ⟨X, lv', st', M', m1, m2, m3, m4, m5, m6, m7⟩ := lAt_ok f1 f2
      obtain ⟨h7, h8⟩ := hW m7
      obtain ⟨n', n1, n2⟩ := loc_i (k := 2) (i := 1) (a := 0) (e := (Int32.ofNat n).toInt) m4 (by simp) rfl
      have hn' : n' = Int32.ofNat n := i32eq (by omega)
      subst hn'
      have g0 : mlg 0 lv' = some (.ref 128) := loc_r m4 (by simp)
      have hst := yS_nil m3
      subst hst
      refine e_then m2 ?_
      refine e_then (e_il1 hT (y := 296) (pc := 133) (q := (yX12_findRow, cX12_findRow, 6, (some .int), 12)) rfl (show aTab 296 133 = some (.iload_n 2, 1, 0, 0, 0, 0, 0, 0) from rfl) rfl n1) ?_
      exact e_fin (e_iret hT (y := 296) (pc := 134) (q := (yX12_findRow, cX12_findRow, 6, (some .int), 12)) rfl (show aTab 296 134 = some (.ireturn, 1, 0, 0, 0, 0, 0, 0) from rfl) ⟨rfl, rfl⟩) ⟨n, rfl, by omega, m6.1, h7, h8⟩
  · obtain ⟨X, lv', st', M', m1, m2, m3, m4, m5, m6, m7⟩ := lAt_ok f1 f2
    obtain ⟨k', k1, k2, k3⟩ := m5 _ _ _ f3
    obtain ⟨k'', q1, q2⟩ := loc_i (k := 3) (i := 2) (a := 0) (e := (Int32.ofNat k).toInt) m4 (by simp) rfl
    rw [k1] at q1
    cases q1
    omega
  · obtain ⟨X, lv', st', M', m1, m2, m3, m4, m5, m6, m7⟩ := lAt_ok f1 f2
    obtain ⟨k', k1, k2, k3⟩ := m5 _ _ _ f3
    obtain ⟨k'', q1, q2⟩ := loc_i (k := 3) (i := 2) (a := 0) (e := (Int32.ofNat k).toInt) m4 (by simp) rfl
    rw [k1] at q1
    cases q1
    omega
  · obtain ⟨X, lv', st', M', m1, m2, m3, m4, m5, m6, m7⟩ := lAt_ok f1 f2
    obtain ⟨h7, h8⟩ := hW m7
    obtain ⟨n', n1, n2⟩ := loc_i (k := 2) (i := 1) (a := 0) (e := (Int32.ofNat n).toInt) m4 (by simp) rfl
    obtain ⟨k', k1, k2⟩ := loc_i (k := 3) (i := 2) (a := 0) (e := (Int32.ofNat k).toInt) m4 (by simp) rfl
    obtain ⟨t', t1, t2⟩ := loc_i (k := 1) (i := 0) (a := 0) (e := t.toInt) m4 (by simp) rfl
    have hn' : n' = Int32.ofNat n := i32eq (by omega)
    have hk' : k' = Int32.ofNat k := i32eq (by omega)
    have ht' : t' = t := i32eq (by omega)
    subst hn'; subst hk'; subst ht'
    have g0 : mlg 0 lv' = some (.ref 128) := loc_r m4 (by simp)
    have hst := yS_nil m3
    subst hst
    refine e_then m2 ?_
    refine e_then (e_ii hT (y := 296) (pc := 127) (q := (yX12_findRow, cX12_findRow, 6, (some .int), 12)) rfl (show aTab 296 127 = some (.iinc 3 1, 3, 0, 0, 0, 0, 0, 0) from rfl) ⟨rfl, by decide⟩ k1) ?_
    refine e_then (e_st hT (y := 296) (pc := 130) (q := (yX12_findRow, cX12_findRow, 6, (some .int), 12)) rfl (show aTab 296 130 = some (.goto (-120), 3, 0, 0, 0, 0, 0, 0) from rfl) (fr' := (296, 10, _, [])) (M' := _) rfl) ?_
    have es : Int32.ofNat k + Int32.ofInt 1 = Int32.ofNat (k + 1) := i32eq (by rw [i32_add (by rw [ek, e1]; omega) (by rw [ek, e1]; omega), ek, e1, i32n (by omega)]; omega)
    rw [es]
    exact ih n (k + 1) M' _ (by omega) (by omega) m6.1 h7 h8 (mlg_r g0 (by decide)) (mlg_i t1 (by decide)) (mlg_i n1 (by decide)) (mlg_eq 3 _ _)
  · obtain ⟨X, lv', st', M', m1, m2, m3, m4, m5, m6, m7⟩ := lAt_ok f1 f2
    obtain ⟨h7, h8⟩ := hW m7
    obtain ⟨n', n1, n2⟩ := loc_i (k := 2) (i := 1) (a := 0) (e := (Int32.ofNat n).toInt) m4 (by simp) rfl
    obtain ⟨k', k1, k2⟩ := loc_i (k := 3) (i := 2) (a := 0) (e := (Int32.ofNat k).toInt) m4 (by simp) rfl
    obtain ⟨t', t1, t2⟩ := loc_i (k := 1) (i := 0) (a := 0) (e := t.toInt) m4 (by simp) rfl
    have hn' : n' = Int32.ofNat n := i32eq (by omega)
    have hk' : k' = Int32.ofNat k := i32eq (by omega)
    have ht' : t' = t := i32eq (by omega)
    subst hn'; subst hk'; subst ht'
    have g0 : mlg 0 lv' = some (.ref 128) := loc_r m4 (by simp)
    have hst := yS_nil m3
    subst hst
    refine e_then m2 ?_
    obtain ⟨v, v1, v2, v3⟩ := m5 _ _ _ f4
    obtain ⟨z, z1, z2, z3⟩ := lFp_ok (k := 160 + 10 * k) f5 m1 m6 (show (some ((Int32.ofNat k).toInt * Int.ofNat 10 + 160) : Option Int) = some ((160 + 10 * k : Nat) : Int) from congrArg some (by rw [ek]; show (k : Int) * 10 + 160 = _; omega))
    have z1 : yRd x00 M' 120 (160 + 10 * k) = some (.int z) := z1
    obtain ⟨mm, mm1, mm2⟩ := lRelG_ok (k := 5) f6 m1 m6 (show yN _ (4, 2, 0, 0) (k : Int) from ⟨(k : Int), get_app (by rw [← ek]; rfl), by omega⟩)
    have hs0 : ∀ i, yRd x00 M' 120 i = yRd x00 M0 120 i := fun i => h7 _ _ _ (fun g hg => by
      simp only [rwW, List.mem_cons, List.not_mem_nil, or_false] at hg
      rcases hg with rfl | rfl | rfl | rfl <;> (rintro ⟨q, -⟩; cases q))
    have hgk : gd M0 (Int32.ofNat k) := ⟨by omega, z, by rw [ek, ← z1, hs0]; rfl, ⟨z2, z3⟩, mm, by rw [← hs0]; exact mm1, by omega⟩
    refine e_then (e_il1 hT (y := 296) (pc := 47) (q := (yX12_findRow, cX12_findRow, 6, (some .int), 12)) rfl (show aTab 296 47 = some (.iload_n 2, 1, 0, 0, 0, 0, 0, 0) from rfl) rfl n1) ?_
    refine e_then (e_is2 hT (y := 296) (pc := 48) (q := (yX12_findRow, cX12_findRow, 6, (some .int), 12)) rfl (show aTab 296 48 = some (.istore 5, 2, 0, 0, 0, 0, 0, 0) from rfl) ⟨rfl, by decide⟩) ?_
    refine row_in hT ek hn (by omega) hgk n M' _ (Nat.le_refl n) m6.1 h7 (fun i hi hne => h8 i (by omega)) (mlg_r g0 (by decide)) (mlg_i t1 (by decide)) (mlg_i n1 (by decide)) (mlg_i k1 (by decide)) (mlg_i v1 (by decide)) (mlg_eq 5 _ _) ?_
    intro lv2 M2 p1 p2 p3 p4 p5 p6 p7
    have en2 : Int32.ofNat n + Int32.ofInt 1 = Int32.ofNat (n + 1) := i32eq (by rw [i32_add (by rw [en, e1]; omega) (by rw [en, e1]; omega), en, e1, i32n (by omega)]; omega)
    rw [en2] at p6
    refine e_then (e_ii hT (y := 296) (pc := 127) (q := (yX12_findRow, cX12_findRow, 6, (some .int), 12)) rfl (show aTab 296 127 = some (.iinc 3 1, 3, 0, 0, 0, 0, 0, 0) from rfl) ⟨rfl, by decide⟩ p7) ?_
    refine e_then (e_st hT (y := 296) (pc := 130) (q := (yX12_findRow, cX12_findRow, 6, (some .int), 12)) rfl (show aTab 296 130 = some (.goto (-120), 3, 0, 0, 0, 0, 0, 0) from rfl) (fr' := (296, 10, _, [])) (M' := _) rfl) ?_
    have es : Int32.ofNat k + Int32.ofInt 1 = Int32.ofNat (k + 1) := i32eq (by rw [i32_add (by rw [ek, e1]; omega) (by rw [ek, e1]; omega), ek, e1, i32n (by omega)]; omega)
    rw [es]
    exact ih (n + 1) (k + 1) M2 _ (by omega) (by omega) p1 p2 p3 (mlg_r p4 (by decide)) (mlg_i p5 (by decide)) (mlg_i p6 (by decide)) (mlg_eq 3 _ _)
/-- all that is known of the row behind findRow -/
theorem row_run (hT : aTabOk) {t : Int32} {M M1 : mHe} {N1 : Nat} (hM : yTy M) (hc : mRun none N1 5 (321, 0, lv_args 0 [.ref 128, .int 2], []) M = some (some (.int t), M1)) (hM1 : yTy M1) (hfr : yFr [] M M1) (ht : -1 ≤ t.toInt ∧ t.toInt ≤ 11) : mEv none 6 (296, 0, lv_args 0 [.ref 128], []) M (fun r M' => ∃ n' : Nat, r = some (.int (Int32.ofNat n')) ∧ n' ≤ 40 ∧ yTy M' ∧ yFr rwW M1 M' ∧ ∀ i, i < n' → gdAt M1 M' i) := by
  obtain ⟨fo, hmo, -⟩ := yTy_obj hM (rfl : tTy 119 = some (.inr (12, _)))
  refine e_then (e_al1 hT (y := 296) (pc := 0) (q := (yX12_findRow, cX12_findRow, 6, (some .int), 12)) rfl (show aTab 296 0 = some (.aload_n 0, 1, 0, 0, 0, 0, 0, 0) from rfl) rfl rfl) ?_
  refine e_then (e_st hT (y := 296) (pc := 1) (q := (yX12_findRow, cX12_findRow, 6, (some .int), 12)) rfl (show aTab 296 1 = some (.iconst 2, 1, 0, 0, 0, 0, 0, 0) from rfl) (fr' := (296, 2, (lv_args 0 [.ref 128]), [.int 2, .ref 128])) (M' := M) rfl) ?_
  refine e_then (e_call hT (y := 296) (pc := 2) (q := (yX12_findRow, cX12_findRow, 6, (some .int), 12)) rfl (show aTab 296 2 = some (.invokevirtual 182, 3, 1, 321, 0, 1, 5, 12) from rfl) rfl ⟨by decide, Nat.le_of_ble_eq_true rfl⟩ hmo (Nat.le_of_ble_eq_true rfl) (Nat.le_of_ble_eq_true rfl) ⟨by decide, by decide⟩ hc) ?_
  refine e_then (e_is1 hT (y := 296) (pc := 5) (q := (yX12_findRow, cX12_findRow, 6, (some .int), 12)) rfl (show aTab 296 5 = some (.istore_n 1, 1, 0, 0, 0, 0, 0, 0) from rfl) ⟨rfl, by decide⟩) ?_
  refine e_then (e_st hT (y := 296) (pc := 6) (q := (yX12_findRow, cX12_findRow, 6, (some .int), 12)) rfl (show aTab 296 6 = some (.iconst 0, 1, 0, 0, 0, 0, 0, 0) from rfl) (fr' := (296, 7, (mlp 1 (.int t) (lv_args 0 [.ref 128])), [.int 0])) (M' := M1) rfl) ?_
  refine e_then (e_is1 hT (y := 296) (pc := 7) (q := (yX12_findRow, cX12_findRow, 6, (some .int), 12)) rfl (show aTab 296 7 = some (.istore_n 2, 1, 0, 0, 0, 0, 0, 0) from rfl) ⟨rfl, by decide⟩) ?_
  refine e_then (e_st hT (y := 296) (pc := 8) (q := (yX12_findRow, cX12_findRow, 6, (some .int), 12)) rfl (show aTab 296 8 = some (.iconst 0, 1, 0, 0, 0, 0, 0, 0) from rfl) (fr' := (296, 9, (mlp 2 (.int 0) (mlp 1 (.int t) (lv_args 0 [.ref 128]))), [.int 0])) (M' := M1) rfl) ?_
  refine e_then (e_is1 hT (y := 296) (pc := 9) (q := (yX12_findRow, cX12_findRow, 6, (some .int), 12)) rfl (show aTab 296 9 = some (.istore_n 3, 1, 0, 0, 0, 0, 0, 0) from rfl) ⟨rfl, by decide⟩) ?_
  exact row_loop hT ht 40 0 0 M1 _ (by omega) (Nat.le_refl 0) hM1 (yFr_rf _ _) (fun i hi => absurd hi (by omega)) (mlg_r (mlg_r (mlg_r rfl (by decide)) (by decide)) (by decide)) (mlg_i (mlg_i (mlg_eq 1 _ _) (by decide)) (by decide)) (mlg_i (mlg_eq 2 _ _) (by decide)) (mlg_eq 3 _ _)
/-! HAND: findRow, first -/
theorem row_end (hT : aTabOk) (hC : tCtOk (321, [(0, 128, 0, 0), (1, 0, (-2147483648), 2147483647)], some ((-1), 11), [], 1, [], [])) {M : mHe} (hM : yTy M) : mEv none 6 (296, 0, lv_args 0 [.ref 128], []) M (fun r M' => ∃ n' : Nat, r = some (.int (Int32.ofNat n')) ∧ n' ≤ 40 ∧ yTy M' ∧ yFr rwW M M' ∧ ∀ i, i < n' → gdAt M' M' i) := by
  obtain ⟨N, r, M1, h1, h2, h3, ⟨x, rfl, x1, x2⟩, -⟩ := hC M [.ref 128, .int 2] 5 hM ⟨rfl, ⟨2, rfl, by decide, by decide⟩, trivial⟩ (by decide) (fun p hp => by cases hp)
  obtain ⟨N2, r2, M2, g1, n', g2, g3, g4, g5, g6⟩ := row_run hT hM h1 h2 h3 ⟨x1, x2⟩
  refine ⟨N2, r2, M2, g1, n', g2, g3, g4, yFr_tr (fun xs c k hn => yFr_nil h3 c k) g5, fun i hi => ?_⟩
  obtain ⟨c, c1, c2, z, c3, c4, m, c5, c6⟩ := g6 i hi
  have h120 : ∀ k, yRd x00 M2 120 k = yRd x00 M1 120 k := fun k => g5 x00 120 k (fun g hg => by
      simp only [rwW, List.mem_cons, List.not_mem_nil, or_false] at hg
      rcases hg with rfl | rfl | rfl | rfl <;> (rintro ⟨q, -⟩; cases q))
  exact ⟨c, c1, c2, z, by rw [h120]; exact c3, c4, m, by rw [h120]; exact c5, c6⟩
theorem hand_row (hT : aTabOk) (hC : tCtOk (321, [(0, 128, 0, 0), (1, 0, (-2147483648), 2147483647)], some ((-1), 11), [], 1, [], [])) : tCtOk (296, [(0, 128, 0, 0)], some (0, 40), [(131, 0, 99, 1, 0), (127, 0, 39, 1, 0), (128, 0, 39, 1, 0), (130, 0, 127, 1, 0)], 6, [], []) := by
  intro M vs d hM hvs hd _
  match vs, hvs with
  | [v1], h =>
    have h1 : v1 = .ref 128 := h.1
    subst h1
    obtain ⟨N, r, M', m1, n', rfl, m2, m3, m4, -⟩ := row_end hT hC hM
    exact ⟨N, _, M', mRun_dm m1 hd, m3, m4, ⟨_, rfl, by rw [i32n (by omega)]; omega, by rw [i32n (by omega)]; omega⟩, fun ab hab => by cases hab⟩
theorem xE_more {E : List Int} {b : List (Int × Int)} {ts : List (Nat × Nat × Int)} (h : xE E (b, [])) (ht : ∀ t ∈ ts, ∃ e1 e2 : Int, E[t.1]? = some e1 ∧ E[t.2.1]? = some e2 ∧ e1 - e2 ≤ t.2.2) : xE E (b, ts) := ⟨h.1, h.2.1, h.2.2.1, ht⟩
def fsP (y pc : Nat) : Option (tAn ⊕ Option Nat) := bif Nat.beq y 329 then (bif Nat.beq pc 49 then some (.inr none) else bif Nat.beq pc 13 then some (.inl (44, [(3, 0, 40)], [], [], 0, true, [4, 5], [(132, 0, 39, 1, 0)])) else none) else tPt_ y pc
def fsB : Bool := tCk (fsP, []) 3000 8 [[(132, 0, 39, 1, 0)]] (329, 5, [(0, kR 128), (1, (4, 0, 0, 0))], []) [] ([(0, 40)], []) (fun lf => lAt 329 49 [] [(0, kR 128), (1, (4, 0, 0, 0))] lf && lL 2 (-2147483648) 2147483647 lf && lL 3 0 0 lf)
def fsC : Bool := tCk (fsP, []) 3000 8 [[(132, 0, 39, 1, 0)]] (329, 54, [(0, kR 128), (1, (4, 0, 0, 0)), (2, (4, 1, 0, 0)), (3, (4, 2, 0, 0))], []) [((127, 2, 0, 1), (4, 3, 0, 0)), ((120, 3, 160, 10), (4, 4, 0, 0)), ((120, 0, 5, 0), (4, 5, 0, 0))] ([(0, 40), (-2147483648, 2147483647), (0, 39), (0, 39), (2, 3), (0, 40)], [(3, 5, -1)]) (fun lf => lRes (-2147483648) 2147483647 lf || (lAt 329 49 [] [(0, kR 128), (1, (4, 0, 0, 0)), (3, (4, 2, 1, 0))] lf && lL 2 (-2147483648) 2147483647 lf))
theorem fsB_ok : fsB = true := by decide +kernel
theorem fsC_ok : fsC = true := by decide +kernel
theorem first_loop (hT : aTabOk) {M0 : mHe} {n : Nat} (hn : n ≤ 40) (hg0 : ∀ i, i < n → gdAt M0 M0 i) : ∀ (j i : Nat) (M : mHe) (lv : List (Nat × Value)) (l : Int32), i + j = n → yTy M → yFr [(132, 0, 39, 1, 0)] M0 M → mlg 0 lv = some (.ref 128) → mlg 1 lv = some (.int (Int32.ofNat n)) → mlg 2 lv = some (.int l) → mlg 3 lv = some (.int (Int32.ofNat i)) → mEv none 8 (329, 49, lv, []) M (fun r M' => ∃ x : Int32, r = some (.int x) ∧ yTy M' ∧ yFr [(132, 0, 39, 1, 0)] M0 M') := by
  have en := i32n (k := n) (by omega)
  intro j
  induction j with
  | zero =>
    intro i M lv l hj hM hfr l0 l1 l2 l3
    have ei := i32n (k := i) (by omega)
    refine e_then (e_il1 hT (y := 329) (pc := 49) (q := (yX12_first, cX12_first, 6, (some .int), 12)) rfl (show aTab 329 49 = some (.iload_n 3, 1, 0, 0, 0, 0, 0, 0) from rfl) rfl l3) ?_
    refine e_then (e_il1 hT (y := 329) (pc := 50) (q := (yX12_first, cX12_first, 6, (some .int), 12)) rfl (show aTab 329 50 = some (.iload_n 1, 1, 0, 0, 0, 0, 0, 0) from rfl) rfl l1) ?_
    refine e_then (e_icT hT (y := 329) (pc := 51) (q := (yX12_first, cX12_first, 6, (some .int), 12)) rfl (show aTab 329 51 = some (.if_icmp .ge 104, 3, 0, 0, 0, 0, 0, 0) from rfl) rfl (t := 155) rfl (cdT (by rw [ei, en]; show ((n : Nat) : Int) ≤ _; omega))) ?_
    refine e_then (e_st hT (y := 329) (pc := 155) (q := (yX12_first, cX12_first, 6, (some .int), 12)) rfl (show aTab 329 155 = some (.ldc 64, 2, 7, 0, (-1000000005), 0, 0, 0) from rfl) (fr' := (329, 157, lv, [.int (-1000000005)])) (M' := M) rfl) ?_
    exact e_fin (e_iret hT (y := 329) (pc := 157) (q := (yX12_first, cX12_first, 6, (some .int), 12)) rfl (show aTab 329 157 = some (.ireturn, 1, 0, 0, 0, 0, 0, 0) from rfl) ⟨rfl, rfl⟩) ⟨_, rfl, hM, hfr⟩
  | succ j ih =>
    intro i M lv l hj hM hfr l0 l1 l2 l3
    have ei := i32n (k := i) (by omega)
    refine e_then (e_il1 hT (y := 329) (pc := 49) (q := (yX12_first, cX12_first, 6, (some .int), 12)) rfl (show aTab 329 49 = some (.iload_n 3, 1, 0, 0, 0, 0, 0, 0) from rfl) rfl l3) ?_
    refine e_then (e_il1 hT (y := 329) (pc := 50) (q := (yX12_first, cX12_first, 6, (some .int), 12)) rfl (show aTab 329 50 = some (.iload_n 1, 1, 0, 0, 0, 0, 0, 0) from rfl) rfl l1) ?_
    refine e_then (e_icF hT (y := 329) (pc := 51) (q := (yX12_first, cX12_first, 6, (some .int), 12)) rfl (show aTab 329 51 = some (.if_icmp .ge 104, 3, 0, 0, 0, 0, 0, 0) from rfl) rfl (t := 155) rfl (cdF (by rw [ei, en]; show ¬ ((n : Nat) : Int) ≤ _; omega))) ?_
    obtain ⟨c, c1, ⟨c2, c3⟩, z, z1, ⟨z2, z3⟩, m, mm1, mm2⟩ := hg0 i (by omega)
    have c1 : yRd x00 M 127 i = some (.int c) := by rw [hfr _ _ _ (fun g hg => by rw [List.mem_singleton.mp hg]; rintro ⟨q, -⟩; cases q)]; exact c1
    have z1 : yRd x00 M 120 (160 + 10 * c.toInt.toNat) = some (.int z) := by rw [hfr _ _ _ (fun g hg => by rw [List.mem_singleton.mp hg]; rintro ⟨q, -⟩; cases q)]; exact z1
    have mm1 : yRd x00 M 120 5 = some (.int m) := by rw [hfr _ _ _ (fun g hg => by rw [List.mem_singleton.mp hg]; rintro ⟨q, -⟩; cases q)]; exact mm1
    obtain ⟨sf, hs, hsf, -⟩ := yTy_arr hM tTy_120
    have hm40 : 0 ≤ m.toInt ∧ m.toInt ≤ 40 := by
      have := hsf (5, 5, 1, [(0, 40)]) (by decide) 5 (by decide) (by decide) (by decide)
      rw [yRd_arr _ (by decide) hs (by decide)] at mm1
      cases mm1
      exact this
    have hA := fsC_ok
    unfold fsC at hA
    have hE : xE [(Int32.ofNat n).toInt, l.toInt, (Int32.ofNat i).toInt, c.toInt, z.toInt, m.toInt] ([(0, 40), (-2147483648, 2147483647), (0, 39), (0, 39), (2, 3), (0, 40)], [(3, 5, -1)]) := by
      refine xE_more (xE_of_list rfl (fun i l u e hb he => ?_)) (fun t ht => by rw [List.mem_singleton.mp ht]; exact ⟨_, _, rfl, rfl, by show c.toInt - m.toInt ≤ -1; omega⟩)
      match i with
      | 0 => cases hb; cases he; exact ⟨by omega, i32_lo _, i32_hi _⟩
      | 1 => cases hb; cases he; exact ⟨⟨i32_lo _, i32_hi _⟩, i32_lo _, i32_hi _⟩
      | 2 => cases hb; cases he; exact ⟨by omega, i32_lo _, i32_hi _⟩
      | 3 => cases hb; cases he; exact ⟨by omega, i32_lo _, i32_hi _⟩
      | 4 => cases hb; cases he; exact ⟨by omega, i32_lo _, i32_hi _⟩
      | 5 => cases hb; cases he; exact ⟨by omega, i32_lo _, i32_hi _⟩
      | i + 6 => simp at hb
    have hL : yLv [(Int32.ofNat n).toInt, l.toInt, (Int32.ofNat i).toInt, c.toInt, z.toInt, m.toInt] [(0, kR 128), (1, (4, 0, 0, 0)), (2, (4, 1, 0, 0)), (3, (4, 2, 0, 0))] lv := yLv_cons l0 (yV_kR _ _) (yLv_cons l1 (yV_atom rfl) (yLv_cons l2 (yV_atom rfl) (yLv_cons l3 (yV_atom rfl) (yLv_nil _ _))))
    have hF : yF x00 [(Int32.ofNat n).toInt, l.toInt, (Int32.ofNat i).toInt, c.toInt, z.toInt, m.toInt] [((127, 2, 0, 1), (4, 3, 0, 0)), ((120, 3, 160, 10), (4, 4, 0, 0)), ((120, 0, 5, 0), (4, 5, 0, 0))] M := by
      intro q hq
      rcases List.mem_cons.mp hq with rfl | hq
      · refine ⟨i, ?_, _, c1, yV_atom rfl⟩
        show some ((Int32.ofNat i).toInt * Int.ofNat 1 + 0) = some ((i : Nat) : Int)
        exact congrArg some (by rw [ei]; show (i : Int) * 1 + 0 = _; omega)
      rcases List.mem_cons.mp hq with rfl | hq
      · refine ⟨160 + 10 * c.toInt.toNat, ?_, _, z1, yV_atom rfl⟩
        show some (c.toInt * Int.ofNat 10 + 160) = some ((160 + 10 * c.toInt.toNat : Nat) : Int)
        exact congrArg some (by show c.toInt * 10 + 160 = _; omega)
      · rw [List.mem_singleton.mp hq]
        exact ⟨5, rfl, _, mm1, yV_atom rfl⟩
    obtain ⟨lf, f1, f2⟩ := tSegC (xs := x00) hT (fun ct hct => by cases hct) hA hE hL (cst := []) (show yS _ [] [] from trivial) ⟨hM, hF⟩
    simp only [Bool.or_eq_true, Bool.and_eq_true] at f1
    rcases f1 with f1 | ⟨f1, f3⟩
    · obtain ⟨X, N, x, M', m1, m2, m3, m4, m5⟩ := lRes_ok f1 f2
      exact ⟨N, _, M', m2, x, rfl, m4.1, yFr_tr hfr (m5 _ (List.mem_singleton_self _))⟩
    · obtain ⟨X, lv', st', M', m1, m2, m3, m4, m5, m6, m7⟩ := lAt_ok f1 f2
      obtain ⟨n', n1, n2⟩ := loc_i (k := 1) (i := 0) (a := 0) (e := (Int32.ofNat n).toInt) m4 (by simp) rfl
      obtain ⟨i', i1, i2⟩ := loc_i (k := 3) (i := 2) (a := 1) (e := (Int32.ofNat i).toInt) m4 (by simp) rfl
      have hn' : n' = Int32.ofNat n := i32eq (by omega)
      have hi' : i' = Int32.ofNat (i + 1) := i32eq (by rw [i2, ei, i32n (by omega)]; omega)
      subst hn'; subst hi'
      obtain ⟨l', k1, -⟩ := m5 _ _ _ f3
      have g0 : mlg 0 lv' = some (.ref 128) := loc_r m4 (by simp)
      have hst := yS_nil m3
      subst hst
      exact e_then m2 (ih (i + 1) M' lv' l' (by omega) m6.1 (yFr_tr hfr (m7 _ (List.mem_singleton_self _))) g0 n1 k1 i1)
theorem hand_first (hT : aTabOk) (hC : tCtOk (321, [(0, 128, 0, 0), (1, 0, (-2147483648), 2147483647)], some ((-1), 11), [], 1, [], [])) : tCtOk (329, [(0, 128, 0, 0)], some ((-2147483648), 2147483647), [(131, 0, 99, 1, 0), (127, 0, 39, 1, 0), (128, 0, 39, 1, 0), (130, 0, 127, 1, 0), (132, 0, 39, 1, 0)], 8, [], []) := by
  intro M vs d hM hvs hd _
  match vs, hvs with
  | [v1], h =>
    have h1 : v1 = .ref 128 := h.1
    subst h1
    obtain ⟨fo, hmo, -⟩ := yTy_obj hM (rfl : tTy 119 = some (.inr (12, _)))
    obtain ⟨N, r, M1, q1, n', rfl, q2, q3, q4, q5⟩ := row_end hT hC hM
    have q1 := mRun_dm q1 (by decide : 6 ≤ 7)
    have en := i32n (k := n') (by omega)
    have main : mEv none 8 (329, 0, lv_args 0 [.ref 128], []) M (fun r M' => ∃ x : Int32, r = some (.int x) ∧ yTy M' ∧ yFr [(132, 0, 39, 1, 0)] M1 M') := by
      refine e_then (e_al1 hT (y := 329) (pc := 0) (q := (yX12_first, cX12_first, 6, (some .int), 12)) rfl (show aTab 329 0 = some (.aload_n 0, 1, 0, 0, 0, 0, 0, 0) from rfl) rfl rfl) ?_
      refine e_then (e_call hT (y := 329) (pc := 1) (q := (yX12_first, cX12_first, 6, (some .int), 12)) rfl (show aTab 329 1 = some (.invokevirtual 226, 3, 1, 296, 0, 0, 6, 12) from rfl) rfl ⟨by decide, Nat.le_of_ble_eq_true rfl⟩ hmo (Nat.le_of_ble_eq_true rfl) (Nat.le_of_ble_eq_true rfl) ⟨by decide, by decide⟩ q1) ?_
      refine e_then (e_is1 hT (y := 329) (pc := 4) (q := (yX12_first, cX12_first, 6, (some .int), 12)) rfl (show aTab 329 4 = some (.istore_n 1, 1, 0, 0, 0, 0, 0, 0) from rfl) ⟨rfl, by decide⟩) ?_
      have hA := fsB_ok
      unfold fsB at hA
      have hE : xE [(Int32.ofNat n').toInt] ([(0, 40)], []) := by
        refine xE_of_list rfl (fun i l u e hb he => ?_)
        match i with
        | 0 => cases hb; cases he; exact ⟨by omega, i32_lo _, i32_hi _⟩
        | i + 1 => simp at hb
      have hL : yLv [(Int32.ofNat n').toInt] [(0, kR 128), (1, (4, 0, 0, 0))] (mlp 1 (.int (Int32.ofNat n')) (lv_args 0 [.ref 128])) := yLv_cons (mlg_r rfl (by decide)) (yV_kR _ 128) (yLv_cons (mlg_eq 1 _ _) (yV_atom rfl) (yLv_nil _ _))
      obtain ⟨lf, f1, f2⟩ := tSegC (xs := x00) hT (fun ct hct => by cases hct) hA hE hL (cst := []) (show yS _ [] [] from trivial) ⟨q3, fun q hq => by cases hq⟩
      simp only [Bool.and_eq_true] at f1
      obtain ⟨⟨f1, f3⟩, f4⟩ := f1
      obtain ⟨X, lv', st', M', m1, m2, m3, m4, m5, m6, m7⟩ := lAt_ok f1 f2
      obtain ⟨n2, n1, n3⟩ := loc_i (k := 1) (i := 0) (a := 0) (e := (Int32.ofNat n').toInt) m4 (by simp) rfl
      have hn' : n2 = Int32.ofNat n' := i32eq (by omega)
      subst hn'
      obtain ⟨l', k1, -⟩ := m5 _ _ _ f3
      obtain ⟨i', i1, i2, i3⟩ := m5 _ _ _ f4
      have hi' : i' = Int32.ofNat 0 := i32eq (by rw [i32n (by omega)]; omega)
      subst hi'
      have g0 : mlg 0 lv' = some (.ref 128) := loc_r m4 (by simp)
      have hst := yS_nil m3
      subst hst
      have h7 := m7 _ (List.mem_singleton_self _)
      exact e_then m2 (first_loop hT q2 q5 n' 0 M' lv' l' (by omega) m6.1 h7 g0 n1 k1 i1)
    obtain ⟨N, r, M', m1, x, rfl, m2, m3⟩ := main
    exact ⟨N, _, M', mRun_dm m1 hd, m2, yFr_tr (yFr_sub (by decide +kernel) q4) (yFr_sub (by decide +kernel) m3), ⟨x, rfl, i32_lo x, i32_hi x⟩, fun ab hab => by cases hab⟩
