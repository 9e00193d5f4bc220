/-! HAND: a row copied by the class -/
def crS (fa fb : Nat → Int32) (k : Nat) : Nat → Int32 := fun i => if i < k then fa i else fb i
theorem crS_upd (fa fb : Nat → Int32) (k : Nat) : upd (crS fa fb k) k (fa k) = crS fa fb (k + 1) := by
  funext i
  unfold upd crS
  by_cases h : i = k
  · subst h; rw [if_pos rfl, if_pos (by omega)]
  · rw [if_neg h]
    by_cases h2 : i < k
    · rw [if_pos h2, if_pos (by omega)]
    · rw [if_neg h2, if_neg (by omega)]
theorem e_lenA {sc : Option (Nat × (Nat → Int32))} {d y pc : Nat} {lv : List (Nat × Value)} {st : List Value} {M : mHe} {q : mMd} {n r : Nat} {f : Nat → Int32} {x : Nat × Nat × Nat × Int × Nat × Nat × Nat} (hT : aTabOk) (hq : mjM y = some q) (he : aTab y pc = some (.arraylength, x)) (h9 : x.1 = 1 ∧ 9 ≤ r) (hM : M[r - 9]? = some (.inl (n, f))) : mTo sc d (y, pc, lv, .ref r :: st) M (y, pc + 1, lv, .int (Int32.ofNat n) :: st) M := by
  refine mTo_step ?_
  rw [(e_eq hT hq he).1]
  have hr0 : ¬ r = 0 := by omega
  refine mOr_r (fun s hs => by have := mG1 hs; cases this) (mOr_r (fun s hs => by have := mG2 hs; cases this) (mOr_r (fun s hs => by have := mG3 hs; cases this) (mOr_r (fun s hs => by have := mG4 hs; cases this) (mOr_l ?_))))
  simp only [mOp5, h9.1, h9.2, if_true, if_neg hr0, hM, mGo]
theorem e_min {sc : Option (Nat × (Nat → Int32))} {d y pc idx : Nat} {lv : List (Nat × Value)} {st : List Value} {M : mHe} {q : mMd} {a : Int32} {x : Nat × Int × Nat × Nat × Nat} (hT : aTabOk) (hq : mjM y = some q) (he : aTab y pc = some (.invokestatic idx, 3, 14, x)) (hc : mCat st ≤ 8) (hd : 1 ≤ d) : mTo sc d (y, pc, lv, .int a :: .int a :: st) M (y, pc + 3, lv, .int a :: st) M := by
  refine mTo_step ?_
  obtain ⟨h1, h2⟩ := e_eq (sc := sc) (d := d) (lv := lv) (st := .int a :: .int a :: st) (M := M) hT hq he
  rw [h1]
  obtain ⟨o1, o2, hR, -⟩ := aChk_R (k := idx) rfl h2 (by simp)
  refine mOr_r (fun s hs => by have := mG1 hs; cases this) (mOr_r (fun s hs => by have := mG2 hs; cases this) (mOr_r (fun s hs => by have := mG3 hs; cases this) (mOr_r (fun s hs => by have := mG4 hs; cases this) (mOr_r (fun s hs => by have := mG5 hs; cases this) (mOr_l ?_)))))
  simp only [mOp6, hR, hc, hd, and_self, if_true, mGo]
  simp
theorem crow_loop (hT : aTabOk) {d a b L : Nat} (hL : L ≤ 4000) {M0 : mHe} {fa fb : Nat → Int32} (hab : a ≠ b) (hb : b < M0.length) (ha : M0[a]? = some (.inl (L, fa))) : ∀ (j k : Nat) (lv : List (Nat × Value)), k + j = L → mlg 0 lv = some (.ref (9 + a)) → mlg 1 lv = some (.ref (9 + b)) → mlg 2 lv = some (.int (Int32.ofNat L)) → mlg 3 lv = some (.int (Int32.ofNat k)) → mEv none d (237, 10, lv, []) (M0.set b (.inl (L, crS fa fb k))) (fun r M' => r = none ∧ M' = M0.set b (.inl (L, crS fa fb L))) := by
  have ea : 9 + a - 9 = a := by omega
  have eb : 9 + b - 9 = b := by omega
  intro j
  induction j with
  | zero =>
    intro k lv hk h0 h1 h2 h3
    have hk : k = L := by omega
    subst hk
    refine e_then (e_il1 hT (y := 237) (pc := 10) (q := (yX11_copyRow, cX11_copyRow, 4, none, 11)) rfl (show aTab 237 10 = some (.iload_n 3, 1, 0, 0, 0, 0, 0, 0) from rfl) rfl h3) ?_
    refine e_then (e_il1 hT (y := 237) (pc := 11) (q := (yX11_copyRow, cX11_copyRow, 4, none, 11)) rfl (show aTab 237 11 = some (.iload_n 2, 1, 0, 0, 0, 0, 0, 0) from rfl) rfl h2) ?_
    refine e_then (e_icT hT (y := 237) (pc := 12) (q := (yX11_copyRow, cX11_copyRow, 4, none, 11)) rfl (show aTab 237 12 = some (.if_icmp .ge 15, 3, 0, 0, 0, 0, 0, 0) from rfl) rfl (t := 27) rfl (cdT (Int.le_refl _))) ?_
    exact e_fin (e_vret hT (y := 237) (pc := 27) (q := (yX11_copyRow, cX11_copyRow, 4, none, 11)) rfl (show aTab 237 27 = some (.return_, 1, 0, 0, 0, 0, 0, 0) from rfl) ⟨rfl, rfl⟩) ⟨rfl, rfl⟩
  | succ j ih =>
    intro k lv hk h0 h1 h2 h3
    have hget : (M0.set b (.inl (L, crS fa fb k)))[9 + a - 9]? = some (.inl (L, fa)) := by rw [ea, List.getElem?_set_ne (fun z => hab z.symm)]; exact ha
    have hput : (M0.set b (.inl (L, crS fa fb k)))[9 + b - 9]? = some (.inl (L, crS fa fb k)) := by rw [eb, List.getElem?_set_self hb]
    have hix : 0 ≤ (Int32.ofNat k).toInt ∧ (Int32.ofNat k).toInt < L := by rw [i32n (by omega)]; omega
    refine e_then (e_il1 hT (y := 237) (pc := 10) (q := (yX11_copyRow, cX11_copyRow, 4, none, 11)) rfl (show aTab 237 10 = some (.iload_n 3, 1, 0, 0, 0, 0, 0, 0) from rfl) rfl h3) ?_
    refine e_then (e_il1 hT (y := 237) (pc := 11) (q := (yX11_copyRow, cX11_copyRow, 4, none, 11)) rfl (show aTab 237 11 = some (.iload_n 2, 1, 0, 0, 0, 0, 0, 0) from rfl) rfl h2) ?_
    refine e_then (e_icF hT (y := 237) (pc := 12) (q := (yX11_copyRow, cX11_copyRow, 4, none, 11)) rfl (show aTab 237 12 = some (.if_icmp .ge 15, 3, 0, 0, 0, 0, 0, 0) from rfl) rfl (t := 27) rfl (cdF (by rw [i32n (by omega), i32n (by omega)]; show ¬ (L : Int) ≤ _; omega))) ?_
    refine e_then (e_al1 hT (y := 237) (pc := 15) (q := (yX11_copyRow, cX11_copyRow, 4, none, 11)) rfl (show aTab 237 15 = some (.aload_n 1, 1, 0, 0, 0, 0, 0, 0) from rfl) rfl h1) ?_
    refine e_then (e_il1 hT (y := 237) (pc := 16) (q := (yX11_copyRow, cX11_copyRow, 4, none, 11)) rfl (show aTab 237 16 = some (.iload_n 3, 1, 0, 0, 0, 0, 0, 0) from rfl) rfl h3) ?_
    refine e_then (e_al1 hT (y := 237) (pc := 17) (q := (yX11_copyRow, cX11_copyRow, 4, none, 11)) rfl (show aTab 237 17 = some (.aload_n 0, 1, 0, 0, 0, 0, 0, 0) from rfl) rfl h0) ?_
    refine e_then (e_il1 hT (y := 237) (pc := 18) (q := (yX11_copyRow, cX11_copyRow, 4, none, 11)) rfl (show aTab 237 18 = some (.iload_n 3, 1, 0, 0, 0, 0, 0, 0) from rfl) rfl h3) ?_
    refine e_then (e_ald hT (y := 237) (pc := 19) (q := (yX11_copyRow, cX11_copyRow, 4, none, 11)) rfl (show aTab 237 19 = some (.iaload, 1, 0, 0, 0, 0, 0, 0) from rfl) ⟨rfl, by omega⟩ hget hix) ?_
    refine e_then (e_ast hT (y := 237) (pc := 20) (q := (yX11_copyRow, cX11_copyRow, 4, none, 11)) rfl (show aTab 237 20 = some (.iastore, 1, 0, 0, 0, 0, 0, 0) from rfl) ⟨rfl, by omega⟩ hput hix) ?_
    refine e_then (e_ii hT (y := 237) (pc := 21) (q := (yX11_copyRow, cX11_copyRow, 4, none, 11)) rfl (show aTab 237 21 = some (.iinc 3 1, 3, 0, 0, 0, 0, 0, 0) from rfl) ⟨rfl, by decide⟩ h3) ?_
    refine e_then (e_st hT (y := 237) (pc := 24) (q := (yX11_copyRow, cX11_copyRow, 4, none, 11)) rfl (show aTab 237 24 = some (.goto (-14), 3, 0, 0, 0, 0, 0, 0) from rfl) (fr' := (237, 10, mlp 3 (.int (Int32.ofNat k + Int32.ofInt 1)) lv, [])) (M' := _) rfl) ?_
    have es : Int32.ofNat k + Int32.ofInt 1 = Int32.ofNat (k + 1) := by
      refine i32eq ?_
      have e1 : (Int32.ofInt 1).toInt = 1 := rfl
      rw [i32_add (by rw [i32n (by omega), e1]; omega) (by rw [i32n (by omega), e1]; omega), i32n (by omega), i32n (by omega), e1]
      omega
    have em : (Int32.ofNat k).toInt.toNat = k := by rw [i32n (by omega)]; omega
    rw [es, em, eb, List.set_set, crS_upd]
    exact ih (k + 1) _ (by omega) (mlg_r h0 (by decide)) (mlg_r h1 (by decide)) (mlg_i h2 (by decide)) (mlg_eq 3 _ _)
theorem hand_crow (hT : aTabOk) {a b L : Nat} (hL : L ≤ 4000) (ha : tTy a = some (.inl (L, 0, []))) (hb : tTy b = some (.inl (L, 0, []))) (hab : a ≠ b) : tCtOk (237, [(0, 9 + a, 0, 0), (0, 9 + b, 0, 0)], none, [(b, 0, (L : Int) - 1, 1, 0)], 1, [(a, b)], []) := by
  intro M vs d hM hvs hd _
  obtain ⟨fa, hma, hfa, -⟩ := yTy_arr hM ha
  obtain ⟨fb, hmb, hfb, -⟩ := yTy_arr hM hb
  have hbl := (List.getElem?_eq_some_iff.mp hmb).1
  obtain ⟨rfl⟩ : vs = [.ref (9 + a), .ref (9 + b)] := by
    match vs, hvs with
    | [v2, v3], h =>
      have h2 : v2 = .ref (9 + a) := h.1
      have h3 : v3 = .ref (9 + b) := h.2.1
      rw [h2, h3]
  have h0 : crS fa fb 0 = fb := by funext i; unfold crS; rw [if_neg (by omega)]
  have hm0 : M.set b (.inl (L, crS fa fb 0)) = M := by
    rw [h0]
    apply List.ext_getElem?
    intro i
    by_cases hi : i = b
    · subst hi; rw [List.getElem?_set_self hbl, hmb]
    · rw [List.getElem?_set_ne (fun z => hi z.symm)]
  have hlen : ∀ i, i < L → crS fa fb L i = fa i := fun i hi => by unfold crS; rw [if_pos hi]
  have hA : M[9 + a - 9]? = some (.inl (L, fa)) := by rw [show 9 + a - 9 = a by omega]; exact hma
  have hB : M[9 + b - 9]? = some (.inl (L, fb)) := by rw [show 9 + b - 9 = b by omega]; exact hmb
  have main : mEv none d (237, 0, lv_args 0 [.ref (9 + a), .ref (9 + b)], []) M (fun r M' => r = none ∧ M' = M.set b (.inl (L, crS fa fb L))) := by
    refine e_then (e_al1 hT (y := 237) (pc := 0) (q := (yX11_copyRow, cX11_copyRow, 4, none, 11)) rfl (show aTab 237 0 = some (.aload_n 0, 1, 0, 0, 0, 0, 0, 0) from rfl) rfl rfl) ?_
    refine e_then (e_lenA hT (y := 237) (pc := 1) (q := (yX11_copyRow, cX11_copyRow, 4, none, 11)) rfl (show aTab 237 1 = some (.arraylength, 1, 0, 0, 0, 0, 0, 0) from rfl) ⟨rfl, by omega⟩ hA) ?_
    refine e_then (e_al1 hT (y := 237) (pc := 2) (q := (yX11_copyRow, cX11_copyRow, 4, none, 11)) rfl (show aTab 237 2 = some (.aload_n 1, 1, 0, 0, 0, 0, 0, 0) from rfl) rfl rfl) ?_
    refine e_then (e_lenA hT (y := 237) (pc := 3) (q := (yX11_copyRow, cX11_copyRow, 4, none, 11)) rfl (show aTab 237 3 = some (.arraylength, 1, 0, 0, 0, 0, 0, 0) from rfl) ⟨rfl, by omega⟩ hB) ?_
    refine e_then (e_min hT (y := 237) (pc := 4) (q := (yX11_copyRow, cX11_copyRow, 4, none, 11)) rfl (show aTab 237 4 = some (.invokestatic 281, 3, 14, 0, 0, 0, 0, 0) from rfl) (Nat.le_of_ble_eq_true rfl) hd) ?_
    refine e_then (e_is1 hT (y := 237) (pc := 7) (q := (yX11_copyRow, cX11_copyRow, 4, none, 11)) rfl (show aTab 237 7 = some (.istore_n 2, 1, 0, 0, 0, 0, 0, 0) from rfl) ⟨rfl, by decide⟩) ?_
    refine e_then (e_st hT (y := 237) (pc := 8) (q := (yX11_copyRow, cX11_copyRow, 4, none, 11)) rfl (show aTab 237 8 = some (.iconst 0, 1, 0, 0, 0, 0, 0, 0) from rfl) (fr' := (237, 9, mlp 2 (.int (Int32.ofNat L)) (lv_args 0 [.ref (9 + a), .ref (9 + b)]), [.int 0])) (M' := M) rfl) ?_
    refine e_then (e_is1 hT (y := 237) (pc := 9) (q := (yX11_copyRow, cX11_copyRow, 4, none, 11)) rfl (show aTab 237 9 = some (.istore_n 3, 1, 0, 0, 0, 0, 0, 0) from rfl) ⟨rfl, by decide⟩) ?_
    have := crow_loop hT (d := d) hL hab hbl hma (fb := fb) L 0 (mlp 3 (.int 0) (mlp 2 (.int (Int32.ofNat L)) (lv_args 0 [.ref (9 + a), .ref (9 + b)]))) (by omega) (mlg_r (mlg_r rfl (by decide)) (by decide)) (mlg_r (mlg_r rfl (by decide)) (by decide)) (mlg_i (mlg_eq 2 _ _) (by decide)) (mlg_eq 3 _ _)
    rw [hm0] at this
    exact this
  obtain ⟨N, r, M', m1, rfl, rfl⟩ := main
  have hrd : ∀ (xs : tXs) (k : Nat), yRd xs (M.set b (.inl (L, crS fa fb L))) b k = yRd xs M a k := by
    intro xs k
    have e1 : ∀ (M2 : mHe) (c : Nat) (f : Nat → Int32), c < 144 → M2[c]? = some (.inl (L, f)) → yRd xs M2 c k = if k < L then some (.int (f k)) else none := by
      intro M2 c f hc h
      unfold yRd
      rw [if_neg (by omega), h]
    rw [e1 _ b _ (tTy_lt hb) (List.getElem?_set_self hbl), e1 _ a _ (tTy_lt ha) hma]
    by_cases hk : k < L
    · rw [if_pos hk, if_pos hk, hlen k hk]
    · rw [if_neg hk, if_neg hk]
  refine ⟨N, none, _, m1, yTy_set hM hb (fun r hr => by cases hr) (fun z => by cases z), ?_, rfl, fun ab hab xs k => ?_⟩
  · intro xs c k hn
    by_cases hc : c = b
    · subst hc
      by_cases hk : k < L
      · exact absurd ⟨rfl, by show (0 : Int) ≤ _; omega, by show (k : Int) ≤ (L : Int) - 1; omega, Int.emod_one _⟩ (hn _ (List.mem_singleton_self _))
      · unfold yRd
        rw [List.getElem?_set_self hbl, hmb]
        simp only
        rw [if_neg hk, if_neg hk]
    · exact yRd_ne hc
  · rw [List.mem_singleton.mp hab]
    exact hrd xs k
/-- all rows that an image takes over, or gives back -/
def crPairs : List (Nat × Nat × Nat) := [(3, 56, 20), (4, 57, 20), (5, 58, 20), (6, 59, 20), (7, 60, 20), (8, 61, 10), (9, 62, 10), (10, 63, 10), (12, 65, 40), (13, 66, 40), (14, 67, 40), (15, 68, 40), (16, 69, 40), (17, 70, 40), (18, 71, 40), (19, 72, 40), (20, 73, 40), (21, 74, 40), (22, 75, 360), (25, 78, 30), (26, 79, 30), (27, 80, 30), (29, 82, 12), (30, 83, 12), (31, 84, 12), (32, 85, 12), (33, 86, 1152), (37, 90, 9), (41, 94, 6), (42, 95, 8), (45, 98, 8), (46, 99, 8), (47, 100, 8), (48, 101, 8), (49, 102, 8), (50, 103, 8), (56, 3, 20), (57, 4, 20), (58, 5, 20), (59, 6, 20), (60, 7, 20), (61, 8, 10), (62, 9, 10), (63, 10, 10), (65, 12, 40), (66, 13, 40), (67, 14, 40), (68, 15, 40), (69, 16, 40), (70, 17, 40), (71, 18, 40), (72, 19, 40), (73, 20, 40), (74, 21, 40), (75, 22, 360), (78, 25, 30), (79, 26, 30), (80, 27, 30), (82, 29, 12), (83, 30, 12), (84, 31, 12), (85, 32, 12), (86, 33, 1152), (90, 37, 9), (94, 41, 6), (95, 42, 8), (98, 45, 8), (99, 46, 8), (100, 47, 8), (101, 48, 8), (102, 49, 8), (103, 50, 8)]
def crCt (p : Nat × Nat × Nat) : tCt := (237, [(0, 9 + p.1, 0, 0), (0, 9 + p.2.1, 0, 0)], none, [(p.2.1, 0, (p.2.2 : Int) - 1, 1, 0)], 1, [(p.1, p.2.1)], [])
def crCs : List tCt := [(237, [(0, 12, 0, 0), (0, 65, 0, 0)], none, [(56, 0, 19, 1, 0)], 1, [(3, 56)], []), (237, [(0, 13, 0, 0), (0, 66, 0, 0)], none, [(57, 0, 19, 1, 0)], 1, [(4, 57)], []), (237, [(0, 14, 0, 0), (0, 67, 0, 0)], none, [(58, 0, 19, 1, 0)], 1, [(5, 58)], []), (237, [(0, 15, 0, 0), (0, 68, 0, 0)], none, [(59, 0, 19, 1, 0)], 1, [(6, 59)], []), (237, [(0, 16, 0, 0), (0, 69, 0, 0)], none, [(60, 0, 19, 1, 0)], 1, [(7, 60)], []), (237, [(0, 17, 0, 0), (0, 70, 0, 0)], none, [(61, 0, 9, 1, 0)], 1, [(8, 61)], []), (237, [(0, 18, 0, 0), (0, 71, 0, 0)], none, [(62, 0, 9, 1, 0)], 1, [(9, 62)], []), (237, [(0, 19, 0, 0), (0, 72, 0, 0)], none, [(63, 0, 9, 1, 0)], 1, [(10, 63)], []), (237, [(0, 21, 0, 0), (0, 74, 0, 0)], none, [(65, 0, 39, 1, 0)], 1, [(12, 65)], []), (237, [(0, 22, 0, 0), (0, 75, 0, 0)], none, [(66, 0, 39, 1, 0)], 1, [(13, 66)], []), (237, [(0, 23, 0, 0), (0, 76, 0, 0)], none, [(67, 0, 39, 1, 0)], 1, [(14, 67)], []), (237, [(0, 24, 0, 0), (0, 77, 0, 0)], none, [(68, 0, 39, 1, 0)], 1, [(15, 68)], []), (237, [(0, 25, 0, 0), (0, 78, 0, 0)], none, [(69, 0, 39, 1, 0)], 1, [(16, 69)], []), (237, [(0, 26, 0, 0), (0, 79, 0, 0)], none, [(70, 0, 39, 1, 0)], 1, [(17, 70)], []), (237, [(0, 27, 0, 0), (0, 80, 0, 0)], none, [(71, 0, 39, 1, 0)], 1, [(18, 71)], []), (237, [(0, 28, 0, 0), (0, 81, 0, 0)], none, [(72, 0, 39, 1, 0)], 1, [(19, 72)], []), (237, [(0, 29, 0, 0), (0, 82, 0, 0)], none, [(73, 0, 39, 1, 0)], 1, [(20, 73)], []), (237, [(0, 30, 0, 0), (0, 83, 0, 0)], none, [(74, 0, 39, 1, 0)], 1, [(21, 74)], []), (237, [(0, 31, 0, 0), (0, 84, 0, 0)], none, [(75, 0, 359, 1, 0)], 1, [(22, 75)], []), (237, [(0, 34, 0, 0), (0, 87, 0, 0)], none, [(78, 0, 29, 1, 0)], 1, [(25, 78)], []), (237, [(0, 35, 0, 0), (0, 88, 0, 0)], none, [(79, 0, 29, 1, 0)], 1, [(26, 79)], []), (237, [(0, 36, 0, 0), (0, 89, 0, 0)], none, [(80, 0, 29, 1, 0)], 1, [(27, 80)], []), (237, [(0, 38, 0, 0), (0, 91, 0, 0)], none, [(82, 0, 11, 1, 0)], 1, [(29, 82)], []), (237, [(0, 39, 0, 0), (0, 92, 0, 0)], none, [(83, 0, 11, 1, 0)], 1, [(30, 83)], []), (237, [(0, 40, 0, 0), (0, 93, 0, 0)], none, [(84, 0, 11, 1, 0)], 1, [(31, 84)], []), (237, [(0, 41, 0, 0), (0, 94, 0, 0)], none, [(85, 0, 11, 1, 0)], 1, [(32, 85)], []), (237, [(0, 42, 0, 0), (0, 95, 0, 0)], none, [(86, 0, 1151, 1, 0)], 1, [(33, 86)], []), (237, [(0, 46, 0, 0), (0, 99, 0, 0)], none, [(90, 0, 8, 1, 0)], 1, [(37, 90)], []), (237, [(0, 50, 0, 0), (0, 103, 0, 0)], none, [(94, 0, 5, 1, 0)], 1, [(41, 94)], []), (237, [(0, 51, 0, 0), (0, 104, 0, 0)], none, [(95, 0, 7, 1, 0)], 1, [(42, 95)], []), (237, [(0, 54, 0, 0), (0, 107, 0, 0)], none, [(98, 0, 7, 1, 0)], 1, [(45, 98)], []), (237, [(0, 55, 0, 0), (0, 108, 0, 0)], none, [(99, 0, 7, 1, 0)], 1, [(46, 99)], []), (237, [(0, 56, 0, 0), (0, 109, 0, 0)], none, [(100, 0, 7, 1, 0)], 1, [(47, 100)], []), (237, [(0, 57, 0, 0), (0, 110, 0, 0)], none, [(101, 0, 7, 1, 0)], 1, [(48, 101)], []), (237, [(0, 58, 0, 0), (0, 111, 0, 0)], none, [(102, 0, 7, 1, 0)], 1, [(49, 102)], []), (237, [(0, 59, 0, 0), (0, 112, 0, 0)], none, [(103, 0, 7, 1, 0)], 1, [(50, 103)], []), (237, [(0, 65, 0, 0), (0, 12, 0, 0)], none, [(3, 0, 19, 1, 0)], 1, [(56, 3)], []), (237, [(0, 66, 0, 0), (0, 13, 0, 0)], none, [(4, 0, 19, 1, 0)], 1, [(57, 4)], []), (237, [(0, 67, 0, 0), (0, 14, 0, 0)], none, [(5, 0, 19, 1, 0)], 1, [(58, 5)], []), (237, [(0, 68, 0, 0), (0, 15, 0, 0)], none, [(6, 0, 19, 1, 0)], 1, [(59, 6)], []), (237, [(0, 69, 0, 0), (0, 16, 0, 0)], none, [(7, 0, 19, 1, 0)], 1, [(60, 7)], []), (237, [(0, 70, 0, 0), (0, 17, 0, 0)], none, [(8, 0, 9, 1, 0)], 1, [(61, 8)], []), (237, [(0, 71, 0, 0), (0, 18, 0, 0)], none, [(9, 0, 9, 1, 0)], 1, [(62, 9)], []), (237, [(0, 72, 0, 0), (0, 19, 0, 0)], none, [(10, 0, 9, 1, 0)], 1, [(63, 10)], []), (237, [(0, 74, 0, 0), (0, 21, 0, 0)], none, [(12, 0, 39, 1, 0)], 1, [(65, 12)], []), (237, [(0, 75, 0, 0), (0, 22, 0, 0)], none, [(13, 0, 39, 1, 0)], 1, [(66, 13)], []), (237, [(0, 76, 0, 0), (0, 23, 0, 0)], none, [(14, 0, 39, 1, 0)], 1, [(67, 14)], []), (237, [(0, 77, 0, 0), (0, 24, 0, 0)], none, [(15, 0, 39, 1, 0)], 1, [(68, 15)], []), (237, [(0, 78, 0, 0), (0, 25, 0, 0)], none, [(16, 0, 39, 1, 0)], 1, [(69, 16)], []), (237, [(0, 79, 0, 0), (0, 26, 0, 0)], none, [(17, 0, 39, 1, 0)], 1, [(70, 17)], []), (237, [(0, 80, 0, 0), (0, 27, 0, 0)], none, [(18, 0, 39, 1, 0)], 1, [(71, 18)], []), (237, [(0, 81, 0, 0), (0, 28, 0, 0)], none, [(19, 0, 39, 1, 0)], 1, [(72, 19)], []), (237, [(0, 82, 0, 0), (0, 29, 0, 0)], none, [(20, 0, 39, 1, 0)], 1, [(73, 20)], []), (237, [(0, 83, 0, 0), (0, 30, 0, 0)], none, [(21, 0, 39, 1, 0)], 1, [(74, 21)], []), (237, [(0, 84, 0, 0), (0, 31, 0, 0)], none, [(22, 0, 359, 1, 0)], 1, [(75, 22)], []), (237, [(0, 87, 0, 0), (0, 34, 0, 0)], none, [(25, 0, 29, 1, 0)], 1, [(78, 25)], []), (237, [(0, 88, 0, 0), (0, 35, 0, 0)], none, [(26, 0, 29, 1, 0)], 1, [(79, 26)], []), (237, [(0, 89, 0, 0), (0, 36, 0, 0)], none, [(27, 0, 29, 1, 0)], 1, [(80, 27)], []), (237, [(0, 91, 0, 0), (0, 38, 0, 0)], none, [(29, 0, 11, 1, 0)], 1, [(82, 29)], []), (237, [(0, 92, 0, 0), (0, 39, 0, 0)], none, [(30, 0, 11, 1, 0)], 1, [(83, 30)], []), (237, [(0, 93, 0, 0), (0, 40, 0, 0)], none, [(31, 0, 11, 1, 0)], 1, [(84, 31)], []), (237, [(0, 94, 0, 0), (0, 41, 0, 0)], none, [(32, 0, 11, 1, 0)], 1, [(85, 32)], []), (237, [(0, 95, 0, 0), (0, 42, 0, 0)], none, [(33, 0, 1151, 1, 0)], 1, [(86, 33)], []), (237, [(0, 99, 0, 0), (0, 46, 0, 0)], none, [(37, 0, 8, 1, 0)], 1, [(90, 37)], []), (237, [(0, 103, 0, 0), (0, 50, 0, 0)], none, [(41, 0, 5, 1, 0)], 1, [(94, 41)], []), (237, [(0, 104, 0, 0), (0, 51, 0, 0)], none, [(42, 0, 7, 1, 0)], 1, [(95, 42)], []), (237, [(0, 107, 0, 0), (0, 54, 0, 0)], none, [(45, 0, 7, 1, 0)], 1, [(98, 45)], []), (237, [(0, 108, 0, 0), (0, 55, 0, 0)], none, [(46, 0, 7, 1, 0)], 1, [(99, 46)], []), (237, [(0, 109, 0, 0), (0, 56, 0, 0)], none, [(47, 0, 7, 1, 0)], 1, [(100, 47)], []), (237, [(0, 110, 0, 0), (0, 57, 0, 0)], none, [(48, 0, 7, 1, 0)], 1, [(101, 48)], []), (237, [(0, 111, 0, 0), (0, 58, 0, 0)], none, [(49, 0, 7, 1, 0)], 1, [(102, 49)], []), (237, [(0, 112, 0, 0), (0, 59, 0, 0)], none, [(50, 0, 7, 1, 0)], 1, [(103, 50)], [])]
def crRow (t : Option tC) (L : Nat) : Bool := match t with
  | some (.inl (n, 0, [])) => Nat.beq n L
  | _ => false
theorem crRow_ok {t : Option tC} {L : Nat} (h : crRow t L = true) : t = some (.inl (L, 0, [])) := by
  unfold crRow at h
  split at h
  · rw [Nat.eq_of_beq_eq_true h]
  · cases h
theorem crPairs_ok : crPairs.all (fun p => crRow (tTy p.1) p.2.2 && (crRow (tTy p.2.1) p.2.2 && (Nat.ble p.2.2 4000 && !(Nat.beq p.1 p.2.1)))) = true := by decide +kernel
theorem crCs_is : crCs = crPairs.map crCt := rfl
theorem crCs_ok (hT : aTabOk) : ∀ c ∈ crCs, tCtOk c := fun c hc => by
  rw [crCs_is] at hc
  obtain ⟨p, hp, rfl⟩ := List.mem_map.mp hc
  have h := List.all_eq_true.mp crPairs_ok p hp
  simp only [Bool.and_eq_true, Nat.ble_eq, Bool.not_eq_true'] at h
  obtain ⟨h1, h2, h3, h4⟩ := h
  exact hand_crow hT h3 (crRow_ok h1) (crRow_ok h2) (fun z => by rw [z] at h4; simp at h4)
