/-! SEGMENTS: runs of the typed machine whose ends are checked -/
def tCk (K : tKt) (n d : Nat) (Ws : List (List tG)) (fr : aFr) (h : tF) (cs : aC) (chk : tLf_ → Bool) : Bool := match tRun K n false d Ws [] fr h cs with
  | none => false
  | some l => l.all chk
def lSt : List aV → List aV → Bool
  | [], [] => true
  | a :: l, b :: m => aSame a b && lSt l m
  | _, _ => false
/-- a stop, with these locals -/
def lAt (y pc : Nat) (st : List aV) (locs : List (Nat × aV)) (lf : tLf_) : Bool := match lf.1 with
  | .inl fr => Nat.beq fr.1 y && (Nat.beq fr.2.1 pc && (lSt fr.2.2.2 st && locs.all (fun kv => tHas fr.2.2.1 kv.1 kv.2)))
  | .inr _ => false
/-- an end, with a number between these -/
def lRes (l u : Int) (lf : tLf_) : Bool := match lf.1 with
  | .inr (some v) => tIsI v && (ile l (tBd lf.2.2 v).1 && ile (tBd lf.2.2 v).2 u)
  | _ => false
def lVoid (lf : tLf_) : Bool := match lf.1 with
  | .inr none => true
  | _ => false
/-- a local between these -/
def lL (k : Nat) (l u : Int) (lf : tLf_) : Bool := match lf.1 with
  | .inl fr => (match alg k fr.2.2.1 with
    | some v => tIsI v && (ile l (tBd lf.2.2 v).1 && ile (tBd lf.2.2 v).2 u)
    | none => false)
  | .inr _ => false
/-- a place that holds this -/
def lF (c : Nat) (k : Int) (v : aV) (lf : tLf_) : Bool := match tFind lf.2.1 (c, 0, k, 0) with
  | some w => aSame w v
  | none => false
/-- a place between these -/
def lFB (c : Nat) (k l u : Int) (lf : tLf_) : Bool := match tFind lf.2.1 (c, 0, k, 0) with
  | some w => tIsI w && (ile l (tBd lf.2.2 w).1 && ile (tBd lf.2.2 w).2 u)
  | none => false
/-- a place is another and d at most -/
def lRel (c : Nat) (k : Int) (c' : Nat) (k' : Int) (d : Int) (lf : tLf_) : Bool := match tFind lf.2.1 (c, 0, k, 0), tFind lf.2.1 (c', 0, k', 0) with
  | some w, some w' => tIsI w && (tIsI w' && tImp lf.2.2 w w' d)
  | _, _ => false
/-- a place is a number and d at most -/
def lRelL (c : Nat) (k : Int) (v : aV) (d : Int) (lf : tLf_) : Bool := match tFind lf.2.1 (c, 0, k, 0) with
  | some w => tIsI w && tImp lf.2.2 w v d
  | none => false
/-- a place is a number and d at least -/
def lRelG (c : Nat) (k : Int) (v : aV) (d : Int) (lf : tLf_) : Bool := match tFind lf.2.1 (c, 0, k, 0) with
  | some w => tIsI w && tImp lf.2.2 v w (-d)
  | none => false
section SEG
variable {xs : tXs} {sc : Option (Nat × (Nat → Int32))} {d : Nat} {E : List Int} {Ws : List (List tG)} {fr : mFr} {M : mHe} {lf : tLf_}
theorem tSegC (hT : aTabOk) {K : tKt} (hK : ∀ ct ∈ K.2, tCtOk ct) {n : Nat} {afr : aFr} {h : tF} {cs : aC} {chk : tLf_ → Bool} {clv : List (Nat × Value)} {cst : List Value} (hc : tCk K n d Ws afr h cs chk = true) (hE : xE E cs) (hL : yLv E afr.2.2.1 clv) (hS : yS E afr.2.2.2 cst) (hH : yH xs E h M) : ∃ lf, chk lf = true ∧ tEnd1 xs none d E Ws (afr.1, afr.2.1, clv, cst) M lf := by
  unfold tCk at hc
  split at hc
  · cases hc
  · next l hr =>
    obtain ⟨lf, f1, f2⟩ := tSeg hT hK hr hE hL hS hH
    exact ⟨lf, List.all_eq_true.mp hc lf f1, f2⟩
theorem lSt_ok {E : List Int} : ∀ {st st0 : List aV} {cst : List Value}, lSt st st0 = true → yS E st cst → yS E st0 cst := by
  intro st
  induction st with
  | nil =>
    intro st0 cst h hS
    cases st0 with
    | nil => exact hS
    | cons b m => cases h
  | cons a l ih =>
    intro st0 cst h hS
    cases st0 with
    | nil => cases h
    | cons b m =>
      unfold lSt at h
      rw [Bool.and_eq_true] at h
      cases cst with
      | nil => exact hS
      | cons v w =>
        rw [aSame_eq h.1] at hS
        exact ⟨hS.1, ih h.2 hS.2⟩
theorem lAt_ok {y pc : Nat} {st : List aV} {locs : List (Nat × aV)} (h : lAt y pc st locs lf = true) (he : tEnd1 xs sc d E Ws fr M lf) : ∃ X lv' st' M', xE (E ++ X) lf.2.2 ∧ mTo sc d fr M (y, pc, lv', st') M' ∧ yS (E ++ X) st st' ∧ (∀ kv ∈ locs, ∃ c, mlg kv.1 lv' = some c ∧ yV (E ++ X) kv.2 c) ∧ (∀ k l u, lL k l u lf = true → ∃ x : Int32, mlg k lv' = some (.int x) ∧ l ≤ x.toInt ∧ x.toInt ≤ u) ∧ yH xs (E ++ X) lf.2.1 M' ∧ ∀ W ∈ Ws, yFr W M M' := by
  obtain ⟨X, h0, he⟩ := he
  obtain ⟨l1, l2, l3⟩ := lf
  unfold lAt at h
  simp only at h he h0
  split at h
  · next afr =>
    simp only at he
    rw [Bool.and_eq_true, Bool.and_eq_true, Bool.and_eq_true] at h
    obtain ⟨o1, o2, o3, o4⟩ := h
    have o1 := Nat.eq_of_beq_eq_true o1
    have o2 := Nat.eq_of_beq_eq_true o2
    subst o1; subst o2
    obtain ⟨lv', st', M', m1, m2, m3, m4, m5⟩ := he
    refine ⟨X, lv', st', M', h0, m1, lSt_ok o3 m3, fun kv hkv => ?_, fun k l u hk => ?_, m4, m5⟩
    · have o5 := List.all_eq_true.mp o4 kv hkv
      unfold tHas at o5
      split at o5
      · next w hw =>
        rw [aSame_eq o5] at hw
        exact m2 _ _ hw
      · cases o5
    · unfold lL at hk
      simp only at hk
      split at hk
      · next v hv =>
        rw [Bool.and_eq_true, Bool.and_eq_true, ile_iff, ile_iff] at hk
        obtain ⟨c, c1, c2⟩ := m2 _ _ hv
        obtain ⟨x, rfl, x1⟩ := yV_int hk.1 c2
        have := tBd_N h0 x1.2
        exact ⟨x, c1, by omega, by omega⟩
      · cases hk
  · cases h
theorem lRes_ok {l u : Int} (h : lRes l u lf = true) (he : tEnd1 xs sc d E Ws fr M lf) : ∃ X N x M', xE (E ++ X) lf.2.2 ∧ mRun sc N d fr M = some (some (.int x), M') ∧ (l ≤ x.toInt ∧ x.toInt ≤ u) ∧ yH xs (E ++ X) lf.2.1 M' ∧ ∀ W ∈ Ws, yFr W M M' := by
  obtain ⟨X, h0, he⟩ := he
  obtain ⟨l1, l2, l3⟩ := lf
  unfold lRes at h
  simp only at h he h0
  split at h
  · next v =>
    simp only at he
    rw [Bool.and_eq_true, Bool.and_eq_true, ile_iff, ile_iff] at h
    obtain ⟨N, r', M', m1, m2, m3, m4⟩ := he
    cases r' with
    | none => exact m2.elim
    | some w =>
      obtain ⟨x, rfl, x1⟩ := yV_int h.1 m2
      have := tBd_N h0 x1.2
      exact ⟨X, N, x, M', h0, m1, by omega, m3, m4⟩
  · cases h
theorem lVoid_ok (h : lVoid lf = true) (he : tEnd1 xs sc d E Ws fr M lf) : ∃ X N M', xE (E ++ X) lf.2.2 ∧ mRun sc N d fr M = some (none, M') ∧ yH xs (E ++ X) lf.2.1 M' ∧ ∀ W ∈ Ws, yFr W M M' := by
  obtain ⟨X, h0, he⟩ := he
  obtain ⟨l1, l2, l3⟩ := lf
  unfold lVoid at h
  simp only at h he h0
  split at h
  · simp only at he
    obtain ⟨N, r', M', m1, m2, m3, m4⟩ := he
    cases r' with
    | some w => exact m2.elim
    | none => exact ⟨X, N, M', h0, m1, m3, m4⟩
  · cases h
theorem yF1_c {c k : Nat} {v : aV} (h : yF1 xs E M ((c, 0, (k : Int), 0), v)) : ∃ w, yRd xs M c k = some w ∧ yV E v w := by
  obtain ⟨k', h1, w, h2, h3⟩ := h
  have h1 : some (k : Int) = some (k' : Int) := h1
  have : k = k' := by
    have := Option.some.inj h1
    omega
  subst this
  exact ⟨w, h2, h3⟩
theorem lF_ok {c k : Nat} {v : aV} (h : lF c (k : Int) v lf = true) (hH : yH xs E lf.2.1 M) : ∃ w, yRd xs M c k = some w ∧ yV E v w := by
  unfold lF at h
  split at h
  · next w hw =>
    rw [aSame_eq h] at hw
    exact yF1_c (yF_find hH.2 hw)
  · cases h
theorem lFB_ok {c k : Nat} {l u : Int} (h : lFB c (k : Int) l u lf = true) (hE : xE E lf.2.2) (hH : yH xs E lf.2.1 M) : ∃ x : Int32, yRd xs M c k = some (.int x) ∧ l ≤ x.toInt ∧ x.toInt ≤ u := by
  unfold lFB at h
  split at h
  · next w hw =>
    rw [Bool.and_eq_true, Bool.and_eq_true, ile_iff, ile_iff] at h
    obtain ⟨v, v1, v2⟩ := yF1_c (yF_find hH.2 hw)
    obtain ⟨x, rfl, x1⟩ := yV_int h.1 v2
    have := tBd_N hE x1.2
    exact ⟨x, v1, by omega, by omega⟩
  · cases h
theorem lRel_ok {c k c' k' : Nat} {e : Int} (h : lRel c (k : Int) c' (k' : Int) e lf = true) (hE : xE E lf.2.2) (hH : yH xs E lf.2.1 M) : ∃ x x' : Int32, yRd xs M c k = some (.int x) ∧ yRd xs M c' k' = some (.int x') ∧ x.toInt - x'.toInt ≤ e := by
  unfold lRel at h
  split at h
  · next w w' hw hw' =>
    rw [Bool.and_eq_true, Bool.and_eq_true] at h
    obtain ⟨v, v1, v2⟩ := yF1_c (yF_find hH.2 hw)
    obtain ⟨x, rfl, x1⟩ := yV_int h.1 v2
    obtain ⟨v', v1', v2'⟩ := yF1_c (yF_find hH.2 hw')
    obtain ⟨x', rfl, x1'⟩ := yV_int h.2.1 v2'
    exact ⟨x, x', v1, v1', tImp_ok hE x1.2 x1'.2 h.2.2⟩
  · cases h
theorem lRelL_ok {c k : Nat} {v : aV} {n e : Int} (h : lRelL c (k : Int) v e lf = true) (hE : xE E lf.2.2) (hH : yH xs E lf.2.1 M) (hn : yN E v n) : ∃ x : Int32, yRd xs M c k = some (.int x) ∧ x.toInt - n ≤ e := by
  unfold lRelL at h
  split at h
  · next w hw =>
    rw [Bool.and_eq_true] at h
    obtain ⟨z, v1, v2⟩ := yF1_c (yF_find hH.2 hw)
    obtain ⟨x, rfl, x1⟩ := yV_int h.1 v2
    exact ⟨x, v1, tImp_ok hE x1.2 hn h.2⟩
  · cases h
theorem lRelG_ok {c k : Nat} {v : aV} {n e : Int} (h : lRelG c (k : Int) v e lf = true) (hE : xE E lf.2.2) (hH : yH xs E lf.2.1 M) (hn : yN E v n) : ∃ x : Int32, yRd xs M c k = some (.int x) ∧ e ≤ x.toInt - n := by
  unfold lRelG at h
  split at h
  · next w hw =>
    rw [Bool.and_eq_true] at h
    obtain ⟨z, v1, v2⟩ := yF1_c (yF_find hH.2 hw)
    obtain ⟨x, rfl, x1⟩ := yV_int h.1 v2
    have := tImp_ok hE hn x1.2 h.2
    exact ⟨x, v1, by omega⟩
  · cases h
/-- a local that is an atom and a number -/
theorem loc_i {X : List Int} {locs : List (Nat × aV)} {lv' : List (Nat × Value)} {k i : Nat} {a e : Int} (h : ∀ kv ∈ locs, ∃ c, mlg kv.1 lv' = some c ∧ yV (E ++ X) kv.2 c) (hm : (k, ((4, i, a, 0) : aV)) ∈ locs) (he : E[i]? = some e) : ∃ x : Int32, mlg k lv' = some (.int x) ∧ x.toInt = e + a := by
  obtain ⟨c, c1, c2⟩ := h _ hm
  obtain ⟨x, rfl, x1⟩ := yV_int rfl c2
  obtain ⟨e', e1, e2⟩ := x1.2
  rw [get_app he] at e1
  cases e1
  exact ⟨x, c1, e2⟩
theorem loc_r {X : List Int} {locs : List (Nat × aV)} {lv' : List (Nat × Value)} {k r : Nat} (h : ∀ kv ∈ locs, ∃ c, mlg kv.1 lv' = some c ∧ yV (E ++ X) kv.2 c) (hm : (k, kR r) ∈ locs) : mlg k lv' = some (.ref r) := by
  obtain ⟨c, c1, c2⟩ := h _ hm
  rw [c1, yV_ref c2]
/-- what is there is what it was -/
theorem yFr_nil {M M' : mHe} (h : yFr [] M M') (c k : Nat) : yRd xs M' c k = yRd xs M c k := h xs c k (fun g hg => by cases hg)
end SEG
/-! HAND: the papers that fall -/
theorem paperAt_run (hT : aTabOk) {d r : Nat} {t : Int32} {M : mHe} : ∃ N, mRun none N d (246, 0, lv_args 0 [.ref r, .int t], []) M = some (some (.int (160 + 10 * t)), M) := by
  have h : mEv none d (246, 0, lv_args 0 [.ref r, .int t], []) M (fun x M' => x = some (.int (160 + 10 * t)) ∧ M' = M) := by
    refine e_then (e_st hT (y := 246) (pc := 0) (q := (yX12_paperAt, cX12_paperAt, 2, (some .int), 12)) rfl (show aTab 246 0 = some (.sipush 160, 3, 0, 0, 0, 0, 0, 0) from rfl) (fr' := (246, 3, (lv_args 0 [.ref r, .int t]), [.int 160])) (M' := M) rfl) ?_
    refine e_then (e_st hT (y := 246) (pc := 3) (q := (yX12_paperAt, cX12_paperAt, 2, (some .int), 12)) rfl (show aTab 246 3 = some (.bipush 10, 2, 0, 0, 0, 0, 0, 0) from rfl) (fr' := (246, 5, (lv_args 0 [.ref r, .int t]), [.int 10, .int 160])) (M' := M) rfl) ?_
    refine e_then (e_il1 hT (y := 246) (pc := 5) (q := (yX12_paperAt, cX12_paperAt, 2, (some .int), 12)) rfl (show aTab 246 5 = some (.iload_n 1, 1, 0, 0, 0, 0, 0, 0) from rfl) rfl rfl) ?_
    refine e_then (e_st hT (y := 246) (pc := 6) (q := (yX12_paperAt, cX12_paperAt, 2, (some .int), 12)) rfl (show aTab 246 6 = some (.imul, 1, 0, 0, 0, 0, 0, 0) from rfl) (fr' := (246, 7, (lv_args 0 [.ref r, .int t]), [.int (10 * t), .int 160])) (M' := M) rfl) ?_
    refine e_then (e_st hT (y := 246) (pc := 7) (q := (yX12_paperAt, cX12_paperAt, 2, (some .int), 12)) rfl (show aTab 246 7 = some (.iadd, 1, 0, 0, 0, 0, 0, 0) from rfl) (fr' := (246, 8, (lv_args 0 [.ref r, .int t]), [.int (160 + (10 * t))])) (M' := M) rfl) ?_
    exact e_fin (e_iret hT (y := 246) (pc := 8) (q := (yX12_paperAt, cX12_paperAt, 2, (some .int), 12)) rfl (show aTab 246 8 = some (.ireturn, 1, 0, 0, 0, 0, 0, 0) from rfl) ⟨rfl, rfl⟩) ⟨rfl, rfl⟩
  obtain ⟨N, x, M', h1, rfl, rfl⟩ := h
  exact ⟨N, h1⟩
theorem paperAt_n {k : Nat} {x : Int32} (h : x.toInt = (k : Int)) (hk : k ≤ 40) (o : Int32) (ho : 0 ≤ o.toInt ∧ o.toInt ≤ 9) : (160 + 10 * x + o).toInt = 160 + 10 * (k : Int) + o.toInt := by
  have eC : Int32.toInt 10 = 10 := rfl
  have eD : Int32.toInt 160 = 160 := rfl
  exact i32_p (by rw [i32_lin (n := (k : Int)) h (by rw [eC]; omega) (by rw [eC]; omega) (by rw [eC, eD]; omega) (by rw [eC, eD]; omega), eC, eD]) rfl rfl (by omega)
/-- a paper's state written -/
theorem yTy_st {M : mHe} {k : Nat} {x : Int32} (hM : yTy M) (hk : k < 40) (hx : x.toInt = ((163 + 10 * k : Nat) : Int)) : ∃ f, M[120]? = some (.inl (4000, f)) ∧ yTy (M.set 120 (.inl (4000, upd f x.toInt.toNat 3))) := by
  have hE : xE [(k : Int)] ([(0, 39)], []) := by
    refine xE_of_list rfl (fun i l u e hb he => ?_)
    match i with
    | 0 => cases hb; cases he; omega
    | i + 1 => simp at hb
  have h0 : (tSa ([(0, 39)], []) [] [] 120 (8, 0, 163, 10) (kI 3)).isSome = true := by decide +kernel
  obtain ⟨fs', h⟩ := Option.isSome_iff_exists.mp h0
  obtain ⟨n, f, h1, h2, h3, h4, -⟩ := tSa_ok (xs := (0, fun _ => 0)) (x := x) (y := 3) hE (fun q hq => by cases hq) hM (show yN [(k : Int)] (8, 0, 163, 10) x.toInt from ⟨(k : Int), rfl, by decide, by omega⟩) (yI_kI _ rfl).2 h
  obtain ⟨f2, hf2, -⟩ := yTy_arr hM tTy_120
  rw [h1] at hf2
  cases hf2
  exact ⟨f, h1, h4⟩
def lfK : tKt := (fun y pc => bif Nat.beq y 284 && (Nat.beq pc 4 || Nat.beq pc 22) then some (.inr none) else none, [])
def lfA (k : Nat) : Bool := tCk lfK 400 4 [[]] (284, 5, [(0, kR 128), (1, (4, 0, 0, 0)), (2, kI k)], [kI k]) [] ([(0, 40)], []) (fun lf => lRes 0 40 lf || (lAt 284 4 [] [(0, kR 128), (1, (4, 0, 0, 0))] lf && lL 2 (k + 1) (k + 1) lf && Nat.blt k 40) || (lAt 284 22 [] [(0, kR 128), (1, (4, 0, 0, 0))] lf && lL 2 k k lf && lFB 120 ((163 + 10 * k : Nat) : Int) 0 0 lf && Nat.blt k 40))
theorem lfA_all : (List.range 41).all lfA = true := by decide +kernel
/-- how many of the first n are so -/
def cnB (g : Nat → Bool) : Nat → Nat
  | 0 => 0
  | n + 1 => cnB g n + (if g n = true then 1 else 0)
theorem cnB_le (g : Nat → Bool) : ∀ n, cnB g n ≤ n := by
  intro n
  induction n with
  | zero => exact Nat.le_refl 0
  | succ n ih => unfold cnB; split <;> omega
theorem cnB_eq {g g' : Nat → Bool} : ∀ n, (∀ i, i < n → g' i = g i) → cnB g' n = cnB g n := by
  intro n
  induction n with
  | zero => intro _; rfl
  | succ n ih => intro h; unfold cnB; rw [ih (fun i hi => h i (by omega)), h n (by omega)]
theorem cnB_dn {g g' : Nat → Bool} {k : Nat} (h : ∀ i, i ≠ k → g' i = g i) (h1 : g k = true) (h2 : g' k = false) : ∀ n, k < n → cnB g' n + 1 = cnB g n := by
  intro n
  induction n with
  | zero => intro z; omega
  | succ n ih =>
    intro hk
    unfold cnB
    by_cases e : k = n
    · subst e
      rw [cnB_eq k (fun i hi => h i (by omega)), h1, h2]
      simp
    · have := ih (by omega)
      rw [h n (by omega)]
      omega
/-- an open paper -/
def lfO (M : mHe) (k : Nat) : Bool := match yRd (0, fun _ => 0) M 120 (163 + 10 * k) with
  | some (.int x) => x == 0
  | _ => false
theorem i32_0 {x : Int32} (h : x.toInt = 0) : x = 0 := i32eq h
theorem blt_lt {a b : Nat} (h : Nat.blt a b = true) : a < b := Nat.le_of_ble_eq_true h
theorem yRd_upd {xs : tXs} {M : mHe} {c n k i c' : Nat} {f : Nat → Int32} {x : Int32} (hs : M[c]? = some (.inl (n, f))) (hne : ¬ (c' = c ∧ i = k)) : yRd xs (M.set c (.inl (n, upd f k x))) c' i = yRd xs M c' i := by
  by_cases hc2 : c' = c
  · subst hc2
    have : i ≠ k := fun z => hne ⟨rfl, z⟩
    unfold yRd
    rw [List.getElem?_set_self (List.getElem?_eq_some_iff.mp hs).1, hs]
    simp only
    rw [upd_ne f x this]
  · exact yRd_ne hc2
theorem fall_loop (hT : aTabOk) {M0 : mHe} : ∀ (c j k : Nat) (M : mHe) (lv : List (Nat × Value)) (n : Int32), k + j = 40 → cnB (lfO M) 40 = c → yTy M → yFr [(120, 160, 559, 10, 3)] M0 M → mlg 0 lv = some (.ref 128) → mlg 1 lv = some (.int n) → (0 ≤ n.toInt ∧ n.toInt + c ≤ 40) → mlg 2 lv = some (.int (Int32.ofNat k)) → mEv none 4 (284, 4, lv, []) M (fun r M' => ∃ x : Int32, r = some (.int x) ∧ (0 ≤ x.toInt ∧ x.toInt ≤ 40) ∧ yTy M' ∧ yFr [(120, 160, 559, 10, 3)] M0 M') := by
  intro c
  induction c using Nat.strongRecOn with
  | _ c ihc =>
  intro j
  induction j with
  | zero => ?_
  | succ j ihj => ?_
  all_goals
    intro k M lv n hk hc hM hfr l0 l1 hn l2
    have e5 := i32n (k := k) (by omega)
    refine e_then (e_il1 hT (y := 284) (pc := 4) (q := (yX12_letFall, cX12_letFall, 3, (some .int), 12)) rfl (show aTab 284 4 = some (.iload_n 2, 1, 0, 0, 0, 0, 0, 0) from rfl) rfl l2) ?_
    have hA := List.all_eq_true.mp lfA_all k (List.mem_range.mpr (by omega))
    unfold lfA at hA
    have hE : xE [n.toInt] ([(0, 40)], []) := by
      refine xE_of_list rfl (fun i l u e hb he => ?_)
      match i with
      | 0 => cases hb; cases he; exact ⟨by omega, i32_lo _, i32_hi _⟩
      | i + 1 => simp at hb
    have hL : yLv [n.toInt] [(0, kR 128), (1, (4, 0, 0, 0)), (2, kI k)] lv := yLv_cons l0 (yV_kR _ _) (yLv_cons l1 (yV_atom rfl) (yLv_cons l2 (yV_kI _ e5) (yLv_nil _ _)))
    obtain ⟨lf, f1, f2⟩ := tSegC (xs := (0, fun _ => 0)) hT (fun ct hct => by cases hct) hA hE hL (cst := [.int (Int32.ofNat k)]) ⟨yV_kI _ e5, trivial⟩ ⟨hM, fun q hq => by cases hq⟩
    simp only [Bool.or_eq_true, Bool.and_eq_true] at f1
    rcases f1 with (f1 | ⟨⟨f1, f3⟩, f4⟩) | ⟨⟨⟨f1, f3⟩, f4⟩, f5⟩
    · obtain ⟨X, N, x, M', m1, m2, m3, m4, m5⟩ := lRes_ok f1 f2
      refine ⟨N, _, M', m2, x, rfl, m3, m4.1, fun xs c k hn => ?_⟩
      rw [m5 _ (List.mem_singleton_self _) xs c k (fun g hg => by cases hg)]
      exact hfr xs c k hn
  · have := blt_lt f4
    omega
  · have := blt_lt f5
    omega
  · obtain ⟨X, lv', st', M', m1, m2, m3, m4, m5, m6, m7⟩ := lAt_ok f1 f2
    have h7 : ∀ xs c k, yRd xs M' c k = yRd xs M c k := fun xs c k => m7 _ (List.mem_singleton_self _) xs c k (fun g hg => by cases hg)
    obtain ⟨n', n1, n2⟩ := loc_i (k := 1) (i := 0) (a := 0) (e := n.toInt) m4 (by simp) rfl
    obtain ⟨k', k1, k2, k3⟩ := m5 _ _ _ f3
    have hn' : n' = n := i32eq (by omega)
    have hk' : k' = Int32.ofNat (k + 1) := i32eq (by rw [i32n (by omega)]; omega)
    subst hn'; subst hk'
    have hst := yS_nil m3
    subst hst
    refine e_then m2 (ihj (k + 1) M' lv' n' (by omega) ?_ m6.1 (fun xs c k hn => by rw [h7]; exact hfr xs c k hn) (loc_r m4 (by simp)) n1 hn k1)
    rw [← hc]
    exact cnB_eq 40 (fun i _ => by unfold lfO; rw [h7])
  · obtain ⟨X, lv', st', M1, m1, m2, m3, m4, m5, m6, m7⟩ := lAt_ok f1 f2
    have h7 : ∀ xs c k, yRd xs M1 c k = yRd xs M c k := fun xs c k => m7 _ (List.mem_singleton_self _) xs c k (fun g hg => by cases hg)
    obtain ⟨n', n1, n2⟩ := loc_i (k := 1) (i := 0) (a := 0) (e := n.toInt) m4 (by simp) rfl
    obtain ⟨k', k1, k2, k3⟩ := m5 _ _ _ f3
    have hn' : n' = n := i32eq (by omega)
    have hk' : k' = Int32.ofNat k := i32eq (by omega)
    subst hn'; subst hk'
    have hst := yS_nil m3
    subst hst
    refine e_then m2 ?_
    obtain ⟨z, z1, z2⟩ := lFB_ok (k := 163 + 10 * k) f4 m1 m6
    have z0 : z = 0 := i32_0 (by omega)
    subst z0
    have e3 : Int32.toInt 3 = 3 := rfl
    have hix : ((160 : Int32) + 10 * Int32.ofNat k + 3).toInt = ((163 + 10 * k : Nat) : Int) := by rw [paperAt_n e5 (by omega) 3 (by rw [e3]; omega), e3]; omega
    obtain ⟨f, hs, hT2⟩ := yTy_st m6.1 (k := k) (by omega) hix
    obtain ⟨N1, hp1⟩ := paperAt_run hT (d := 3) (r := 128) (t := Int32.ofNat k) (M := M1)
    obtain ⟨fo, hmo, -⟩ := yTy_obj m6.1 (rfl : tTy 119 = some (.inr (12, _)))
    have hbx : 0 ≤ ((160 : Int32) + 10 * Int32.ofNat k + 3).toInt ∧ ((160 : Int32) + 10 * Int32.ofNat k + 3).toInt < (4000 : Nat) := by rw [hix]; omega
    have g0 : mlg 0 lv' = some (.ref 128) := loc_r m4 (by simp)
    have hix2 : ((160 : Int32) + 10 * Int32.ofNat k + 3).toInt.toNat = 163 + 10 * k := by rw [hix]; rfl
    refine e_then (e_al1 hT (y := 284) (pc := 22) (q := (yX12_letFall, cX12_letFall, 3, (some .int), 12)) rfl (show aTab 284 22 = some (.aload_n 0, 1, 0, 0, 0, 0, 0, 0) from rfl) rfl g0) ?_
    refine e_then (e_getR hT (y := 284) (pc := 23) (q := (yX12_letFall, cX12_letFall, 3, (some .int), 12)) rfl (show aTab 284 23 = some (.getfield 7, 3, 0, 12, 0, 0, 0, 0) from rfl) rfl (by decide) (by decide) m6.1 rfl rfl) ?_
    refine e_then (e_al1 hT (y := 284) (pc := 26) (q := (yX12_letFall, cX12_letFall, 3, (some .int), 12)) rfl (show aTab 284 26 = some (.aload_n 0, 1, 0, 0, 0, 0, 0, 0) from rfl) rfl g0) ?_
    refine e_then (e_il1 hT (y := 284) (pc := 27) (q := (yX12_letFall, cX12_letFall, 3, (some .int), 12)) rfl (show aTab 284 27 = some (.iload_n 2, 1, 0, 0, 0, 0, 0, 0) from rfl) rfl k1) ?_
    refine e_then (e_call hT (y := 284) (pc := 28) (q := (yX12_letFall, cX12_letFall, 3, (some .int), 12)) rfl (show aTab 284 28 = some (.invokevirtual 73, 3, 1, 246, 0, 1, 2, 12) from rfl) rfl ⟨by decide, Nat.le_of_ble_eq_true rfl⟩ hmo (Nat.le_of_ble_eq_true rfl) (Nat.le_of_ble_eq_true rfl) ⟨by decide, by decide⟩ hp1) ?_
    refine e_then (e_st hT (y := 284) (pc := 31) (q := (yX12_letFall, cX12_letFall, 3, (some .int), 12)) rfl (show aTab 284 31 = some (.iconst 3, 1, 0, 0, 0, 0, 0, 0) from rfl) (fr' := (284, 32, lv', [.int 3, .int (160 + 10 * Int32.ofNat k), .ref 129])) (M' := M1) rfl) ?_
    refine e_then (e_st hT (y := 284) (pc := 32) (q := (yX12_letFall, cX12_letFall, 3, (some .int), 12)) rfl (show aTab 284 32 = some (.iadd, 1, 0, 0, 0, 0, 0, 0) from rfl) (fr' := (284, 33, lv', [.int ((160 + 10 * Int32.ofNat k) + 3), .ref 129])) (M' := M1) rfl) ?_
    refine e_then (e_st hT (y := 284) (pc := 33) (q := (yX12_letFall, cX12_letFall, 3, (some .int), 12)) rfl (show aTab 284 33 = some (.iconst 3, 1, 0, 0, 0, 0, 0, 0) from rfl) (fr' := (284, 34, lv', [.int 3, .int ((160 + 10 * Int32.ofNat k) + 3), .ref 129])) (M' := M1) rfl) ?_
    refine e_then (e_ast hT (y := 284) (pc := 34) (q := (yX12_letFall, cX12_letFall, 3, (some .int), 12)) rfl (show aTab 284 34 = some (.iastore, 1, 0, 0, 0, 0, 0, 0) from rfl) ⟨rfl, by omega⟩ hs hbx) ?_
    refine e_then (e_ii hT (y := 284) (pc := 35) (q := (yX12_letFall, cX12_letFall, 3, (some .int), 12)) rfl (show aTab 284 35 = some (.iinc 1 1, 3, 0, 0, 0, 0, 0, 0) from rfl) ⟨rfl, by decide⟩ n1) ?_
    refine e_then (e_st hT (y := 284) (pc := 38) (q := (yX12_letFall, cX12_letFall, 3, (some .int), 12)) rfl (show aTab 284 38 = some (.iconst (-1), 1, 0, 0, 0, 0, 0, 0) from rfl) (fr' := (284, 39, (mlp 1 (.int (n' + Int32.ofInt 1)) lv'), [.int (-1)])) (M' := (M1.set 120 (.inl (4000, upd f ((160 : Int32) + 10 * Int32.ofNat k + 3).toInt.toNat 3)))) rfl) ?_
    refine e_then (e_is1 hT (y := 284) (pc := 39) (q := (yX12_letFall, cX12_letFall, 3, (some .int), 12)) rfl (show aTab 284 39 = some (.istore_n 2, 1, 0, 0, 0, 0, 0, 0) from rfl) ⟨rfl, by decide⟩) ?_
    refine e_then (e_ii hT (y := 284) (pc := 40) (q := (yX12_letFall, cX12_letFall, 3, (some .int), 12)) rfl (show aTab 284 40 = some (.iinc 2 1, 3, 0, 0, 0, 0, 0, 0) from rfl) ⟨rfl, by decide⟩ (mlg_eq 2 _ _)) ?_
    refine e_then (e_st hT (y := 284) (pc := 43) (q := (yX12_letFall, cX12_letFall, 3, (some .int), 12)) rfl (show aTab 284 43 = some (.goto (-39), 3, 0, 0, 0, 0, 0, 0) from rfl) (fr' := (284, 4, _, [])) (M' := _) rfl) ?_
    rw [hix2] at hT2 ⊢
    have y1 : yRd (0, fun _ => 0) (M1.set 120 (.inl (4000, upd f (163 + 10 * k) 3))) 120 (163 + 10 * k) = some (.int 3) := by
      rw [yRd_arr _ (by decide) (List.getElem?_set_self (List.getElem?_eq_some_iff.mp hs).1) (by omega), upd_same]
    have h8 : ∀ xs c i, ¬ (c = 120 ∧ i = 163 + 10 * k) → yRd xs (M1.set 120 (.inl (4000, upd f (163 + 10 * k) 3))) c i = yRd xs M c i := fun xs c i hne => by
      rw [← h7]
      exact yRd_upd hs hne
    revert y1 h8 hT2
    show yTy (M1.set 120 (.inl (4000, upd f (163 + 10 * k) 3))) → _
    generalize (M1.set 120 (.inl (4000, upd f (163 + 10 * k) 3))) = M2
    intro hT2 y1 h8
    have hO : lfO M k = true := by
      unfold lfO
      rw [← h7, z1]
      rfl
    have hO2 : lfO M2 k = false := by
      unfold lfO
      rw [y1]
      rfl
    have hdn := cnB_dn (g := lfO M) (g' := lfO M2) (k := k) (fun i hi => by unfold lfO; rw [h8 _ _ _ (fun z => hi (by omega))]) hO hO2 40 (by omega)
    have e1 : (Int32.ofInt 1).toInt = 1 := rfl
    refine ihc (cnB (lfO M2) 40) (by omega) 40 0 M2 _ (n' + Int32.ofInt 1) (by omega) rfl hT2 (fun xs c i hn => ?_) (mlg_r (mlg_r (mlg_r g0 (by decide)) (by decide)) (by decide)) (mlg_i (mlg_i (mlg_eq 1 _ _) (by decide)) (by decide)) (by rw [i32_add (by rw [e1]; omega) (by rw [e1]; omega), e1]; omega) (by rw [mlg_eq]; rfl)
    rw [h8 xs c i (fun z => hn _ (List.mem_singleton_self _) ⟨z.1.symm, by show (160 : Int) ≤ _; omega, by show _ ≤ (559 : Int); omega, by rw [z.2]; show ((163 + 10 * k : Nat) : Int) % 10 = 3; omega⟩)]
    exact hfr xs c i hn
theorem hand_fall (hT : aTabOk) : tCtOk (284, [(0, 128, 0, 0)], some (0, 40), [(120, 160, 559, 10, 3)], 4, [], []) := by
  intro M vs d hM hvs hd _
  match vs, hvs with
  | [v1], h =>
    have h1 : v1 = .ref 128 := h.1
    subst h1
    have main : mEv none 4 (284, 0, lv_args 0 [.ref 128], []) M (fun r M' => ∃ x : Int32, r = some (.int x) ∧ (0 ≤ x.toInt ∧ x.toInt ≤ 40) ∧ yTy M' ∧ yFr [(120, 160, 559, 10, 3)] M M') := by
      refine e_then (e_st hT (y := 284) (pc := 0) (q := (yX12_letFall, cX12_letFall, 3, (some .int), 12)) rfl (show aTab 284 0 = some (.iconst 0, 1, 0, 0, 0, 0, 0, 0) from rfl) (fr' := (284, 1, (lv_args 0 [.ref 128]), [.int 0])) (M' := M) rfl) ?_
      refine e_then (e_is1 hT (y := 284) (pc := 1) (q := (yX12_letFall, cX12_letFall, 3, (some .int), 12)) rfl (show aTab 284 1 = some (.istore_n 1, 1, 0, 0, 0, 0, 0, 0) from rfl) ⟨rfl, by decide⟩) ?_
      refine e_then (e_st hT (y := 284) (pc := 2) (q := (yX12_letFall, cX12_letFall, 3, (some .int), 12)) rfl (show aTab 284 2 = some (.iconst 0, 1, 0, 0, 0, 0, 0, 0) from rfl) (fr' := (284, 3, (mlp 1 (.int 0) (lv_args 0 [.ref 128])), [.int 0])) (M' := M) rfl) ?_
      refine e_then (e_is1 hT (y := 284) (pc := 3) (q := (yX12_letFall, cX12_letFall, 3, (some .int), 12)) rfl (show aTab 284 3 = some (.istore_n 2, 1, 0, 0, 0, 0, 0, 0) from rfl) ⟨rfl, by decide⟩) ?_
      exact fall_loop hT _ 40 0 M _ 0 (Nat.zero_add _) rfl hM (yFr_rf _ M) (mlg_r (mlg_r rfl (by decide)) (by decide)) (mlg_i (mlg_eq 1 _ _) (by decide)) ⟨by decide, by have := cnB_le (lfO M) 40; have e0 : (0 : Int32).toInt = 0 := rfl; omega⟩ (mlg_eq 2 _ _)
    obtain ⟨N, r, M', m1, x, rfl, m2, m3, m4⟩ := main
    exact ⟨N, _, M', mRun_dm m1 hd, m3, m4, ⟨x, rfl, m2⟩, fun ab hab => by cases hab⟩
