/-! HAND: the shift's tables -/
/-- what one gives in an hour; nx: the next hour's row; below 0: that may not be -/
def hbV (H : Nat → Nat → Int32) (N : Nat) (nx : Nat → Int32) (h la tw who : Nat) : Int32 := if who < 6 ∧ (N ≤ who ∨ (who = la ∧ tw = 1)) then -1 else H h who + nx (2 * who + (if who = la ∧ who < 6 then 1 else 0))
def mxV (v : Nat → Int32) : Nat → Int32
  | 0 => 0
  | w + 1 => if mxV v w < v w then v w else mxV v w
/-- the row of the hour d hours ahead of the last one's end -/
def rowV (H : Nat → Nat → Int32) (N n : Nat) : Nat → Nat → Int32
  | 0, _ => 0
  | d + 1, k => mxV (hbV H N (rowV H N n d) (n - 1 - d) (k / 2) (k % 2)) 7
/-- the first that gives so much -/
def fsV (v : Nat → Int32) (x : Int32) : Nat → Nat → Nat
  | 0, w => w
  | j + 1, w => if v w = x then w else fsV v x j (w + 1)
/-- who has an hour, and whether for the second time -/
def goV (H : Nat → Nat → Int32) (N n : Nat) : Nat → Nat × Nat
  | 0 => (6, 0)
  | h + 1 => let p := goV H N n h
    let w := fsV (hbV H N (rowV H N n (n - 1 - h)) h p.1 p.2) (rowV H N n (n - h) (2 * p.1 + p.2)) 6 0
    (w, if w = p.1 ∧ w < 6 then 1 else 0)
theorem mxV_ge (v : Nat → Int32) : ∀ w : Nat, 0 ≤ (mxV v w).toInt ∧ ∀ u, u < w → (v u).toInt ≤ (mxV v w).toInt := by
  intro w
  induction w with
  | zero => exact ⟨by show 0 ≤ (0 : Int32).toInt; decide, fun u hu => by omega⟩
  | succ w ih =>
    have h : mxV v (w + 1) = if mxV v w < v w then v w else mxV v w := rfl
    by_cases hc : mxV v w < v w
    · rw [h, if_pos hc]
      have hc := Int32.lt_iff_toInt_lt.mp hc
      exact ⟨by omega, fun u hu => by
        by_cases e : u = w
        · subst e; omega
        · have := ih.2 u (by omega); omega⟩
    · rw [h, if_neg hc]
      have hc : ¬ (mxV v w).toInt < (v w).toInt := fun z => hc (Int32.lt_iff_toInt_lt.mpr z)
      exact ⟨ih.1, fun u hu => by
        by_cases e : u = w
        · subst e; omega
        · exact ih.2 u (by omega)⟩
theorem mxV_at (v : Nat → Int32) : ∀ w : Nat, mxV v w = 0 ∨ ∃ u, u < w ∧ v u = mxV v w := by
  intro w
  induction w with
  | zero => exact Or.inl rfl
  | succ w ih =>
    have h : mxV v (w + 1) = if mxV v w < v w then v w else mxV v w := rfl
    by_cases hc : mxV v w < v w
    · rw [h, if_pos hc]
      exact Or.inr ⟨w, by omega, rfl⟩
    · rw [h, if_neg hc]
      rcases ih with ih | ⟨u, u1, u2⟩
      · exact Or.inl ih
      · exact Or.inr ⟨u, by omega, u2⟩
section SHV
variable {H : Nat → Nat → Int32} {N n : Nat}
theorem rowV_b (hH : ∀ h w, 0 ≤ (H h w).toInt ∧ (H h w).toInt ≤ 1) : ∀ (d k : Nat), d ≤ 8 → 0 ≤ (rowV H N n d k).toInt ∧ (rowV H N n d k).toInt ≤ d := by
  intro d
  induction d with
  | zero => intro k _; exact ⟨by show 0 ≤ (0 : Int32).toInt; decide, by show (0 : Int32).toInt ≤ _; decide⟩
  | succ d ih =>
    intro k hd
    have h : rowV H N n (d + 1) k = mxV (hbV H N (rowV H N n d) (n - 1 - d) (k / 2) (k % 2)) 7 := rfl
    rw [h]
    refine ⟨(mxV_ge _ 7).1, ?_⟩
    rcases mxV_at (hbV H N (rowV H N n d) (n - 1 - d) (k / 2) (k % 2)) 7 with e | ⟨u, u1, u2⟩
    · rw [e, show (0 : Int32).toInt = 0 from rfl]; omega
    · rw [← u2]
      unfold hbV
      split
      · rw [show (-1 : Int32).toInt = -1 from rfl]; omega
      · have h1 := hH (n - 1 - d) u
        have h2 := ih (2 * u + (if u = k / 2 ∧ u < 6 then 1 else 0)) (by omega)
        rw [i32_add (by omega) (by omega)]
        omega
theorem hbV_6 {nx : Nat → Int32} {h la tw : Nat} (h6 : H h 6 = 0) : hbV H N nx h la tw 6 = nx 12 := by
  unfold hbV
  rw [if_neg (fun z => by have := z.1; omega), if_neg (fun z => by have := z.2; omega), h6]
  exact Int32.zero_add _
/-- the best is somebody's, or nobody's -/
theorem mxV_who (hH : ∀ h w, 0 ≤ (H h w).toInt ∧ (H h w).toInt ≤ 1) (h6 : ∀ h, H h 6 = 0) {d h la tw : Nat} (hd : d ≤ 8) : ∃ w, w ≤ 6 ∧ hbV H N (rowV H N n d) h la tw w = mxV (hbV H N (rowV H N n d) h la tw) 7 := by
  rcases mxV_at (hbV H N (rowV H N n d) h la tw) 7 with e | ⟨u, u1, u2⟩
  · refine ⟨6, Nat.le_refl 6, ?_⟩
    have h1 := (mxV_ge (hbV H N (rowV H N n d) h la tw) 7).2 6 (by omega)
    have h2 := rowV_b (N := N) (n := n) hH d 12 hd
    rw [hbV_6 (h6 h)] at h1 ⊢
    refine i32eq ?_
    rw [e, show (0 : Int32).toInt = 0 from rfl] at h1 ⊢
    omega
  · exact ⟨u, by omega, u2⟩
end SHV
theorem fsV_at {v : Nat → Int32} {x : Int32} : ∀ (j w : Nat), (∃ u, w ≤ u ∧ u ≤ w + j ∧ v u = x) → v (fsV v x j w) = x ∧ w ≤ fsV v x j w ∧ fsV v x j w ≤ w + j ∧ ∀ u, w ≤ u → u < fsV v x j w → v u ≠ x := by
  intro j
  induction j with
  | zero =>
    intro w ⟨u, u1, u2, u3⟩
    have : u = w := by omega
    subst this
    exact ⟨u3, Nat.le_refl _, Nat.le_refl _, fun u h1 h2 => absurd h2 (by show ¬ u < fsV v x 0 _; unfold fsV; omega)⟩
  | succ j ih =>
    intro w ⟨u, u1, u2, u3⟩
    by_cases hc : v w = x
    · have e : fsV v x (j + 1) w = w := by show (if _ then _ else _) = _; rw [if_pos hc]
      rw [e]
      exact ⟨hc, Nat.le_refl _, by omega, fun u h1 h2 => by omega⟩
    · have e : fsV v x (j + 1) w = fsV v x j (w + 1) := by show (if _ then _ else _) = _; rw [if_neg hc]
      rw [e]
      obtain ⟨i1, i2, i3, i4⟩ := ih (w + 1) ⟨u, by
        by_cases z : u = w
        · subst z; exact absurd u3 hc
        · omega, by omega, u3⟩
      exact ⟨i1, by omega, by omega, fun u h1 h2 => by
        by_cases z : u = w
        · subst z; exact hc
        · exact i4 u (by omega) h2⟩
theorem goV_b {H : Nat → Nat → Int32} {N n : Nat} : ∀ h : Nat, (goV H N n h).2 ≤ 1 ∧ ((∀ h w, 0 ≤ (H h w).toInt ∧ (H h w).toInt ≤ 1) → (∀ h, H h 6 = 0) → n ≤ 8 → h ≤ n → (goV H N n h).1 ≤ 6) := by
  intro h
  cases h with
  | zero => exact ⟨Nat.zero_le _, fun _ _ _ _ => Nat.le_refl 6⟩
  | succ h =>
    refine ⟨?_, fun hH h6 hn hh => ?_⟩
    · show (if _ then 1 else 0) ≤ 1
      split <;> omega
    · show fsV _ _ 6 0 ≤ 6
      have e : n - h = (n - 1 - h) + 1 := by omega
      have hx : ∀ k, rowV H N n (n - h) k = mxV (hbV H N (rowV H N n (n - 1 - h)) h (k / 2) (k % 2)) 7 := fun k => by
        rw [e]
        show mxV (hbV H N (rowV H N n (n - 1 - h)) (n - 1 - (n - 1 - h)) (k / 2) (k % 2)) 7 = _
        rw [show n - 1 - (n - 1 - h) = h by omega]
      have ht : (goV H N n h).2 ≤ 1 := by
        cases h with
        | zero => exact Nat.zero_le _
        | succ h => show (if _ then 1 else 0) ≤ 1; split <;> omega
      obtain ⟨w, w1, w2⟩ := mxV_who (N := N) (n := n) hH h6 (d := n - 1 - h) (h := h) (la := (goV H N n h).1) (tw := (goV H N n h).2) (by omega)
      have h2 := (fsV_at 6 0 (x := rowV H N n (n - h) (2 * (goV H N n h).1 + (goV H N n h).2)) (v := hbV H N (rowV H N n (n - 1 - h)) h (goV H N n h).1 (goV H N n h).2) ⟨w, by omega, by omega, by
        rw [hx, show (2 * (goV H N n h).1 + (goV H N n h).2) / 2 = (goV H N n h).1 by omega, show (2 * (goV H N n h).1 + (goV H N n h).2) % 2 = (goV H N n h).2 by omega]
        exact w2⟩).2.2.1
      omega
/-! here -/
def xHr (g : Nat → Nat → Int32) (h who : Nat) : Int32 := if who < 6 ∧ ¬ (g 42 h &&& g 41 who = 0) then 1 else 0
theorem xH_b (g : Nat → Nat → Int32) : ∀ h w, 0 ≤ (xHr g h w).toInt ∧ (xHr g h w).toInt ≤ 1 := fun h w => by
  unfold xHr
  split
  · decide
  · decide
theorem xH_6 (g : Nat → Nat → Int32) : ∀ h, xHr g h 6 = 0 := fun h => by
  unfold xHr
  rw [if_neg (fun z => by have := z.1; omega)]
theorem xhi_run (hT : aTabOk) {M : mHe} (hM : yTy M) {g : Nat → Nat → Int32} (hg : rdI M = g) {h who : Nat} (hh : h ≤ 7) (hw : who ≤ 6) {d : Nat} (hd : 10 ≤ d) : ∃ K, mRun none K d (151, 0, lv_args 0 [.ref 49, .int (Int32.ofNat h), .int (Int32.ofNat who)], []) M = some (some (.int (xHr g h who)), M) := by
  have eh := i32n (k := h) (by omega)
  have ew := i32n (k := who) (by omega)
  obtain ⟨K1, q1⟩ := within_i hT (M := M) (v := Int32.ofNat h) (l := 0) (h := 7) (d := 9) (by decide)
  obtain ⟨K2, q2⟩ := within_i hT (M := M) (v := Int32.ofNat who) (l := 0) (h := 5) (d := 9) (by decide)
  rw [show (0 : Int32).toInt = 0 from rfl, show (7 : Int32).toInt = 7 from rfl, gB_t (show (0 : Int) ≤ (Int32.ofNat h).toInt ∧ (Int32.ofNat h).toInt ≤ 7 by omega)] at q1
  rw [show (0 : Int32).toInt = 0 from rfl, show (5 : Int32).toInt = 5 from rfl] at q2
  have go : mEv none 10 (151, 0, lv_args 0 [.ref 49, .int (Int32.ofNat h), .int (Int32.ofNat who)], []) M (fun r M' => r = some (.int (xHr g h who)) ∧ M' = M) := by
    unfold xHr
    by_cases c1 : who < 6
    · rw [gB_t (show (0 : Int) ≤ (Int32.ofNat who).toInt ∧ (Int32.ofNat who).toInt ≤ 5 by omega)] at q2
      by_cases c2 : g 42 h &&& g 41 who = 0
      · rw [if_neg (fun z => z.2 c2)]
        refine e_then (e_il1 hT (y := 151) (pc := 0) (q := (yX7_heardIn, cX7_heardIn, 3, (some .int), 7)) rfl (show aTab 151 0 = some (.iload_n 1, 1, 0, 0, 0, 0, 0, 0) from rfl) rfl rfl) ?_
        refine e_then (e_st hT (y := 151) (pc := 1) (q := (yX7_heardIn, cX7_heardIn, 3, (some .int), 7)) rfl (show aTab 151 1 = some (.iconst 0, 1, 0, 0, 0, 0, 0, 0) from rfl) (fr' := (151, 2, (lv_args 0 [.ref 49, .int (Int32.ofNat h), .int (Int32.ofNat who)]), [.int 0, .int (Int32.ofNat h)])) (M' := M) rfl) ?_
        refine e_then (e_st hT (y := 151) (pc := 2) (q := (yX7_heardIn, cX7_heardIn, 3, (some .int), 7)) rfl (show aTab 151 2 = some (.bipush 7, 2, 0, 0, 0, 0, 0, 0) from rfl) (fr' := (151, 4, (lv_args 0 [.ref 49, .int (Int32.ofNat h), .int (Int32.ofNat who)]), [.int 7, .int 0, .int (Int32.ofNat h)])) (M' := M) rfl) ?_
        refine e_then (e_callsN hT (y := 151) (pc := 4) (q := (yX7_heardIn, cX7_heardIn, 3, (some .int), 7)) rfl (show aTab 151 4 = some (.invokestatic 30, 3, 3, 234, 0, 3, 3, 11) from rfl) (Nat.le_of_ble_eq_true rfl) (Nat.le_of_ble_eq_true rfl) (Nat.le_of_ble_eq_true rfl) ⟨by decide, by decide⟩ q1) ?_
        refine e_then (e_ifF hT (y := 151) (pc := 7) (q := (yX7_heardIn, cX7_heardIn, 3, (some .int), 7)) rfl (show aTab 151 7 = some (.ifCond .eq 12, 3, 0, 0, 0, 0, 0, 0) from rfl) rfl (t := 19) rfl (cdF (by show ¬ (1 : Int32).toInt = 0; decide))) ?_
        refine e_then (e_il1 hT (y := 151) (pc := 10) (q := (yX7_heardIn, cX7_heardIn, 3, (some .int), 7)) rfl (show aTab 151 10 = some (.iload_n 2, 1, 0, 0, 0, 0, 0, 0) from rfl) rfl rfl) ?_
        refine e_then (e_st hT (y := 151) (pc := 11) (q := (yX7_heardIn, cX7_heardIn, 3, (some .int), 7)) rfl (show aTab 151 11 = some (.iconst 0, 1, 0, 0, 0, 0, 0, 0) from rfl) (fr' := (151, 12, (lv_args 0 [.ref 49, .int (Int32.ofNat h), .int (Int32.ofNat who)]), [.int 0, .int (Int32.ofNat who)])) (M' := M) rfl) ?_
        refine e_then (e_st hT (y := 151) (pc := 12) (q := (yX7_heardIn, cX7_heardIn, 3, (some .int), 7)) rfl (show aTab 151 12 = some (.iconst 5, 1, 0, 0, 0, 0, 0, 0) from rfl) (fr' := (151, 13, (lv_args 0 [.ref 49, .int (Int32.ofNat h), .int (Int32.ofNat who)]), [.int 5, .int 0, .int (Int32.ofNat who)])) (M' := M) rfl) ?_
        refine e_then (e_callsN hT (y := 151) (pc := 13) (q := (yX7_heardIn, cX7_heardIn, 3, (some .int), 7)) rfl (show aTab 151 13 = some (.invokestatic 30, 3, 3, 234, 0, 3, 3, 11) from rfl) (Nat.le_of_ble_eq_true rfl) (Nat.le_of_ble_eq_true rfl) (Nat.le_of_ble_eq_true rfl) ⟨by decide, by decide⟩ q2) ?_
        refine e_then (e_ifT hT (y := 151) (pc := 16) (q := (yX7_heardIn, cX7_heardIn, 3, (some .int), 7)) rfl (show aTab 151 16 = some (.ifCond .ne 5, 3, 0, 0, 0, 0, 0, 0) from rfl) rfl (t := 21) rfl (cdT (by show ¬ (1 : Int32).toInt = 0; decide))) ?_
        refine e_then (e_al1 hT (y := 151) (pc := 21) (q := (yX7_heardIn, cX7_heardIn, 3, (some .int), 7)) rfl (show aTab 151 21 = some (.aload_n 0, 1, 0, 0, 0, 0, 0, 0) from rfl) rfl rfl) ?_
        refine e_then (e_getR hT (y := 151) (pc := 22) (q := (yX7_heardIn, cX7_heardIn, 3, (some .int), 7)) rfl (show aTab 151 22 = some (.getfield 15, 3, 0, 7, 2, 0, 0, 0) from rfl) rfl (by decide) (by decide) hM rfl rfl) ?_
        refine e_then (e_il1 hT (y := 151) (pc := 25) (q := (yX7_heardIn, cX7_heardIn, 3, (some .int), 7)) rfl (show aTab 151 25 = some (.iload_n 1, 1, 0, 0, 0, 0, 0, 0) from rfl) rfl rfl) ?_
        refine e_then (s_ald hT (y := 151) (pc := 26) (q := (yX7_heardIn, cX7_heardIn, 3, (some .int), 7)) rfl (show aTab 151 26 = some (.iaload, 1, 0, 0, 0, 0, 0, 0) from rfl) rfl hM hg 42 h rfl eh (by omega)) ?_
        refine e_then (e_al1 hT (y := 151) (pc := 27) (q := (yX7_heardIn, cX7_heardIn, 3, (some .int), 7)) rfl (show aTab 151 27 = some (.aload_n 0, 1, 0, 0, 0, 0, 0, 0) from rfl) rfl rfl) ?_
        refine e_then (e_getR hT (y := 151) (pc := 28) (q := (yX7_heardIn, cX7_heardIn, 3, (some .int), 7)) rfl (show aTab 151 28 = some (.getfield 9, 3, 0, 7, 1, 0, 0, 0) from rfl) rfl (by decide) (by decide) hM rfl rfl) ?_
        refine e_then (e_il1 hT (y := 151) (pc := 31) (q := (yX7_heardIn, cX7_heardIn, 3, (some .int), 7)) rfl (show aTab 151 31 = some (.iload_n 2, 1, 0, 0, 0, 0, 0, 0) from rfl) rfl rfl) ?_
        refine e_then (s_ald hT (y := 151) (pc := 32) (q := (yX7_heardIn, cX7_heardIn, 3, (some .int), 7)) rfl (show aTab 151 32 = some (.iaload, 1, 0, 0, 0, 0, 0, 0) from rfl) rfl hM hg 41 who rfl ew (by omega)) ?_
        refine e_then (e_st hT (y := 151) (pc := 33) (q := (yX7_heardIn, cX7_heardIn, 3, (some .int), 7)) rfl (show aTab 151 33 = some (.iand, 1, 0, 0, 0, 0, 0, 0) from rfl) (fr' := (151, 34, (lv_args 0 [.ref 49, .int (Int32.ofNat h), .int (Int32.ofNat who)]), [.int ((g 42 h) &&& (g 41 who))])) (M' := M) rfl) ?_
        refine e_then (e_ifT hT (y := 151) (pc := 34) (q := (yX7_heardIn, cX7_heardIn, 3, (some .int), 7)) rfl (show aTab 151 34 = some (.ifCond .eq 7, 3, 0, 0, 0, 0, 0, 0) from rfl) rfl (t := 41) rfl (cdT (by show (g 42 h &&& g 41 who).toInt = (0 : Int32).toInt; rw [c2]))) ?_
        refine e_then (e_st hT (y := 151) (pc := 41) (q := (yX7_heardIn, cX7_heardIn, 3, (some .int), 7)) rfl (show aTab 151 41 = some (.iconst 0, 1, 0, 0, 0, 0, 0, 0) from rfl) (fr' := (151, 42, (lv_args 0 [.ref 49, .int (Int32.ofNat h), .int (Int32.ofNat who)]), [.int 0])) (M' := M) rfl) ?_
        exact e_fin (e_iret hT (y := 151) (pc := 42) (q := (yX7_heardIn, cX7_heardIn, 3, (some .int), 7)) rfl (show aTab 151 42 = some (.ireturn, 1, 0, 0, 0, 0, 0, 0) from rfl) ⟨rfl, rfl⟩) ⟨rfl, rfl⟩
      · rw [if_pos ⟨c1, c2⟩]
        refine e_then (e_il1 hT (y := 151) (pc := 0) (q := (yX7_heardIn, cX7_heardIn, 3, (some .int), 7)) rfl (show aTab 151 0 = some (.iload_n 1, 1, 0, 0, 0, 0, 0, 0) from rfl) rfl rfl) ?_
        refine e_then (e_st hT (y := 151) (pc := 1) (q := (yX7_heardIn, cX7_heardIn, 3, (some .int), 7)) rfl (show aTab 151 1 = some (.iconst 0, 1, 0, 0, 0, 0, 0, 0) from rfl) (fr' := (151, 2, (lv_args 0 [.ref 49, .int (Int32.ofNat h), .int (Int32.ofNat who)]), [.int 0, .int (Int32.ofNat h)])) (M' := M) rfl) ?_
        refine e_then (e_st hT (y := 151) (pc := 2) (q := (yX7_heardIn, cX7_heardIn, 3, (some .int), 7)) rfl (show aTab 151 2 = some (.bipush 7, 2, 0, 0, 0, 0, 0, 0) from rfl) (fr' := (151, 4, (lv_args 0 [.ref 49, .int (Int32.ofNat h), .int (Int32.ofNat who)]), [.int 7, .int 0, .int (Int32.ofNat h)])) (M' := M) rfl) ?_
        refine e_then (e_callsN hT (y := 151) (pc := 4) (q := (yX7_heardIn, cX7_heardIn, 3, (some .int), 7)) rfl (show aTab 151 4 = some (.invokestatic 30, 3, 3, 234, 0, 3, 3, 11) from rfl) (Nat.le_of_ble_eq_true rfl) (Nat.le_of_ble_eq_true rfl) (Nat.le_of_ble_eq_true rfl) ⟨by decide, by decide⟩ q1) ?_
        refine e_then (e_ifF hT (y := 151) (pc := 7) (q := (yX7_heardIn, cX7_heardIn, 3, (some .int), 7)) rfl (show aTab 151 7 = some (.ifCond .eq 12, 3, 0, 0, 0, 0, 0, 0) from rfl) rfl (t := 19) rfl (cdF (by show ¬ (1 : Int32).toInt = 0; decide))) ?_
        refine e_then (e_il1 hT (y := 151) (pc := 10) (q := (yX7_heardIn, cX7_heardIn, 3, (some .int), 7)) rfl (show aTab 151 10 = some (.iload_n 2, 1, 0, 0, 0, 0, 0, 0) from rfl) rfl rfl) ?_
        refine e_then (e_st hT (y := 151) (pc := 11) (q := (yX7_heardIn, cX7_heardIn, 3, (some .int), 7)) rfl (show aTab 151 11 = some (.iconst 0, 1, 0, 0, 0, 0, 0, 0) from rfl) (fr' := (151, 12, (lv_args 0 [.ref 49, .int (Int32.ofNat h), .int (Int32.ofNat who)]), [.int 0, .int (Int32.ofNat who)])) (M' := M) rfl) ?_
        refine e_then (e_st hT (y := 151) (pc := 12) (q := (yX7_heardIn, cX7_heardIn, 3, (some .int), 7)) rfl (show aTab 151 12 = some (.iconst 5, 1, 0, 0, 0, 0, 0, 0) from rfl) (fr' := (151, 13, (lv_args 0 [.ref 49, .int (Int32.ofNat h), .int (Int32.ofNat who)]), [.int 5, .int 0, .int (Int32.ofNat who)])) (M' := M) rfl) ?_
        refine e_then (e_callsN hT (y := 151) (pc := 13) (q := (yX7_heardIn, cX7_heardIn, 3, (some .int), 7)) rfl (show aTab 151 13 = some (.invokestatic 30, 3, 3, 234, 0, 3, 3, 11) from rfl) (Nat.le_of_ble_eq_true rfl) (Nat.le_of_ble_eq_true rfl) (Nat.le_of_ble_eq_true rfl) ⟨by decide, by decide⟩ q2) ?_
        refine e_then (e_ifT hT (y := 151) (pc := 16) (q := (yX7_heardIn, cX7_heardIn, 3, (some .int), 7)) rfl (show aTab 151 16 = some (.ifCond .ne 5, 3, 0, 0, 0, 0, 0, 0) from rfl) rfl (t := 21) rfl (cdT (by show ¬ (1 : Int32).toInt = 0; decide))) ?_
        refine e_then (e_al1 hT (y := 151) (pc := 21) (q := (yX7_heardIn, cX7_heardIn, 3, (some .int), 7)) rfl (show aTab 151 21 = some (.aload_n 0, 1, 0, 0, 0, 0, 0, 0) from rfl) rfl rfl) ?_
        refine e_then (e_getR hT (y := 151) (pc := 22) (q := (yX7_heardIn, cX7_heardIn, 3, (some .int), 7)) rfl (show aTab 151 22 = some (.getfield 15, 3, 0, 7, 2, 0, 0, 0) from rfl) rfl (by decide) (by decide) hM rfl rfl) ?_
        refine e_then (e_il1 hT (y := 151) (pc := 25) (q := (yX7_heardIn, cX7_heardIn, 3, (some .int), 7)) rfl (show aTab 151 25 = some (.iload_n 1, 1, 0, 0, 0, 0, 0, 0) from rfl) rfl rfl) ?_
        refine e_then (s_ald hT (y := 151) (pc := 26) (q := (yX7_heardIn, cX7_heardIn, 3, (some .int), 7)) rfl (show aTab 151 26 = some (.iaload, 1, 0, 0, 0, 0, 0, 0) from rfl) rfl hM hg 42 h rfl eh (by omega)) ?_
        refine e_then (e_al1 hT (y := 151) (pc := 27) (q := (yX7_heardIn, cX7_heardIn, 3, (some .int), 7)) rfl (show aTab 151 27 = some (.aload_n 0, 1, 0, 0, 0, 0, 0, 0) from rfl) rfl rfl) ?_
        refine e_then (e_getR hT (y := 151) (pc := 28) (q := (yX7_heardIn, cX7_heardIn, 3, (some .int), 7)) rfl (show aTab 151 28 = some (.getfield 9, 3, 0, 7, 1, 0, 0, 0) from rfl) rfl (by decide) (by decide) hM rfl rfl) ?_
        refine e_then (e_il1 hT (y := 151) (pc := 31) (q := (yX7_heardIn, cX7_heardIn, 3, (some .int), 7)) rfl (show aTab 151 31 = some (.iload_n 2, 1, 0, 0, 0, 0, 0, 0) from rfl) rfl rfl) ?_
        refine e_then (s_ald hT (y := 151) (pc := 32) (q := (yX7_heardIn, cX7_heardIn, 3, (some .int), 7)) rfl (show aTab 151 32 = some (.iaload, 1, 0, 0, 0, 0, 0, 0) from rfl) rfl hM hg 41 who rfl ew (by omega)) ?_
        refine e_then (e_st hT (y := 151) (pc := 33) (q := (yX7_heardIn, cX7_heardIn, 3, (some .int), 7)) rfl (show aTab 151 33 = some (.iand, 1, 0, 0, 0, 0, 0, 0) from rfl) (fr' := (151, 34, (lv_args 0 [.ref 49, .int (Int32.ofNat h), .int (Int32.ofNat who)]), [.int ((g 42 h) &&& (g 41 who))])) (M' := M) rfl) ?_
        refine e_then (e_ifF hT (y := 151) (pc := 34) (q := (yX7_heardIn, cX7_heardIn, 3, (some .int), 7)) rfl (show aTab 151 34 = some (.ifCond .eq 7, 3, 0, 0, 0, 0, 0, 0) from rfl) rfl (t := 41) rfl (cdF (by show ¬ (g 42 h &&& g 41 who).toInt = (0 : Int32).toInt; exact fun z => c2 (Int32.toInt_inj.mp z)))) ?_
        refine e_then (e_st hT (y := 151) (pc := 37) (q := (yX7_heardIn, cX7_heardIn, 3, (some .int), 7)) rfl (show aTab 151 37 = some (.iconst 1, 1, 0, 0, 0, 0, 0, 0) from rfl) (fr' := (151, 38, (lv_args 0 [.ref 49, .int (Int32.ofNat h), .int (Int32.ofNat who)]), [.int 1])) (M' := M) rfl) ?_
        refine e_then (e_st hT (y := 151) (pc := 38) (q := (yX7_heardIn, cX7_heardIn, 3, (some .int), 7)) rfl (show aTab 151 38 = some (.goto 4, 3, 0, 0, 0, 0, 0, 0) from rfl) (fr' := (151, 42, (lv_args 0 [.ref 49, .int (Int32.ofNat h), .int (Int32.ofNat who)]), [.int 1])) (M' := M) rfl) ?_
        exact e_fin (e_iret hT (y := 151) (pc := 42) (q := (yX7_heardIn, cX7_heardIn, 3, (some .int), 7)) rfl (show aTab 151 42 = some (.ireturn, 1, 0, 0, 0, 0, 0, 0) from rfl) ⟨rfl, rfl⟩) ⟨rfl, rfl⟩
    · rw [gB_f (show ¬ ((0 : Int) ≤ (Int32.ofNat who).toInt ∧ (Int32.ofNat who).toInt ≤ 5) by omega)] at q2
      rw [if_neg (fun z => c1 z.1)]
      refine e_then (e_il1 hT (y := 151) (pc := 0) (q := (yX7_heardIn, cX7_heardIn, 3, (some .int), 7)) rfl (show aTab 151 0 = some (.iload_n 1, 1, 0, 0, 0, 0, 0, 0) from rfl) rfl rfl) ?_
      refine e_then (e_st hT (y := 151) (pc := 1) (q := (yX7_heardIn, cX7_heardIn, 3, (some .int), 7)) rfl (show aTab 151 1 = some (.iconst 0, 1, 0, 0, 0, 0, 0, 0) from rfl) (fr' := (151, 2, (lv_args 0 [.ref 49, .int (Int32.ofNat h), .int (Int32.ofNat who)]), [.int 0, .int (Int32.ofNat h)])) (M' := M) rfl) ?_
      refine e_then (e_st hT (y := 151) (pc := 2) (q := (yX7_heardIn, cX7_heardIn, 3, (some .int), 7)) rfl (show aTab 151 2 = some (.bipush 7, 2, 0, 0, 0, 0, 0, 0) from rfl) (fr' := (151, 4, (lv_args 0 [.ref 49, .int (Int32.ofNat h), .int (Int32.ofNat who)]), [.int 7, .int 0, .int (Int32.ofNat h)])) (M' := M) rfl) ?_
      refine e_then (e_callsN hT (y := 151) (pc := 4) (q := (yX7_heardIn, cX7_heardIn, 3, (some .int), 7)) rfl (show aTab 151 4 = some (.invokestatic 30, 3, 3, 234, 0, 3, 3, 11) from rfl) (Nat.le_of_ble_eq_true rfl) (Nat.le_of_ble_eq_true rfl) (Nat.le_of_ble_eq_true rfl) ⟨by decide, by decide⟩ q1) ?_
      refine e_then (e_ifF hT (y := 151) (pc := 7) (q := (yX7_heardIn, cX7_heardIn, 3, (some .int), 7)) rfl (show aTab 151 7 = some (.ifCond .eq 12, 3, 0, 0, 0, 0, 0, 0) from rfl) rfl (t := 19) rfl (cdF (by show ¬ (1 : Int32).toInt = 0; decide))) ?_
      refine e_then (e_il1 hT (y := 151) (pc := 10) (q := (yX7_heardIn, cX7_heardIn, 3, (some .int), 7)) rfl (show aTab 151 10 = some (.iload_n 2, 1, 0, 0, 0, 0, 0, 0) from rfl) rfl rfl) ?_
      refine e_then (e_st hT (y := 151) (pc := 11) (q := (yX7_heardIn, cX7_heardIn, 3, (some .int), 7)) rfl (show aTab 151 11 = some (.iconst 0, 1, 0, 0, 0, 0, 0, 0) from rfl) (fr' := (151, 12, (lv_args 0 [.ref 49, .int (Int32.ofNat h), .int (Int32.ofNat who)]), [.int 0, .int (Int32.ofNat who)])) (M' := M) rfl) ?_
      refine e_then (e_st hT (y := 151) (pc := 12) (q := (yX7_heardIn, cX7_heardIn, 3, (some .int), 7)) rfl (show aTab 151 12 = some (.iconst 5, 1, 0, 0, 0, 0, 0, 0) from rfl) (fr' := (151, 13, (lv_args 0 [.ref 49, .int (Int32.ofNat h), .int (Int32.ofNat who)]), [.int 5, .int 0, .int (Int32.ofNat who)])) (M' := M) rfl) ?_
      refine e_then (e_callsN hT (y := 151) (pc := 13) (q := (yX7_heardIn, cX7_heardIn, 3, (some .int), 7)) rfl (show aTab 151 13 = some (.invokestatic 30, 3, 3, 234, 0, 3, 3, 11) from rfl) (Nat.le_of_ble_eq_true rfl) (Nat.le_of_ble_eq_true rfl) (Nat.le_of_ble_eq_true rfl) ⟨by decide, by decide⟩ q2) ?_
      refine e_then (e_ifF hT (y := 151) (pc := 16) (q := (yX7_heardIn, cX7_heardIn, 3, (some .int), 7)) rfl (show aTab 151 16 = some (.ifCond .ne 5, 3, 0, 0, 0, 0, 0, 0) from rfl) rfl (t := 21) rfl (cdF (by show ¬ ¬ (0 : Int32).toInt = 0; decide))) ?_
      refine e_then (e_st hT (y := 151) (pc := 19) (q := (yX7_heardIn, cX7_heardIn, 3, (some .int), 7)) rfl (show aTab 151 19 = some (.iconst 0, 1, 0, 0, 0, 0, 0, 0) from rfl) (fr' := (151, 20, (lv_args 0 [.ref 49, .int (Int32.ofNat h), .int (Int32.ofNat who)]), [.int 0])) (M' := M) rfl) ?_
      exact e_fin (e_iret hT (y := 151) (pc := 20) (q := (yX7_heardIn, cX7_heardIn, 3, (some .int), 7)) rfl (show aTab 151 20 = some (.ireturn, 1, 0, 0, 0, 0, 0, 0) from rfl) ⟨rfl, rfl⟩) ⟨rfl, rfl⟩
  obtain ⟨K, r, M', q, rfl, rfl⟩ := go
  exact ⟨K, mRun_dm q hd⟩
theorem xct_run (hT : aTabOk) {M : mHe} (hM : yTy M) {g : Nat → Nat → Int32} (hg : rdI M = g) {N : Nat} (hN : g 40 0 = Int32.ofNat N) (hN6 : N ≤ 6) {who la tw : Nat} (hw : who ≤ 6) (hl : la ≤ 6) (ht : tw ≤ 1) {d : Nat} (hd : 10 ≤ d) : ∃ K, mRun none K d (149, 0, lv_args 0 [.ref 49, .int (Int32.ofNat who), .int (Int32.ofNat la), .int (Int32.ofNat tw)], []) M = some (some (.int (gB (decide (¬ (who < 6 ∧ (N ≤ who ∨ (who = la ∧ tw = 1))))))), M) := by
  have ew := i32n (k := who) (by omega)
  have el := i32n (k := la) (by omega)
  have et := i32n (k := tw) (by omega)
  have eN := i32n (k := N) (by omega)
  have e6 : (6 : Int32).toInt = 6 := rfl
  have go : mEv none 10 (149, 0, lv_args 0 [.ref 49, .int (Int32.ofNat who), .int (Int32.ofNat la), .int (Int32.ofNat tw)], []) M (fun r M' => r = some (.int (gB (decide (¬ (who < 6 ∧ (N ≤ who ∨ (who = la ∧ tw = 1))))))) ∧ M' = M) := by
    by_cases c1 : who = 6
    · rw [gB_t (show ¬ (who < 6 ∧ (N ≤ who ∨ (who = la ∧ tw = 1))) by omega)]
      refine e_then (e_il1 hT (y := 149) (pc := 0) (q := (yX7_canTake, cX7_canTake, 4, (some .boolean), 7)) rfl (show aTab 149 0 = some (.iload_n 1, 1, 0, 0, 0, 0, 0, 0) from rfl) rfl rfl) ?_
      refine e_then (e_st hT (y := 149) (pc := 1) (q := (yX7_canTake, cX7_canTake, 4, (some .boolean), 7)) rfl (show aTab 149 1 = some (.bipush 6, 2, 0, 0, 0, 0, 0, 0) from rfl) (fr' := (149, 3, (lv_args 0 [.ref 49, .int (Int32.ofNat who), .int (Int32.ofNat la), .int (Int32.ofNat tw)]), [.int 6, .int (Int32.ofNat who)])) (M' := M) rfl) ?_
      refine e_then (e_icT hT (y := 149) (pc := 3) (q := (yX7_canTake, cX7_canTake, 4, (some .boolean), 7)) rfl (show aTab 149 3 = some (.if_icmp .eq 20, 3, 0, 0, 0, 0, 0, 0) from rfl) rfl (t := 23) rfl (cdT (by show _ = _; omega))) ?_
      refine e_then (e_st hT (y := 149) (pc := 23) (q := (yX7_canTake, cX7_canTake, 4, (some .boolean), 7)) rfl (show aTab 149 23 = some (.iconst 1, 1, 0, 0, 0, 0, 0, 0) from rfl) (fr' := (149, 24, (lv_args 0 [.ref 49, .int (Int32.ofNat who), .int (Int32.ofNat la), .int (Int32.ofNat tw)]), [.int 1])) (M' := M) rfl) ?_
      refine e_then (e_st hT (y := 149) (pc := 24) (q := (yX7_canTake, cX7_canTake, 4, (some .boolean), 7)) rfl (show aTab 149 24 = some (.goto 4, 3, 0, 0, 0, 0, 0, 0) from rfl) (fr' := (149, 28, (lv_args 0 [.ref 49, .int (Int32.ofNat who), .int (Int32.ofNat la), .int (Int32.ofNat tw)]), [.int 1])) (M' := M) rfl) ?_
      exact e_fin (e_zret hT (y := 149) (pc := 28) (q := (yX7_canTake, cX7_canTake, 4, (some .boolean), 7)) rfl (show aTab 149 28 = some (.ireturn, 1, 0, 0, 0, 0, 0, 0) from rfl) ⟨rfl, rfl⟩ (Or.inr rfl)) ⟨rfl, rfl⟩
    by_cases c2 : N ≤ who
    · rw [gB_f (show ¬ ¬ (who < 6 ∧ (N ≤ who ∨ (who = la ∧ tw = 1))) by omega)]
      refine e_then (e_il1 hT (y := 149) (pc := 0) (q := (yX7_canTake, cX7_canTake, 4, (some .boolean), 7)) rfl (show aTab 149 0 = some (.iload_n 1, 1, 0, 0, 0, 0, 0, 0) from rfl) rfl rfl) ?_
      refine e_then (e_st hT (y := 149) (pc := 1) (q := (yX7_canTake, cX7_canTake, 4, (some .boolean), 7)) rfl (show aTab 149 1 = some (.bipush 6, 2, 0, 0, 0, 0, 0, 0) from rfl) (fr' := (149, 3, (lv_args 0 [.ref 49, .int (Int32.ofNat who), .int (Int32.ofNat la), .int (Int32.ofNat tw)]), [.int 6, .int (Int32.ofNat who)])) (M' := M) rfl) ?_
      refine e_then (e_icF hT (y := 149) (pc := 3) (q := (yX7_canTake, cX7_canTake, 4, (some .boolean), 7)) rfl (show aTab 149 3 = some (.if_icmp .eq 20, 3, 0, 0, 0, 0, 0, 0) from rfl) rfl (t := 23) rfl (cdF (by show ¬ _ = _; omega))) ?_
      refine e_then (e_il1 hT (y := 149) (pc := 6) (q := (yX7_canTake, cX7_canTake, 4, (some .boolean), 7)) rfl (show aTab 149 6 = some (.iload_n 1, 1, 0, 0, 0, 0, 0, 0) from rfl) rfl rfl) ?_
      refine e_then (e_al1 hT (y := 149) (pc := 7) (q := (yX7_canTake, cX7_canTake, 4, (some .boolean), 7)) rfl (show aTab 149 7 = some (.aload_n 0, 1, 0, 0, 0, 0, 0, 0) from rfl) rfl rfl) ?_
      refine e_then (s_getV hT (y := 149) (pc := 8) (q := (yX7_canTake, cX7_canTake, 4, (some .boolean), 7)) rfl (show aTab 149 8 = some (.getfield 21, 3, 0, 7, 0, 0, 0, 0) from rfl) rfl (by decide) hM hg 40 rfl rfl (v := (g 40 0)) rfl) ?_
      refine e_then (e_icT hT (y := 149) (pc := 11) (q := (yX7_canTake, cX7_canTake, 4, (some .boolean), 7)) rfl (show aTab 149 11 = some (.if_icmp .ge 16, 3, 0, 0, 0, 0, 0, 0) from rfl) rfl (t := 27) rfl (cdT (by rw [hN]; show _ ≤ _; omega))) ?_
      refine e_then (e_st hT (y := 149) (pc := 27) (q := (yX7_canTake, cX7_canTake, 4, (some .boolean), 7)) rfl (show aTab 149 27 = some (.iconst 0, 1, 0, 0, 0, 0, 0, 0) from rfl) (fr' := (149, 28, (lv_args 0 [.ref 49, .int (Int32.ofNat who), .int (Int32.ofNat la), .int (Int32.ofNat tw)]), [.int 0])) (M' := M) rfl) ?_
      exact e_fin (e_zret hT (y := 149) (pc := 28) (q := (yX7_canTake, cX7_canTake, 4, (some .boolean), 7)) rfl (show aTab 149 28 = some (.ireturn, 1, 0, 0, 0, 0, 0, 0) from rfl) ⟨rfl, rfl⟩ (Or.inl rfl)) ⟨rfl, rfl⟩
    by_cases c3 : who = la
    · by_cases c4 : tw = 1
      · rw [gB_f (show ¬ ¬ (who < 6 ∧ (N ≤ who ∨ (who = la ∧ tw = 1))) by omega)]
        refine e_then (e_il1 hT (y := 149) (pc := 0) (q := (yX7_canTake, cX7_canTake, 4, (some .boolean), 7)) rfl (show aTab 149 0 = some (.iload_n 1, 1, 0, 0, 0, 0, 0, 0) from rfl) rfl rfl) ?_
        refine e_then (e_st hT (y := 149) (pc := 1) (q := (yX7_canTake, cX7_canTake, 4, (some .boolean), 7)) rfl (show aTab 149 1 = some (.bipush 6, 2, 0, 0, 0, 0, 0, 0) from rfl) (fr' := (149, 3, (lv_args 0 [.ref 49, .int (Int32.ofNat who), .int (Int32.ofNat la), .int (Int32.ofNat tw)]), [.int 6, .int (Int32.ofNat who)])) (M' := M) rfl) ?_
        refine e_then (e_icF hT (y := 149) (pc := 3) (q := (yX7_canTake, cX7_canTake, 4, (some .boolean), 7)) rfl (show aTab 149 3 = some (.if_icmp .eq 20, 3, 0, 0, 0, 0, 0, 0) from rfl) rfl (t := 23) rfl (cdF (by show ¬ _ = _; omega))) ?_
        refine e_then (e_il1 hT (y := 149) (pc := 6) (q := (yX7_canTake, cX7_canTake, 4, (some .boolean), 7)) rfl (show aTab 149 6 = some (.iload_n 1, 1, 0, 0, 0, 0, 0, 0) from rfl) rfl rfl) ?_
        refine e_then (e_al1 hT (y := 149) (pc := 7) (q := (yX7_canTake, cX7_canTake, 4, (some .boolean), 7)) rfl (show aTab 149 7 = some (.aload_n 0, 1, 0, 0, 0, 0, 0, 0) from rfl) rfl rfl) ?_
        refine e_then (s_getV hT (y := 149) (pc := 8) (q := (yX7_canTake, cX7_canTake, 4, (some .boolean), 7)) rfl (show aTab 149 8 = some (.getfield 21, 3, 0, 7, 0, 0, 0, 0) from rfl) rfl (by decide) hM hg 40 rfl rfl (v := (g 40 0)) rfl) ?_
        refine e_then (e_icF hT (y := 149) (pc := 11) (q := (yX7_canTake, cX7_canTake, 4, (some .boolean), 7)) rfl (show aTab 149 11 = some (.if_icmp .ge 16, 3, 0, 0, 0, 0, 0, 0) from rfl) rfl (t := 27) rfl (cdF (by rw [hN]; show ¬ _ ≤ _; omega))) ?_
        refine e_then (e_il1 hT (y := 149) (pc := 14) (q := (yX7_canTake, cX7_canTake, 4, (some .boolean), 7)) rfl (show aTab 149 14 = some (.iload_n 1, 1, 0, 0, 0, 0, 0, 0) from rfl) rfl rfl) ?_
        refine e_then (e_il1 hT (y := 149) (pc := 15) (q := (yX7_canTake, cX7_canTake, 4, (some .boolean), 7)) rfl (show aTab 149 15 = some (.iload_n 2, 1, 0, 0, 0, 0, 0, 0) from rfl) rfl rfl) ?_
        refine e_then (e_icF hT (y := 149) (pc := 16) (q := (yX7_canTake, cX7_canTake, 4, (some .boolean), 7)) rfl (show aTab 149 16 = some (.if_icmp .ne 7, 3, 0, 0, 0, 0, 0, 0) from rfl) rfl (t := 23) rfl (cdF (by show ¬ ¬ _ = _; omega))) ?_
        refine e_then (e_il1 hT (y := 149) (pc := 19) (q := (yX7_canTake, cX7_canTake, 4, (some .boolean), 7)) rfl (show aTab 149 19 = some (.iload_n 3, 1, 0, 0, 0, 0, 0, 0) from rfl) rfl rfl) ?_
        refine e_then (e_ifT hT (y := 149) (pc := 20) (q := (yX7_canTake, cX7_canTake, 4, (some .boolean), 7)) rfl (show aTab 149 20 = some (.ifCond .ne 7, 3, 0, 0, 0, 0, 0, 0) from rfl) rfl (t := 27) rfl (cdT (by show ¬ (Int32.ofNat tw).toInt = 0; omega))) ?_
        refine e_then (e_st hT (y := 149) (pc := 27) (q := (yX7_canTake, cX7_canTake, 4, (some .boolean), 7)) rfl (show aTab 149 27 = some (.iconst 0, 1, 0, 0, 0, 0, 0, 0) from rfl) (fr' := (149, 28, (lv_args 0 [.ref 49, .int (Int32.ofNat who), .int (Int32.ofNat la), .int (Int32.ofNat tw)]), [.int 0])) (M' := M) rfl) ?_
        exact e_fin (e_zret hT (y := 149) (pc := 28) (q := (yX7_canTake, cX7_canTake, 4, (some .boolean), 7)) rfl (show aTab 149 28 = some (.ireturn, 1, 0, 0, 0, 0, 0, 0) from rfl) ⟨rfl, rfl⟩ (Or.inl rfl)) ⟨rfl, rfl⟩
      · rw [gB_t (show ¬ (who < 6 ∧ (N ≤ who ∨ (who = la ∧ tw = 1))) by omega)]
        refine e_then (e_il1 hT (y := 149) (pc := 0) (q := (yX7_canTake, cX7_canTake, 4, (some .boolean), 7)) rfl (show aTab 149 0 = some (.iload_n 1, 1, 0, 0, 0, 0, 0, 0) from rfl) rfl rfl) ?_
        refine e_then (e_st hT (y := 149) (pc := 1) (q := (yX7_canTake, cX7_canTake, 4, (some .boolean), 7)) rfl (show aTab 149 1 = some (.bipush 6, 2, 0, 0, 0, 0, 0, 0) from rfl) (fr' := (149, 3, (lv_args 0 [.ref 49, .int (Int32.ofNat who), .int (Int32.ofNat la), .int (Int32.ofNat tw)]), [.int 6, .int (Int32.ofNat who)])) (M' := M) rfl) ?_
        refine e_then (e_icF hT (y := 149) (pc := 3) (q := (yX7_canTake, cX7_canTake, 4, (some .boolean), 7)) rfl (show aTab 149 3 = some (.if_icmp .eq 20, 3, 0, 0, 0, 0, 0, 0) from rfl) rfl (t := 23) rfl (cdF (by show ¬ _ = _; omega))) ?_
        refine e_then (e_il1 hT (y := 149) (pc := 6) (q := (yX7_canTake, cX7_canTake, 4, (some .boolean), 7)) rfl (show aTab 149 6 = some (.iload_n 1, 1, 0, 0, 0, 0, 0, 0) from rfl) rfl rfl) ?_
        refine e_then (e_al1 hT (y := 149) (pc := 7) (q := (yX7_canTake, cX7_canTake, 4, (some .boolean), 7)) rfl (show aTab 149 7 = some (.aload_n 0, 1, 0, 0, 0, 0, 0, 0) from rfl) rfl rfl) ?_
        refine e_then (s_getV hT (y := 149) (pc := 8) (q := (yX7_canTake, cX7_canTake, 4, (some .boolean), 7)) rfl (show aTab 149 8 = some (.getfield 21, 3, 0, 7, 0, 0, 0, 0) from rfl) rfl (by decide) hM hg 40 rfl rfl (v := (g 40 0)) rfl) ?_
        refine e_then (e_icF hT (y := 149) (pc := 11) (q := (yX7_canTake, cX7_canTake, 4, (some .boolean), 7)) rfl (show aTab 149 11 = some (.if_icmp .ge 16, 3, 0, 0, 0, 0, 0, 0) from rfl) rfl (t := 27) rfl (cdF (by rw [hN]; show ¬ _ ≤ _; omega))) ?_
        refine e_then (e_il1 hT (y := 149) (pc := 14) (q := (yX7_canTake, cX7_canTake, 4, (some .boolean), 7)) rfl (show aTab 149 14 = some (.iload_n 1, 1, 0, 0, 0, 0, 0, 0) from rfl) rfl rfl) ?_
        refine e_then (e_il1 hT (y := 149) (pc := 15) (q := (yX7_canTake, cX7_canTake, 4, (some .boolean), 7)) rfl (show aTab 149 15 = some (.iload_n 2, 1, 0, 0, 0, 0, 0, 0) from rfl) rfl rfl) ?_
        refine e_then (e_icF hT (y := 149) (pc := 16) (q := (yX7_canTake, cX7_canTake, 4, (some .boolean), 7)) rfl (show aTab 149 16 = some (.if_icmp .ne 7, 3, 0, 0, 0, 0, 0, 0) from rfl) rfl (t := 23) rfl (cdF (by show ¬ ¬ _ = _; omega))) ?_
        refine e_then (e_il1 hT (y := 149) (pc := 19) (q := (yX7_canTake, cX7_canTake, 4, (some .boolean), 7)) rfl (show aTab 149 19 = some (.iload_n 3, 1, 0, 0, 0, 0, 0, 0) from rfl) rfl rfl) ?_
        refine e_then (e_ifF hT (y := 149) (pc := 20) (q := (yX7_canTake, cX7_canTake, 4, (some .boolean), 7)) rfl (show aTab 149 20 = some (.ifCond .ne 7, 3, 0, 0, 0, 0, 0, 0) from rfl) rfl (t := 27) rfl (cdF (by show ¬ ¬ (Int32.ofNat tw).toInt = 0; omega))) ?_
        refine e_then (e_st hT (y := 149) (pc := 23) (q := (yX7_canTake, cX7_canTake, 4, (some .boolean), 7)) rfl (show aTab 149 23 = some (.iconst 1, 1, 0, 0, 0, 0, 0, 0) from rfl) (fr' := (149, 24, (lv_args 0 [.ref 49, .int (Int32.ofNat who), .int (Int32.ofNat la), .int (Int32.ofNat tw)]), [.int 1])) (M' := M) rfl) ?_
        refine e_then (e_st hT (y := 149) (pc := 24) (q := (yX7_canTake, cX7_canTake, 4, (some .boolean), 7)) rfl (show aTab 149 24 = some (.goto 4, 3, 0, 0, 0, 0, 0, 0) from rfl) (fr' := (149, 28, (lv_args 0 [.ref 49, .int (Int32.ofNat who), .int (Int32.ofNat la), .int (Int32.ofNat tw)]), [.int 1])) (M' := M) rfl) ?_
        exact e_fin (e_zret hT (y := 149) (pc := 28) (q := (yX7_canTake, cX7_canTake, 4, (some .boolean), 7)) rfl (show aTab 149 28 = some (.ireturn, 1, 0, 0, 0, 0, 0, 0) from rfl) ⟨rfl, rfl⟩ (Or.inr rfl)) ⟨rfl, rfl⟩
    · rw [gB_t (show ¬ (who < 6 ∧ (N ≤ who ∨ (who = la ∧ tw = 1))) by omega)]
      refine e_then (e_il1 hT (y := 149) (pc := 0) (q := (yX7_canTake, cX7_canTake, 4, (some .boolean), 7)) rfl (show aTab 149 0 = some (.iload_n 1, 1, 0, 0, 0, 0, 0, 0) from rfl) rfl rfl) ?_
      refine e_then (e_st hT (y := 149) (pc := 1) (q := (yX7_canTake, cX7_canTake, 4, (some .boolean), 7)) rfl (show aTab 149 1 = some (.bipush 6, 2, 0, 0, 0, 0, 0, 0) from rfl) (fr' := (149, 3, (lv_args 0 [.ref 49, .int (Int32.ofNat who), .int (Int32.ofNat la), .int (Int32.ofNat tw)]), [.int 6, .int (Int32.ofNat who)])) (M' := M) rfl) ?_
      refine e_then (e_icF hT (y := 149) (pc := 3) (q := (yX7_canTake, cX7_canTake, 4, (some .boolean), 7)) rfl (show aTab 149 3 = some (.if_icmp .eq 20, 3, 0, 0, 0, 0, 0, 0) from rfl) rfl (t := 23) rfl (cdF (by show ¬ _ = _; omega))) ?_
      refine e_then (e_il1 hT (y := 149) (pc := 6) (q := (yX7_canTake, cX7_canTake, 4, (some .boolean), 7)) rfl (show aTab 149 6 = some (.iload_n 1, 1, 0, 0, 0, 0, 0, 0) from rfl) rfl rfl) ?_
      refine e_then (e_al1 hT (y := 149) (pc := 7) (q := (yX7_canTake, cX7_canTake, 4, (some .boolean), 7)) rfl (show aTab 149 7 = some (.aload_n 0, 1, 0, 0, 0, 0, 0, 0) from rfl) rfl rfl) ?_
      refine e_then (s_getV hT (y := 149) (pc := 8) (q := (yX7_canTake, cX7_canTake, 4, (some .boolean), 7)) rfl (show aTab 149 8 = some (.getfield 21, 3, 0, 7, 0, 0, 0, 0) from rfl) rfl (by decide) hM hg 40 rfl rfl (v := (g 40 0)) rfl) ?_
      refine e_then (e_icF hT (y := 149) (pc := 11) (q := (yX7_canTake, cX7_canTake, 4, (some .boolean), 7)) rfl (show aTab 149 11 = some (.if_icmp .ge 16, 3, 0, 0, 0, 0, 0, 0) from rfl) rfl (t := 27) rfl (cdF (by rw [hN]; show ¬ _ ≤ _; omega))) ?_
      refine e_then (e_il1 hT (y := 149) (pc := 14) (q := (yX7_canTake, cX7_canTake, 4, (some .boolean), 7)) rfl (show aTab 149 14 = some (.iload_n 1, 1, 0, 0, 0, 0, 0, 0) from rfl) rfl rfl) ?_
      refine e_then (e_il1 hT (y := 149) (pc := 15) (q := (yX7_canTake, cX7_canTake, 4, (some .boolean), 7)) rfl (show aTab 149 15 = some (.iload_n 2, 1, 0, 0, 0, 0, 0, 0) from rfl) rfl rfl) ?_
      refine e_then (e_icT hT (y := 149) (pc := 16) (q := (yX7_canTake, cX7_canTake, 4, (some .boolean), 7)) rfl (show aTab 149 16 = some (.if_icmp .ne 7, 3, 0, 0, 0, 0, 0, 0) from rfl) rfl (t := 23) rfl (cdT (by show ¬ _ = _; omega))) ?_
      refine e_then (e_st hT (y := 149) (pc := 23) (q := (yX7_canTake, cX7_canTake, 4, (some .boolean), 7)) rfl (show aTab 149 23 = some (.iconst 1, 1, 0, 0, 0, 0, 0, 0) from rfl) (fr' := (149, 24, (lv_args 0 [.ref 49, .int (Int32.ofNat who), .int (Int32.ofNat la), .int (Int32.ofNat tw)]), [.int 1])) (M' := M) rfl) ?_
      refine e_then (e_st hT (y := 149) (pc := 24) (q := (yX7_canTake, cX7_canTake, 4, (some .boolean), 7)) rfl (show aTab 149 24 = some (.goto 4, 3, 0, 0, 0, 0, 0, 0) from rfl) (fr' := (149, 28, (lv_args 0 [.ref 49, .int (Int32.ofNat who), .int (Int32.ofNat la), .int (Int32.ofNat tw)]), [.int 1])) (M' := M) rfl) ?_
      exact e_fin (e_zret hT (y := 149) (pc := 28) (q := (yX7_canTake, cX7_canTake, 4, (some .boolean), 7)) rfl (show aTab 149 28 = some (.ireturn, 1, 0, 0, 0, 0, 0, 0) from rfl) ⟨rfl, rfl⟩ (Or.inr rfl)) ⟨rfl, rfl⟩
  obtain ⟨K, r, M', q, rfl, rfl⟩ := go
  exact ⟨K, mRun_dm q hd⟩
theorem plx {h la : Nat} (hh : h ≤ 8) (hl : la ≤ 6) : ((Int32.ofNat h * 7 + Int32.ofNat la) * 2).toInt = ((14 * h + 2 * la : Nat) : Int) := by
  have h7 : (7 : Int32).toInt = 7 := rfl
  have h2 : (2 : Int32).toInt = 2 := rfl
  have eh := i32n (k := h) (by omega)
  have el := i32n (k := la) (by omega)
  have m1 : (Int32.ofNat h * 7).toInt = 7 * (h : Int) := by rw [i32_mul (by rw [eh, h7]; omega) (by rw [eh, h7]; omega), eh, h7]; omega
  have m2 : (Int32.ofNat h * 7 + Int32.ofNat la).toInt = 7 * (h : Int) + la := by rw [i32_add (by omega) (by omega), m1, el]
  rw [i32_mul (by rw [m2, h2]; omega) (by rw [m2, h2]; omega), m2, h2]
  omega
theorem xpl_run (hT : aTabOk) {M : mHe} (hM : yTy M) {h la tw : Nat} (hh : h ≤ 8) (hl : la ≤ 6) (ht : tw ≤ 1) {d : Nat} (hd : 10 ≤ d) : ∃ K, mRun none K d (145, 0, lv_args 0 [.ref 49, .int (Int32.ofNat h), .int (Int32.ofNat la), .int (Int32.ofNat tw)], []) M = some (some (.int (Int32.ofNat (14 * h + 2 * la + tw))), M) := by
  have et := i32n (k := tw) (by omega)
  have ep := plx hh hl
  have e126 : (Int32.ofNat 126).toInt = 126 := rfl
  have hx : ∀ z : Int32, z.toInt = (tw : Int) → (Int32.ofNat h * 7 + Int32.ofNat la) * 2 + z = Int32.ofNat (14 * h + 2 * la + tw) := fun z hz => i32eq (by rw [i32_add (by omega) (by omega), ep, hz, i32n (by omega)]; omega)
  have er := i32n (k := 14 * h + 2 * la + tw) (by omega)
  have go : mEv none 10 (145, 0, lv_args 0 [.ref 49, .int (Int32.ofNat h), .int (Int32.ofNat la), .int (Int32.ofNat tw)], []) M (fun r M' => r = some (.int (Int32.ofNat (14 * h + 2 * la + tw))) ∧ M' = M) := by
    have tail : ∀ lv : List (Nat × Value), mlg 0 lv = some (.ref 49) → mEv none 10 (145, 18, lv, [.int (Int32.ofNat (14 * h + 2 * la + tw))]) M (fun r M' => r = some (.int (Int32.ofNat (14 * h + 2 * la + tw))) ∧ M' = M) := fun lv h0 => by
      refine e_then (e_is2 hT (y := 145) (pc := 18) (q := (yX7_place, cX7_place, 5, (some .int), 7)) rfl (show aTab 145 18 = some (.istore 4, 2, 0, 0, 0, 0, 0, 0) from rfl) ⟨rfl, by decide⟩) ?_
      refine e_then (e_il2 hT (y := 145) (pc := 20) (q := (yX7_place, cX7_place, 5, (some .int), 7)) rfl (show aTab 145 20 = some (.iload 4, 2, 0, 0, 0, 0, 0, 0) from rfl) rfl (mlg_eq 4 _ _)) ?_
      refine e_then (e_ifF hT (y := 145) (pc := 22) (q := (yX7_place, cX7_place, 5, (some .int), 7)) rfl (show aTab 145 22 = some (.ifCond .lt 18, 3, 0, 0, 0, 0, 0, 0) from rfl) rfl (t := 40) rfl (cdF (by show ¬ _ < (0 : Int); omega))) ?_
      refine e_then (e_il2 hT (y := 145) (pc := 25) (q := (yX7_place, cX7_place, 5, (some .int), 7)) rfl (show aTab 145 25 = some (.iload 4, 2, 0, 0, 0, 0, 0, 0) from rfl) rfl (mlg_eq 4 _ _)) ?_
      refine e_then (e_al1 hT (y := 145) (pc := 27) (q := (yX7_place, cX7_place, 5, (some .int), 7)) rfl (show aTab 145 27 = some (.aload_n 0, 1, 0, 0, 0, 0, 0, 0) from rfl) rfl (mlg_r h0 (by decide))) ?_
      refine e_then (e_getR hT (y := 145) (pc := 28) (q := (yX7_place, cX7_place, 5, (some .int), 7)) rfl (show aTab 145 28 = some (.getfield 18, 3, 0, 7, 3, 0, 0, 0) from rfl) rfl (by decide) (by decide) hM rfl rfl) ?_
      refine e_then (s_len hT (y := 145) (pc := 31) (q := (yX7_place, cX7_place, 5, (some .int), 7)) rfl (show aTab 145 31 = some (.arraylength, 1, 0, 0, 0, 0, 0, 0) from rfl) rfl hM 43 rfl) ?_
      refine e_then (e_icF hT (y := 145) (pc := 32) (q := (yX7_place, cX7_place, 5, (some .int), 7)) rfl (show aTab 145 32 = some (.if_icmp .ge 8, 3, 0, 0, 0, 0, 0, 0) from rfl) rfl (t := 40) rfl (cdF (by show ¬ _ ≤ _; omega))) ?_
      refine e_then (e_il2 hT (y := 145) (pc := 35) (q := (yX7_place, cX7_place, 5, (some .int), 7)) rfl (show aTab 145 35 = some (.iload 4, 2, 0, 0, 0, 0, 0, 0) from rfl) rfl (mlg_eq 4 _ _)) ?_
      refine e_then (e_st hT (y := 145) (pc := 37) (q := (yX7_place, cX7_place, 5, (some .int), 7)) rfl (show aTab 145 37 = some (.goto 4, 3, 0, 0, 0, 0, 0, 0) from rfl) (fr' := (145, 41, (mlp 4 (.int (Int32.ofNat (14 * h + 2 * la + tw))) lv), [.int (Int32.ofNat (14 * h + 2 * la + tw))])) (M' := M) rfl) ?_
      exact e_fin (e_iret hT (y := 145) (pc := 41) (q := (yX7_place, cX7_place, 5, (some .int), 7)) rfl (show aTab 145 41 = some (.ireturn, 1, 0, 0, 0, 0, 0, 0) from rfl) ⟨rfl, rfl⟩) ⟨rfl, rfl⟩
    by_cases c1 : tw = 1
    · refine e_then (e_il1 hT (y := 145) (pc := 0) (q := (yX7_place, cX7_place, 5, (some .int), 7)) rfl (show aTab 145 0 = some (.iload_n 1, 1, 0, 0, 0, 0, 0, 0) from rfl) rfl rfl) ?_
      refine e_then (e_st hT (y := 145) (pc := 1) (q := (yX7_place, cX7_place, 5, (some .int), 7)) rfl (show aTab 145 1 = some (.bipush 7, 2, 0, 0, 0, 0, 0, 0) from rfl) (fr' := (145, 3, (lv_args 0 [.ref 49, .int (Int32.ofNat h), .int (Int32.ofNat la), .int (Int32.ofNat tw)]), [.int 7, .int (Int32.ofNat h)])) (M' := M) rfl) ?_
      refine e_then (e_st hT (y := 145) (pc := 3) (q := (yX7_place, cX7_place, 5, (some .int), 7)) rfl (show aTab 145 3 = some (.imul, 1, 0, 0, 0, 0, 0, 0) from rfl) (fr' := (145, 4, (lv_args 0 [.ref 49, .int (Int32.ofNat h), .int (Int32.ofNat la), .int (Int32.ofNat tw)]), [.int ((Int32.ofNat h) * 7)])) (M' := M) rfl) ?_
      refine e_then (e_il1 hT (y := 145) (pc := 4) (q := (yX7_place, cX7_place, 5, (some .int), 7)) rfl (show aTab 145 4 = some (.iload_n 2, 1, 0, 0, 0, 0, 0, 0) from rfl) rfl rfl) ?_
      refine e_then (e_st hT (y := 145) (pc := 5) (q := (yX7_place, cX7_place, 5, (some .int), 7)) rfl (show aTab 145 5 = some (.iadd, 1, 0, 0, 0, 0, 0, 0) from rfl) (fr' := (145, 6, (lv_args 0 [.ref 49, .int (Int32.ofNat h), .int (Int32.ofNat la), .int (Int32.ofNat tw)]), [.int (((Int32.ofNat h) * 7) + (Int32.ofNat la))])) (M' := M) rfl) ?_
      refine e_then (e_st hT (y := 145) (pc := 6) (q := (yX7_place, cX7_place, 5, (some .int), 7)) rfl (show aTab 145 6 = some (.iconst 2, 1, 0, 0, 0, 0, 0, 0) from rfl) (fr' := (145, 7, (lv_args 0 [.ref 49, .int (Int32.ofNat h), .int (Int32.ofNat la), .int (Int32.ofNat tw)]), [.int 2, .int (((Int32.ofNat h) * 7) + (Int32.ofNat la))])) (M' := M) rfl) ?_
      refine e_then (e_st hT (y := 145) (pc := 7) (q := (yX7_place, cX7_place, 5, (some .int), 7)) rfl (show aTab 145 7 = some (.imul, 1, 0, 0, 0, 0, 0, 0) from rfl) (fr' := (145, 8, (lv_args 0 [.ref 49, .int (Int32.ofNat h), .int (Int32.ofNat la), .int (Int32.ofNat tw)]), [.int ((((Int32.ofNat h) * 7) + (Int32.ofNat la)) * 2)])) (M' := M) rfl) ?_
      refine e_then (e_il1 hT (y := 145) (pc := 8) (q := (yX7_place, cX7_place, 5, (some .int), 7)) rfl (show aTab 145 8 = some (.iload_n 3, 1, 0, 0, 0, 0, 0, 0) from rfl) rfl rfl) ?_
      refine e_then (e_ifF hT (y := 145) (pc := 9) (q := (yX7_place, cX7_place, 5, (some .int), 7)) rfl (show aTab 145 9 = some (.ifCond .eq 7, 3, 0, 0, 0, 0, 0, 0) from rfl) rfl (t := 16) rfl (cdF (by show ¬ (Int32.ofNat tw).toInt = 0; omega))) ?_
      refine e_then (e_st hT (y := 145) (pc := 12) (q := (yX7_place, cX7_place, 5, (some .int), 7)) rfl (show aTab 145 12 = some (.iconst 1, 1, 0, 0, 0, 0, 0, 0) from rfl) (fr' := (145, 13, (lv_args 0 [.ref 49, .int (Int32.ofNat h), .int (Int32.ofNat la), .int (Int32.ofNat tw)]), [.int 1, .int ((((Int32.ofNat h) * 7) + (Int32.ofNat la)) * 2)])) (M' := M) rfl) ?_
      refine e_then (e_st hT (y := 145) (pc := 13) (q := (yX7_place, cX7_place, 5, (some .int), 7)) rfl (show aTab 145 13 = some (.goto 4, 3, 0, 0, 0, 0, 0, 0) from rfl) (fr' := (145, 17, (lv_args 0 [.ref 49, .int (Int32.ofNat h), .int (Int32.ofNat la), .int (Int32.ofNat tw)]), [.int 1, .int ((((Int32.ofNat h) * 7) + (Int32.ofNat la)) * 2)])) (M' := M) rfl) ?_
      refine e_then (e_st hT (y := 145) (pc := 17) (q := (yX7_place, cX7_place, 5, (some .int), 7)) rfl (show aTab 145 17 = some (.iadd, 1, 0, 0, 0, 0, 0, 0) from rfl) (fr' := (145, 18, (lv_args 0 [.ref 49, .int (Int32.ofNat h), .int (Int32.ofNat la), .int (Int32.ofNat tw)]), [.int (((((Int32.ofNat h) * 7) + (Int32.ofNat la)) * 2) + 1)])) (M' := M) rfl) ?_
      rw [hx 1 (by rw [show (1 : Int32).toInt = 1 from rfl]; omega)]
      exact tail _ rfl
    · refine e_then (e_il1 hT (y := 145) (pc := 0) (q := (yX7_place, cX7_place, 5, (some .int), 7)) rfl (show aTab 145 0 = some (.iload_n 1, 1, 0, 0, 0, 0, 0, 0) from rfl) rfl rfl) ?_
      refine e_then (e_st hT (y := 145) (pc := 1) (q := (yX7_place, cX7_place, 5, (some .int), 7)) rfl (show aTab 145 1 = some (.bipush 7, 2, 0, 0, 0, 0, 0, 0) from rfl) (fr' := (145, 3, (lv_args 0 [.ref 49, .int (Int32.ofNat h), .int (Int32.ofNat la), .int (Int32.ofNat tw)]), [.int 7, .int (Int32.ofNat h)])) (M' := M) rfl) ?_
      refine e_then (e_st hT (y := 145) (pc := 3) (q := (yX7_place, cX7_place, 5, (some .int), 7)) rfl (show aTab 145 3 = some (.imul, 1, 0, 0, 0, 0, 0, 0) from rfl) (fr' := (145, 4, (lv_args 0 [.ref 49, .int (Int32.ofNat h), .int (Int32.ofNat la), .int (Int32.ofNat tw)]), [.int ((Int32.ofNat h) * 7)])) (M' := M) rfl) ?_
      refine e_then (e_il1 hT (y := 145) (pc := 4) (q := (yX7_place, cX7_place, 5, (some .int), 7)) rfl (show aTab 145 4 = some (.iload_n 2, 1, 0, 0, 0, 0, 0, 0) from rfl) rfl rfl) ?_
      refine e_then (e_st hT (y := 145) (pc := 5) (q := (yX7_place, cX7_place, 5, (some .int), 7)) rfl (show aTab 145 5 = some (.iadd, 1, 0, 0, 0, 0, 0, 0) from rfl) (fr' := (145, 6, (lv_args 0 [.ref 49, .int (Int32.ofNat h), .int (Int32.ofNat la), .int (Int32.ofNat tw)]), [.int (((Int32.ofNat h) * 7) + (Int32.ofNat la))])) (M' := M) rfl) ?_
      refine e_then (e_st hT (y := 145) (pc := 6) (q := (yX7_place, cX7_place, 5, (some .int), 7)) rfl (show aTab 145 6 = some (.iconst 2, 1, 0, 0, 0, 0, 0, 0) from rfl) (fr' := (145, 7, (lv_args 0 [.ref 49, .int (Int32.ofNat h), .int (Int32.ofNat la), .int (Int32.ofNat tw)]), [.int 2, .int (((Int32.ofNat h) * 7) + (Int32.ofNat la))])) (M' := M) rfl) ?_
      refine e_then (e_st hT (y := 145) (pc := 7) (q := (yX7_place, cX7_place, 5, (some .int), 7)) rfl (show aTab 145 7 = some (.imul, 1, 0, 0, 0, 0, 0, 0) from rfl) (fr' := (145, 8, (lv_args 0 [.ref 49, .int (Int32.ofNat h), .int (Int32.ofNat la), .int (Int32.ofNat tw)]), [.int ((((Int32.ofNat h) * 7) + (Int32.ofNat la)) * 2)])) (M' := M) rfl) ?_
      refine e_then (e_il1 hT (y := 145) (pc := 8) (q := (yX7_place, cX7_place, 5, (some .int), 7)) rfl (show aTab 145 8 = some (.iload_n 3, 1, 0, 0, 0, 0, 0, 0) from rfl) rfl rfl) ?_
      refine e_then (e_ifT hT (y := 145) (pc := 9) (q := (yX7_place, cX7_place, 5, (some .int), 7)) rfl (show aTab 145 9 = some (.ifCond .eq 7, 3, 0, 0, 0, 0, 0, 0) from rfl) rfl (t := 16) rfl (cdT (by show (Int32.ofNat tw).toInt = 0; omega))) ?_
      refine e_then (e_st hT (y := 145) (pc := 16) (q := (yX7_place, cX7_place, 5, (some .int), 7)) rfl (show aTab 145 16 = some (.iconst 0, 1, 0, 0, 0, 0, 0, 0) from rfl) (fr' := (145, 17, (lv_args 0 [.ref 49, .int (Int32.ofNat h), .int (Int32.ofNat la), .int (Int32.ofNat tw)]), [.int 0, .int ((((Int32.ofNat h) * 7) + (Int32.ofNat la)) * 2)])) (M' := M) rfl) ?_
      refine e_then (e_st hT (y := 145) (pc := 17) (q := (yX7_place, cX7_place, 5, (some .int), 7)) rfl (show aTab 145 17 = some (.iadd, 1, 0, 0, 0, 0, 0, 0) from rfl) (fr' := (145, 18, (lv_args 0 [.ref 49, .int (Int32.ofNat h), .int (Int32.ofNat la), .int (Int32.ofNat tw)]), [.int (((((Int32.ofNat h) * 7) + (Int32.ofNat la)) * 2) + 0)])) (M' := M) rfl) ?_
      rw [hx 0 (by rw [show (0 : Int32).toInt = 0 from rfl]; omega)]
      exact tail _ rfl
  obtain ⟨K, r, M', q, rfl, rfl⟩ := go
  exact ⟨K, mRun_dm q hd⟩
theorem xmf_run (hT : aTabOk) {M : mHe} (hM : yTy M) {g : Nat → Nat → Int32} (hg : rdI M = g) {h la tw : Nat} (hh : h ≤ 8) (hl : la ≤ 6) (ht : tw ≤ 1) {d : Nat} (hd : 20 ≤ d) : ∃ K, mRun none K d (146, 0, lv_args 0 [.ref 49, .int (Int32.ofNat h), .int (Int32.ofNat la), .int (Int32.ofNat tw)], []) M = some (some (.int (g 43 (14 * h + 2 * la + tw))), M) := by
  obtain ⟨K1, q1⟩ := xpl_run hT hM hh hl ht (d := 19) (by decide)
  have go : mEv none 20 (146, 0, lv_args 0 [.ref 49, .int (Int32.ofNat h), .int (Int32.ofNat la), .int (Int32.ofNat tw)], []) M (fun r M' => r = some (.int (g 43 (14 * h + 2 * la + tw))) ∧ M' = M) := by
    refine e_then (e_al1 hT (y := 146) (pc := 0) (q := (yX7_mostFrom, cX7_mostFrom, 4, (some .int), 7)) rfl (show aTab 146 0 = some (.aload_n 0, 1, 0, 0, 0, 0, 0, 0) from rfl) rfl rfl) ?_
    refine e_then (e_getR hT (y := 146) (pc := 1) (q := (yX7_mostFrom, cX7_mostFrom, 4, (some .int), 7)) rfl (show aTab 146 1 = some (.getfield 18, 3, 0, 7, 3, 0, 0, 0) from rfl) rfl (by decide) (by decide) hM rfl rfl) ?_
    refine e_then (e_al1 hT (y := 146) (pc := 4) (q := (yX7_mostFrom, cX7_mostFrom, 4, (some .int), 7)) rfl (show aTab 146 4 = some (.aload_n 0, 1, 0, 0, 0, 0, 0, 0) from rfl) rfl rfl) ?_
    refine e_then (e_il1 hT (y := 146) (pc := 5) (q := (yX7_mostFrom, cX7_mostFrom, 4, (some .int), 7)) rfl (show aTab 146 5 = some (.iload_n 1, 1, 0, 0, 0, 0, 0, 0) from rfl) rfl rfl) ?_
    refine e_then (e_il1 hT (y := 146) (pc := 6) (q := (yX7_mostFrom, cX7_mostFrom, 4, (some .int), 7)) rfl (show aTab 146 6 = some (.iload_n 2, 1, 0, 0, 0, 0, 0, 0) from rfl) rfl rfl) ?_
    refine e_then (e_il1 hT (y := 146) (pc := 7) (q := (yX7_mostFrom, cX7_mostFrom, 4, (some .int), 7)) rfl (show aTab 146 7 = some (.iload_n 3, 1, 0, 0, 0, 0, 0, 0) from rfl) rfl rfl) ?_
    refine e_then (e_call hT (y := 146) (pc := 8) (q := (yX7_mostFrom, cX7_mostFrom, 4, (some .int), 7)) rfl (show aTab 146 8 = some (.invokevirtual 69, 3, 1, 145, 0, 3, 5, 7) from rfl) rfl ⟨by decide, Nat.le_of_ble_eq_true rfl⟩ (ob_at hM (rfl : tTy 40 = some (.inr (7, _)))).choose_spec (Nat.le_of_ble_eq_true rfl) (Nat.le_of_ble_eq_true rfl) ⟨by decide, by decide⟩ q1) ?_
    refine e_then (s_ald hT (y := 146) (pc := 11) (q := (yX7_mostFrom, cX7_mostFrom, 4, (some .int), 7)) rfl (show aTab 146 11 = some (.iaload, 1, 0, 0, 0, 0, 0, 0) from rfl) rfl hM hg 43 (14 * h + 2 * la + tw) rfl (i32n (by omega)) (by omega)) ?_
    exact e_fin (e_iret hT (y := 146) (pc := 12) (q := (yX7_mostFrom, cX7_mostFrom, 4, (some .int), 7)) rfl (show aTab 146 12 = some (.ireturn, 1, 0, 0, 0, 0, 0, 0) from rfl) ⟨rfl, rfl⟩) ⟨rfl, rfl⟩
  obtain ⟨K, r, M', q, rfl, rfl⟩ := go
  exact ⟨K, mRun_dm q hd⟩
def agV (who la : Nat) : Nat := if who = la ∧ who < 6 then 1 else 0
theorem agV_1 (who la : Nat) : agV who la ≤ 1 := by unfold agV; split <;> omega
theorem xhw_run (hT : aTabOk) {M : mHe} (hM : yTy M) {g : Nat → Nat → Int32} (hg : rdI M = g) {h who la : Nat} (hh : h ≤ 7) (hw : who ≤ 6) (hl : la ≤ 6) {d : Nat} (hd : 30 ≤ d) : ∃ K, mRun none K d (150, 0, lv_args 0 [.ref 49, .int (Int32.ofNat h), .int (Int32.ofNat who), .int (Int32.ofNat la)], []) M = some (some (.int (xHr g h who + g 43 (14 * (h + 1) + 2 * who + agV who la))), M) := by
  have ew := i32n (k := who) (by omega)
  have el := i32n (k := la) (by omega)
  have e6 : (6 : Int32).toInt = 6 := rfl
  have eh1 : Int32.ofNat h + 1 = Int32.ofNat (h + 1) := i32eq (by rw [i32_add (by rw [i32n (by omega), show (1 : Int32).toInt = 1 from rfl]; omega) (by rw [i32n (by omega), show (1 : Int32).toInt = 1 from rfl]; omega), i32n (by omega), i32n (by omega), show (1 : Int32).toInt = 1 from rfl]; omega)
  obtain ⟨K1, q1⟩ := xhi_run hT hM hg hh hw (d := 29) (by decide)
  have go : mEv none 30 (150, 0, lv_args 0 [.ref 49, .int (Int32.ofNat h), .int (Int32.ofNat who), .int (Int32.ofNat la)], []) M (fun r M' => r = some (.int (xHr g h who + g 43 (14 * (h + 1) + 2 * who + agV who la))) ∧ M' = M) := by
    by_cases c1 : who = la
    · by_cases c2 : who = 6
      · obtain ⟨K2, q2⟩ := xmf_run hT hM hg (h := h + 1) (la := who) (tw := 0) (by omega) hw (by decide) (d := 29) (by decide)
        refine e_then (e_il1 hT (y := 150) (pc := 0) (q := (yX7_heardWith, cX7_heardWith, 5, (some .int), 7)) rfl (show aTab 150 0 = some (.iload_n 2, 1, 0, 0, 0, 0, 0, 0) from rfl) rfl rfl) ?_
        refine e_then (e_il1 hT (y := 150) (pc := 1) (q := (yX7_heardWith, cX7_heardWith, 5, (some .int), 7)) rfl (show aTab 150 1 = some (.iload_n 3, 1, 0, 0, 0, 0, 0, 0) from rfl) rfl rfl) ?_
        refine e_then (e_icF hT (y := 150) (pc := 2) (q := (yX7_heardWith, cX7_heardWith, 5, (some .int), 7)) rfl (show aTab 150 2 = some (.if_icmp .ne 13, 3, 0, 0, 0, 0, 0, 0) from rfl) rfl (t := 15) rfl (cdF (by show ¬ ¬ _ = _; omega))) ?_
        refine e_then (e_il1 hT (y := 150) (pc := 5) (q := (yX7_heardWith, cX7_heardWith, 5, (some .int), 7)) rfl (show aTab 150 5 = some (.iload_n 2, 1, 0, 0, 0, 0, 0, 0) from rfl) rfl rfl) ?_
        refine e_then (e_st hT (y := 150) (pc := 6) (q := (yX7_heardWith, cX7_heardWith, 5, (some .int), 7)) rfl (show aTab 150 6 = some (.bipush 6, 2, 0, 0, 0, 0, 0, 0) from rfl) (fr' := (150, 8, (lv_args 0 [.ref 49, .int (Int32.ofNat h), .int (Int32.ofNat who), .int (Int32.ofNat la)]), [.int 6, .int (Int32.ofNat who)])) (M' := M) rfl) ?_
        refine e_then (e_icT hT (y := 150) (pc := 8) (q := (yX7_heardWith, cX7_heardWith, 5, (some .int), 7)) rfl (show aTab 150 8 = some (.if_icmp .eq 7, 3, 0, 0, 0, 0, 0, 0) from rfl) rfl (t := 15) rfl (cdT (by show _ = _; omega))) ?_
        refine e_then (e_st hT (y := 150) (pc := 15) (q := (yX7_heardWith, cX7_heardWith, 5, (some .int), 7)) rfl (show aTab 150 15 = some (.iconst 0, 1, 0, 0, 0, 0, 0, 0) from rfl) (fr' := (150, 16, (lv_args 0 [.ref 49, .int (Int32.ofNat h), .int (Int32.ofNat who), .int (Int32.ofNat la)]), [.int 0])) (M' := M) rfl) ?_
        refine e_then (e_is2 hT (y := 150) (pc := 16) (q := (yX7_heardWith, cX7_heardWith, 5, (some .int), 7)) rfl (show aTab 150 16 = some (.istore 4, 2, 0, 0, 0, 0, 0, 0) from rfl) ⟨rfl, by decide⟩) ?_
        refine e_then (e_al1 hT (y := 150) (pc := 18) (q := (yX7_heardWith, cX7_heardWith, 5, (some .int), 7)) rfl (show aTab 150 18 = some (.aload_n 0, 1, 0, 0, 0, 0, 0, 0) from rfl) rfl (mlg_r rfl (by decide))) ?_
        refine e_then (e_il1 hT (y := 150) (pc := 19) (q := (yX7_heardWith, cX7_heardWith, 5, (some .int), 7)) rfl (show aTab 150 19 = some (.iload_n 1, 1, 0, 0, 0, 0, 0, 0) from rfl) rfl (mlg_i rfl (by decide))) ?_
        refine e_then (e_il1 hT (y := 150) (pc := 20) (q := (yX7_heardWith, cX7_heardWith, 5, (some .int), 7)) rfl (show aTab 150 20 = some (.iload_n 2, 1, 0, 0, 0, 0, 0, 0) from rfl) rfl (mlg_i rfl (by decide))) ?_
        refine e_then (e_call hT (y := 150) (pc := 21) (q := (yX7_heardWith, cX7_heardWith, 5, (some .int), 7)) rfl (show aTab 150 21 = some (.invokevirtual 83, 3, 1, 151, 0, 2, 3, 7) from rfl) rfl ⟨by decide, Nat.le_of_ble_eq_true rfl⟩ (ob_at hM (rfl : tTy 40 = some (.inr (7, _)))).choose_spec (Nat.le_of_ble_eq_true rfl) (Nat.le_of_ble_eq_true rfl) ⟨by decide, by decide⟩ q1) ?_
        refine e_then (e_al1 hT (y := 150) (pc := 24) (q := (yX7_heardWith, cX7_heardWith, 5, (some .int), 7)) rfl (show aTab 150 24 = some (.aload_n 0, 1, 0, 0, 0, 0, 0, 0) from rfl) rfl (mlg_r rfl (by decide))) ?_
        refine e_then (e_il1 hT (y := 150) (pc := 25) (q := (yX7_heardWith, cX7_heardWith, 5, (some .int), 7)) rfl (show aTab 150 25 = some (.iload_n 1, 1, 0, 0, 0, 0, 0, 0) from rfl) rfl (mlg_i rfl (by decide))) ?_
        refine e_then (e_st hT (y := 150) (pc := 26) (q := (yX7_heardWith, cX7_heardWith, 5, (some .int), 7)) rfl (show aTab 150 26 = some (.iconst 1, 1, 0, 0, 0, 0, 0, 0) from rfl) (fr' := (150, 27, (mlp 4 (.int 0) (lv_args 0 [.ref 49, .int (Int32.ofNat h), .int (Int32.ofNat who), .int (Int32.ofNat la)])), [.int 1, .int (Int32.ofNat h), .ref 49, .int (xHr g h who)])) (M' := M) rfl) ?_
        refine e_then (e_st hT (y := 150) (pc := 27) (q := (yX7_heardWith, cX7_heardWith, 5, (some .int), 7)) rfl (show aTab 150 27 = some (.iadd, 1, 0, 0, 0, 0, 0, 0) from rfl) (fr' := (150, 28, (mlp 4 (.int 0) (lv_args 0 [.ref 49, .int (Int32.ofNat h), .int (Int32.ofNat who), .int (Int32.ofNat la)])), [.int ((Int32.ofNat h) + 1), .ref 49, .int (xHr g h who)])) (M' := M) rfl) ?_
        rw [eh1]
        refine e_then (e_il1 hT (y := 150) (pc := 28) (q := (yX7_heardWith, cX7_heardWith, 5, (some .int), 7)) rfl (show aTab 150 28 = some (.iload_n 2, 1, 0, 0, 0, 0, 0, 0) from rfl) rfl (mlg_i rfl (by decide))) ?_
        refine e_then (e_il2 hT (y := 150) (pc := 29) (q := (yX7_heardWith, cX7_heardWith, 5, (some .int), 7)) rfl (show aTab 150 29 = some (.iload 4, 2, 0, 0, 0, 0, 0, 0) from rfl) rfl (mlg_eq 4 _ _)) ?_
        refine e_then (e_call hT (y := 150) (pc := 31) (q := (yX7_heardWith, cX7_heardWith, 5, (some .int), 7)) rfl (show aTab 150 31 = some (.invokevirtual 62, 3, 1, 146, 0, 3, 4, 7) from rfl) rfl ⟨by decide, Nat.le_of_ble_eq_true rfl⟩ (ob_at hM (rfl : tTy 40 = some (.inr (7, _)))).choose_spec (Nat.le_of_ble_eq_true rfl) (Nat.le_of_ble_eq_true rfl) ⟨by decide, by decide⟩ q2) ?_
        refine e_then (e_st hT (y := 150) (pc := 34) (q := (yX7_heardWith, cX7_heardWith, 5, (some .int), 7)) rfl (show aTab 150 34 = some (.iadd, 1, 0, 0, 0, 0, 0, 0) from rfl) (fr' := (150, 35, (mlp 4 (.int 0) (lv_args 0 [.ref 49, .int (Int32.ofNat h), .int (Int32.ofNat who), .int (Int32.ofNat la)])), [.int ((xHr g h who) + (g 43 (14 * (h + 1) + 2 * who + 0)))])) (M' := M) rfl) ?_
        exact e_fin (e_iret hT (y := 150) (pc := 35) (q := (yX7_heardWith, cX7_heardWith, 5, (some .int), 7)) rfl (show aTab 150 35 = some (.ireturn, 1, 0, 0, 0, 0, 0, 0) from rfl) ⟨rfl, rfl⟩) ⟨by rw [show agV who la = 0 from if_neg (by omega)], rfl⟩
      · obtain ⟨K2, q2⟩ := xmf_run hT hM hg (h := h + 1) (la := who) (tw := 1) (by omega) hw (by decide) (d := 29) (by decide)
        refine e_then (e_il1 hT (y := 150) (pc := 0) (q := (yX7_heardWith, cX7_heardWith, 5, (some .int), 7)) rfl (show aTab 150 0 = some (.iload_n 2, 1, 0, 0, 0, 0, 0, 0) from rfl) rfl rfl) ?_
        refine e_then (e_il1 hT (y := 150) (pc := 1) (q := (yX7_heardWith, cX7_heardWith, 5, (some .int), 7)) rfl (show aTab 150 1 = some (.iload_n 3, 1, 0, 0, 0, 0, 0, 0) from rfl) rfl rfl) ?_
        refine e_then (e_icF hT (y := 150) (pc := 2) (q := (yX7_heardWith, cX7_heardWith, 5, (some .int), 7)) rfl (show aTab 150 2 = some (.if_icmp .ne 13, 3, 0, 0, 0, 0, 0, 0) from rfl) rfl (t := 15) rfl (cdF (by show ¬ ¬ _ = _; omega))) ?_
        refine e_then (e_il1 hT (y := 150) (pc := 5) (q := (yX7_heardWith, cX7_heardWith, 5, (some .int), 7)) rfl (show aTab 150 5 = some (.iload_n 2, 1, 0, 0, 0, 0, 0, 0) from rfl) rfl rfl) ?_
        refine e_then (e_st hT (y := 150) (pc := 6) (q := (yX7_heardWith, cX7_heardWith, 5, (some .int), 7)) rfl (show aTab 150 6 = some (.bipush 6, 2, 0, 0, 0, 0, 0, 0) from rfl) (fr' := (150, 8, (lv_args 0 [.ref 49, .int (Int32.ofNat h), .int (Int32.ofNat who), .int (Int32.ofNat la)]), [.int 6, .int (Int32.ofNat who)])) (M' := M) rfl) ?_
        refine e_then (e_icF hT (y := 150) (pc := 8) (q := (yX7_heardWith, cX7_heardWith, 5, (some .int), 7)) rfl (show aTab 150 8 = some (.if_icmp .eq 7, 3, 0, 0, 0, 0, 0, 0) from rfl) rfl (t := 15) rfl (cdF (by show ¬ _ = _; omega))) ?_
        refine e_then (e_st hT (y := 150) (pc := 11) (q := (yX7_heardWith, cX7_heardWith, 5, (some .int), 7)) rfl (show aTab 150 11 = some (.iconst 1, 1, 0, 0, 0, 0, 0, 0) from rfl) (fr' := (150, 12, (lv_args 0 [.ref 49, .int (Int32.ofNat h), .int (Int32.ofNat who), .int (Int32.ofNat la)]), [.int 1])) (M' := M) rfl) ?_
        refine e_then (e_st hT (y := 150) (pc := 12) (q := (yX7_heardWith, cX7_heardWith, 5, (some .int), 7)) rfl (show aTab 150 12 = some (.goto 4, 3, 0, 0, 0, 0, 0, 0) from rfl) (fr' := (150, 16, (lv_args 0 [.ref 49, .int (Int32.ofNat h), .int (Int32.ofNat who), .int (Int32.ofNat la)]), [.int 1])) (M' := M) rfl) ?_
        refine e_then (e_is2 hT (y := 150) (pc := 16) (q := (yX7_heardWith, cX7_heardWith, 5, (some .int), 7)) rfl (show aTab 150 16 = some (.istore 4, 2, 0, 0, 0, 0, 0, 0) from rfl) ⟨rfl, by decide⟩) ?_
        refine e_then (e_al1 hT (y := 150) (pc := 18) (q := (yX7_heardWith, cX7_heardWith, 5, (some .int), 7)) rfl (show aTab 150 18 = some (.aload_n 0, 1, 0, 0, 0, 0, 0, 0) from rfl) rfl (mlg_r rfl (by decide))) ?_
        refine e_then (e_il1 hT (y := 150) (pc := 19) (q := (yX7_heardWith, cX7_heardWith, 5, (some .int), 7)) rfl (show aTab 150 19 = some (.iload_n 1, 1, 0, 0, 0, 0, 0, 0) from rfl) rfl (mlg_i rfl (by decide))) ?_
        refine e_then (e_il1 hT (y := 150) (pc := 20) (q := (yX7_heardWith, cX7_heardWith, 5, (some .int), 7)) rfl (show aTab 150 20 = some (.iload_n 2, 1, 0, 0, 0, 0, 0, 0) from rfl) rfl (mlg_i rfl (by decide))) ?_
        refine e_then (e_call hT (y := 150) (pc := 21) (q := (yX7_heardWith, cX7_heardWith, 5, (some .int), 7)) rfl (show aTab 150 21 = some (.invokevirtual 83, 3, 1, 151, 0, 2, 3, 7) from rfl) rfl ⟨by decide, Nat.le_of_ble_eq_true rfl⟩ (ob_at hM (rfl : tTy 40 = some (.inr (7, _)))).choose_spec (Nat.le_of_ble_eq_true rfl) (Nat.le_of_ble_eq_true rfl) ⟨by decide, by decide⟩ q1) ?_
        refine e_then (e_al1 hT (y := 150) (pc := 24) (q := (yX7_heardWith, cX7_heardWith, 5, (some .int), 7)) rfl (show aTab 150 24 = some (.aload_n 0, 1, 0, 0, 0, 0, 0, 0) from rfl) rfl (mlg_r rfl (by decide))) ?_
        refine e_then (e_il1 hT (y := 150) (pc := 25) (q := (yX7_heardWith, cX7_heardWith, 5, (some .int), 7)) rfl (show aTab 150 25 = some (.iload_n 1, 1, 0, 0, 0, 0, 0, 0) from rfl) rfl (mlg_i rfl (by decide))) ?_
        refine e_then (e_st hT (y := 150) (pc := 26) (q := (yX7_heardWith, cX7_heardWith, 5, (some .int), 7)) rfl (show aTab 150 26 = some (.iconst 1, 1, 0, 0, 0, 0, 0, 0) from rfl) (fr' := (150, 27, (mlp 4 (.int 1) (lv_args 0 [.ref 49, .int (Int32.ofNat h), .int (Int32.ofNat who), .int (Int32.ofNat la)])), [.int 1, .int (Int32.ofNat h), .ref 49, .int (xHr g h who)])) (M' := M) rfl) ?_
        refine e_then (e_st hT (y := 150) (pc := 27) (q := (yX7_heardWith, cX7_heardWith, 5, (some .int), 7)) rfl (show aTab 150 27 = some (.iadd, 1, 0, 0, 0, 0, 0, 0) from rfl) (fr' := (150, 28, (mlp 4 (.int 1) (lv_args 0 [.ref 49, .int (Int32.ofNat h), .int (Int32.ofNat who), .int (Int32.ofNat la)])), [.int ((Int32.ofNat h) + 1), .ref 49, .int (xHr g h who)])) (M' := M) rfl) ?_
        rw [eh1]
        refine e_then (e_il1 hT (y := 150) (pc := 28) (q := (yX7_heardWith, cX7_heardWith, 5, (some .int), 7)) rfl (show aTab 150 28 = some (.iload_n 2, 1, 0, 0, 0, 0, 0, 0) from rfl) rfl (mlg_i rfl (by decide))) ?_
        refine e_then (e_il2 hT (y := 150) (pc := 29) (q := (yX7_heardWith, cX7_heardWith, 5, (some .int), 7)) rfl (show aTab 150 29 = some (.iload 4, 2, 0, 0, 0, 0, 0, 0) from rfl) rfl (mlg_eq 4 _ _)) ?_
        refine e_then (e_call hT (y := 150) (pc := 31) (q := (yX7_heardWith, cX7_heardWith, 5, (some .int), 7)) rfl (show aTab 150 31 = some (.invokevirtual 62, 3, 1, 146, 0, 3, 4, 7) from rfl) rfl ⟨by decide, Nat.le_of_ble_eq_true rfl⟩ (ob_at hM (rfl : tTy 40 = some (.inr (7, _)))).choose_spec (Nat.le_of_ble_eq_true rfl) (Nat.le_of_ble_eq_true rfl) ⟨by decide, by decide⟩ q2) ?_
        refine e_then (e_st hT (y := 150) (pc := 34) (q := (yX7_heardWith, cX7_heardWith, 5, (some .int), 7)) rfl (show aTab 150 34 = some (.iadd, 1, 0, 0, 0, 0, 0, 0) from rfl) (fr' := (150, 35, (mlp 4 (.int 1) (lv_args 0 [.ref 49, .int (Int32.ofNat h), .int (Int32.ofNat who), .int (Int32.ofNat la)])), [.int ((xHr g h who) + (g 43 (14 * (h + 1) + 2 * who + 1)))])) (M' := M) rfl) ?_
        exact e_fin (e_iret hT (y := 150) (pc := 35) (q := (yX7_heardWith, cX7_heardWith, 5, (some .int), 7)) rfl (show aTab 150 35 = some (.ireturn, 1, 0, 0, 0, 0, 0, 0) from rfl) ⟨rfl, rfl⟩) ⟨by rw [show agV who la = 1 from if_pos (by omega)], rfl⟩
    · obtain ⟨K2, q2⟩ := xmf_run hT hM hg (h := h + 1) (la := who) (tw := 0) (by omega) hw (by decide) (d := 29) (by decide)
      refine e_then (e_il1 hT (y := 150) (pc := 0) (q := (yX7_heardWith, cX7_heardWith, 5, (some .int), 7)) rfl (show aTab 150 0 = some (.iload_n 2, 1, 0, 0, 0, 0, 0, 0) from rfl) rfl rfl) ?_
      refine e_then (e_il1 hT (y := 150) (pc := 1) (q := (yX7_heardWith, cX7_heardWith, 5, (some .int), 7)) rfl (show aTab 150 1 = some (.iload_n 3, 1, 0, 0, 0, 0, 0, 0) from rfl) rfl rfl) ?_
      refine e_then (e_icT hT (y := 150) (pc := 2) (q := (yX7_heardWith, cX7_heardWith, 5, (some .int), 7)) rfl (show aTab 150 2 = some (.if_icmp .ne 13, 3, 0, 0, 0, 0, 0, 0) from rfl) rfl (t := 15) rfl (cdT (by show ¬ _ = _; omega))) ?_
      refine e_then (e_st hT (y := 150) (pc := 15) (q := (yX7_heardWith, cX7_heardWith, 5, (some .int), 7)) rfl (show aTab 150 15 = some (.iconst 0, 1, 0, 0, 0, 0, 0, 0) from rfl) (fr' := (150, 16, (lv_args 0 [.ref 49, .int (Int32.ofNat h), .int (Int32.ofNat who), .int (Int32.ofNat la)]), [.int 0])) (M' := M) rfl) ?_
      refine e_then (e_is2 hT (y := 150) (pc := 16) (q := (yX7_heardWith, cX7_heardWith, 5, (some .int), 7)) rfl (show aTab 150 16 = some (.istore 4, 2, 0, 0, 0, 0, 0, 0) from rfl) ⟨rfl, by decide⟩) ?_
      refine e_then (e_al1 hT (y := 150) (pc := 18) (q := (yX7_heardWith, cX7_heardWith, 5, (some .int), 7)) rfl (show aTab 150 18 = some (.aload_n 0, 1, 0, 0, 0, 0, 0, 0) from rfl) rfl (mlg_r rfl (by decide))) ?_
      refine e_then (e_il1 hT (y := 150) (pc := 19) (q := (yX7_heardWith, cX7_heardWith, 5, (some .int), 7)) rfl (show aTab 150 19 = some (.iload_n 1, 1, 0, 0, 0, 0, 0, 0) from rfl) rfl (mlg_i rfl (by decide))) ?_
      refine e_then (e_il1 hT (y := 150) (pc := 20) (q := (yX7_heardWith, cX7_heardWith, 5, (some .int), 7)) rfl (show aTab 150 20 = some (.iload_n 2, 1, 0, 0, 0, 0, 0, 0) from rfl) rfl (mlg_i rfl (by decide))) ?_
      refine e_then (e_call hT (y := 150) (pc := 21) (q := (yX7_heardWith, cX7_heardWith, 5, (some .int), 7)) rfl (show aTab 150 21 = some (.invokevirtual 83, 3, 1, 151, 0, 2, 3, 7) from rfl) rfl ⟨by decide, Nat.le_of_ble_eq_true rfl⟩ (ob_at hM (rfl : tTy 40 = some (.inr (7, _)))).choose_spec (Nat.le_of_ble_eq_true rfl) (Nat.le_of_ble_eq_true rfl) ⟨by decide, by decide⟩ q1) ?_
      refine e_then (e_al1 hT (y := 150) (pc := 24) (q := (yX7_heardWith, cX7_heardWith, 5, (some .int), 7)) rfl (show aTab 150 24 = some (.aload_n 0, 1, 0, 0, 0, 0, 0, 0) from rfl) rfl (mlg_r rfl (by decide))) ?_
      refine e_then (e_il1 hT (y := 150) (pc := 25) (q := (yX7_heardWith, cX7_heardWith, 5, (some .int), 7)) rfl (show aTab 150 25 = some (.iload_n 1, 1, 0, 0, 0, 0, 0, 0) from rfl) rfl (mlg_i rfl (by decide))) ?_
      refine e_then (e_st hT (y := 150) (pc := 26) (q := (yX7_heardWith, cX7_heardWith, 5, (some .int), 7)) rfl (show aTab 150 26 = some (.iconst 1, 1, 0, 0, 0, 0, 0, 0) from rfl) (fr' := (150, 27, (mlp 4 (.int 0) (lv_args 0 [.ref 49, .int (Int32.ofNat h), .int (Int32.ofNat who), .int (Int32.ofNat la)])), [.int 1, .int (Int32.ofNat h), .ref 49, .int (xHr g h who)])) (M' := M) rfl) ?_
      refine e_then (e_st hT (y := 150) (pc := 27) (q := (yX7_heardWith, cX7_heardWith, 5, (some .int), 7)) rfl (show aTab 150 27 = some (.iadd, 1, 0, 0, 0, 0, 0, 0) from rfl) (fr' := (150, 28, (mlp 4 (.int 0) (lv_args 0 [.ref 49, .int (Int32.ofNat h), .int (Int32.ofNat who), .int (Int32.ofNat la)])), [.int ((Int32.ofNat h) + 1), .ref 49, .int (xHr g h who)])) (M' := M) rfl) ?_
      rw [eh1]
      refine e_then (e_il1 hT (y := 150) (pc := 28) (q := (yX7_heardWith, cX7_heardWith, 5, (some .int), 7)) rfl (show aTab 150 28 = some (.iload_n 2, 1, 0, 0, 0, 0, 0, 0) from rfl) rfl (mlg_i rfl (by decide))) ?_
      refine e_then (e_il2 hT (y := 150) (pc := 29) (q := (yX7_heardWith, cX7_heardWith, 5, (some .int), 7)) rfl (show aTab 150 29 = some (.iload 4, 2, 0, 0, 0, 0, 0, 0) from rfl) rfl (mlg_eq 4 _ _)) ?_
      refine e_then (e_call hT (y := 150) (pc := 31) (q := (yX7_heardWith, cX7_heardWith, 5, (some .int), 7)) rfl (show aTab 150 31 = some (.invokevirtual 62, 3, 1, 146, 0, 3, 4, 7) from rfl) rfl ⟨by decide, Nat.le_of_ble_eq_true rfl⟩ (ob_at hM (rfl : tTy 40 = some (.inr (7, _)))).choose_spec (Nat.le_of_ble_eq_true rfl) (Nat.le_of_ble_eq_true rfl) ⟨by decide, by decide⟩ q2) ?_
      refine e_then (e_st hT (y := 150) (pc := 34) (q := (yX7_heardWith, cX7_heardWith, 5, (some .int), 7)) rfl (show aTab 150 34 = some (.iadd, 1, 0, 0, 0, 0, 0, 0) from rfl) (fr' := (150, 35, (mlp 4 (.int 0) (lv_args 0 [.ref 49, .int (Int32.ofNat h), .int (Int32.ofNat who), .int (Int32.ofNat la)])), [.int ((xHr g h who) + (g 43 (14 * (h + 1) + 2 * who + 0)))])) (M' := M) rfl) ?_
      exact e_fin (e_iret hT (y := 150) (pc := 35) (q := (yX7_heardWith, cX7_heardWith, 5, (some .int), 7)) rfl (show aTab 150 35 = some (.ireturn, 1, 0, 0, 0, 0, 0, 0) from rfl) ⟨rfl, rfl⟩) ⟨by rw [show agV who la = 0 from if_neg (by omega)], rfl⟩
  obtain ⟨K, r, M', q, rfl, rfl⟩ := go
  exact ⟨K, mRun_dm q hd⟩
theorem hbV_x {g : Nat → Nat → Int32} {N h la tw who : Nat} {nx : Nat → Int32} (hn : ∀ k, k < 14 → g 43 (14 * (h + 1) + k) = nx k) (hw : who ≤ 6) : hbV (xHr g) N nx h la tw who = if who < 6 ∧ (N ≤ who ∨ (who = la ∧ tw = 1)) then -1 else xHr g h who + g 43 (14 * (h + 1) + 2 * who + agV who la) := by
  unfold hbV
  have := agV_1 who la
  rw [Nat.add_assoc (14 * (h + 1)), hn _ (by omega)]
  rfl
theorem xbf_loop (hT : aTabOk) {M : mHe} (hM : yTy M) {g : Nat → Nat → Int32} (hg : rdI M = g) {N : Nat} (hN : g 40 0 = Int32.ofNat N) (hN6 : N ≤ 6) {nx : Nat → Int32} {h la tw : Nat} (hn : ∀ k, k < 14 → g 43 (14 * (h + 1) + k) = nx k) (hh : h ≤ 7) (hl : la ≤ 6) (ht : tw ≤ 1) : ∀ (j who : Nat) (lv : List (Nat × Value)), who + j = 7 → mlg 0 lv = some (.ref 49) → mlg 1 lv = some (.int (Int32.ofNat h)) → mlg 2 lv = some (.int (Int32.ofNat la)) → mlg 3 lv = some (.int (Int32.ofNat tw)) → mlg 4 lv = some (.int (mxV (hbV (xHr g) N nx h la tw) who)) → mlg 5 lv = some (.int (Int32.ofNat who)) → mEv none 40 (147, 6, lv, []) M (fun r M' => r = some (.int (mxV (hbV (xHr g) N nx h la tw) 7)) ∧ M' = M) := by
  have e7 : (7 : Int32).toInt = 7 := rfl
  intro j
  induction j with
  | zero =>
    intro who lv hj h0 h1 h2 h3 h4 h5
    have hj : who = 7 := by omega
    subst hj
    refine e_then (e_il2 hT (y := 147) (pc := 6) (q := (yX7_bestFrom, cX7_bestFrom, 6, (some .int), 7)) rfl (show aTab 147 6 = some (.iload 5, 2, 0, 0, 0, 0, 0, 0) from rfl) rfl h5) ?_
    refine e_then (e_st hT (y := 147) (pc := 8) (q := (yX7_bestFrom, cX7_bestFrom, 6, (some .int), 7)) rfl (show aTab 147 8 = some (.bipush 7, 2, 0, 0, 0, 0, 0, 0) from rfl) (fr' := (147, 10, lv, [.int 7, .int (Int32.ofNat 7)])) (M' := M) rfl) ?_
    refine e_then (e_icT hT (y := 147) (pc := 10) (q := (yX7_bestFrom, cX7_bestFrom, 6, (some .int), 7)) rfl (show aTab 147 10 = some (.if_icmp .ge 35, 3, 0, 0, 0, 0, 0, 0) from rfl) rfl (t := 45) rfl (cdT (by show (7 : Int32).toInt ≤ (Int32.ofNat 7).toInt; decide))) ?_
    refine e_then (e_il2 hT (y := 147) (pc := 45) (q := (yX7_bestFrom, cX7_bestFrom, 6, (some .int), 7)) rfl (show aTab 147 45 = some (.iload 4, 2, 0, 0, 0, 0, 0, 0) from rfl) rfl h4) ?_
    exact e_fin (e_iret hT (y := 147) (pc := 47) (q := (yX7_bestFrom, cX7_bestFrom, 6, (some .int), 7)) rfl (show aTab 147 47 = some (.ireturn, 1, 0, 0, 0, 0, 0, 0) from rfl) ⟨rfl, rfl⟩) ⟨rfl, rfl⟩
  | succ j ih =>
    intro who lv hj h0 h1 h2 h3 h4 h5
    have ew := i32n (k := who) (by omega)
    obtain ⟨K1, q1⟩ := xct_run hT hM hg hN hN6 (who := who) (by omega) hl ht (d := 39) (by decide)
    obtain ⟨K2, q2⟩ := xhw_run hT hM hg hh (who := who) (la := la) (by omega) hl (d := 39) (by decide)
    have hv := hbV_x (N := N) (tw := tw) (la := la) hn (who := who) (by omega)
    have hs : mxV (hbV (xHr g) N nx h la tw) (who + 1) = if mxV (hbV (xHr g) N nx h la tw) who < hbV (xHr g) N nx h la tw who then hbV (xHr g) N nx h la tw who else mxV (hbV (xHr g) N nx h la tw) who := rfl
    by_cases c1 : who < 6 ∧ (N ≤ who ∨ (who = la ∧ tw = 1))
    · rw [gB_f (fun z => z c1)] at q1
      rw [if_pos c1] at hv
      have h0' := (mxV_ge (hbV (xHr g) N nx h la tw) who).1
      rw [hv, if_neg (fun z => by have z := Int32.lt_iff_toInt_lt.mp z; rw [show (-1 : Int32).toInt = -1 from rfl] at z; omega)] at hs
      refine e_then (e_il2 hT (y := 147) (pc := 6) (q := (yX7_bestFrom, cX7_bestFrom, 6, (some .int), 7)) rfl (show aTab 147 6 = some (.iload 5, 2, 0, 0, 0, 0, 0, 0) from rfl) rfl h5) ?_
      refine e_then (e_st hT (y := 147) (pc := 8) (q := (yX7_bestFrom, cX7_bestFrom, 6, (some .int), 7)) rfl (show aTab 147 8 = some (.bipush 7, 2, 0, 0, 0, 0, 0, 0) from rfl) (fr' := (147, 10, lv, [.int 7, .int (Int32.ofNat who)])) (M' := M) rfl) ?_
      refine e_then (e_icF hT (y := 147) (pc := 10) (q := (yX7_bestFrom, cX7_bestFrom, 6, (some .int), 7)) rfl (show aTab 147 10 = some (.if_icmp .ge 35, 3, 0, 0, 0, 0, 0, 0) from rfl) rfl (t := 45) rfl (cdF (by show ¬ _ ≤ _; omega))) ?_
      refine e_then (e_al1 hT (y := 147) (pc := 13) (q := (yX7_bestFrom, cX7_bestFrom, 6, (some .int), 7)) rfl (show aTab 147 13 = some (.aload_n 0, 1, 0, 0, 0, 0, 0, 0) from rfl) rfl h0) ?_
      refine e_then (e_il2 hT (y := 147) (pc := 14) (q := (yX7_bestFrom, cX7_bestFrom, 6, (some .int), 7)) rfl (show aTab 147 14 = some (.iload 5, 2, 0, 0, 0, 0, 0, 0) from rfl) rfl h5) ?_
      refine e_then (e_il1 hT (y := 147) (pc := 16) (q := (yX7_bestFrom, cX7_bestFrom, 6, (some .int), 7)) rfl (show aTab 147 16 = some (.iload_n 2, 1, 0, 0, 0, 0, 0, 0) from rfl) rfl h2) ?_
      refine e_then (e_il1 hT (y := 147) (pc := 17) (q := (yX7_bestFrom, cX7_bestFrom, 6, (some .int), 7)) rfl (show aTab 147 17 = some (.iload_n 3, 1, 0, 0, 0, 0, 0, 0) from rfl) rfl h3) ?_
      refine e_then (e_call hT (y := 147) (pc := 18) (q := (yX7_bestFrom, cX7_bestFrom, 6, (some .int), 7)) rfl (show aTab 147 18 = some (.invokevirtual 75, 3, 1, 149, 0, 3, 4, 7) from rfl) rfl ⟨by decide, Nat.le_of_ble_eq_true rfl⟩ (ob_at hM (rfl : tTy 40 = some (.inr (7, _)))).choose_spec (Nat.le_of_ble_eq_true rfl) (Nat.le_of_ble_eq_true rfl) ⟨by decide, by decide⟩ q1) ?_
      refine e_then (e_ifT hT (y := 147) (pc := 21) (q := (yX7_bestFrom, cX7_bestFrom, 6, (some .int), 7)) rfl (show aTab 147 21 = some (.ifCond .eq 18, 3, 0, 0, 0, 0, 0, 0) from rfl) rfl (t := 39) rfl (cdT (by show (0 : Int32).toInt = 0; rfl))) ?_
      refine e_then (e_ii hT (y := 147) (pc := 39) (q := (yX7_bestFrom, cX7_bestFrom, 6, (some .int), 7)) rfl (show aTab 147 39 = some (.iinc 5 1, 3, 0, 0, 0, 0, 0, 0) from rfl) ⟨rfl, by decide⟩ h5) ?_
      refine e_then (e_st hT (y := 147) (pc := 42) (q := (yX7_bestFrom, cX7_bestFrom, 6, (some .int), 7)) rfl (show aTab 147 42 = some (.goto (-36), 3, 0, 0, 0, 0, 0, 0) from rfl) (fr' := (147, 6, (mlp 5 (.int ((Int32.ofNat who) + Int32.ofInt 1)) lv), [])) (M' := M) rfl) ?_
      rw [os1 (by omega)]
      exact ih (who + 1) _ (by omega) (mlg_r h0 (by decide)) (mlg_i h1 (by decide)) (mlg_i h2 (by decide)) (mlg_i h3 (by decide)) (by rw [hs]; exact (mlg_i h4 (by decide))) (mlg_eq 5 _ _)
    · rw [gB_t c1] at q1
      rw [if_neg c1] at hv
      rw [← hv] at q2
      refine e_then (e_il2 hT (y := 147) (pc := 6) (q := (yX7_bestFrom, cX7_bestFrom, 6, (some .int), 7)) rfl (show aTab 147 6 = some (.iload 5, 2, 0, 0, 0, 0, 0, 0) from rfl) rfl h5) ?_
      refine e_then (e_st hT (y := 147) (pc := 8) (q := (yX7_bestFrom, cX7_bestFrom, 6, (some .int), 7)) rfl (show aTab 147 8 = some (.bipush 7, 2, 0, 0, 0, 0, 0, 0) from rfl) (fr' := (147, 10, lv, [.int 7, .int (Int32.ofNat who)])) (M' := M) rfl) ?_
      refine e_then (e_icF hT (y := 147) (pc := 10) (q := (yX7_bestFrom, cX7_bestFrom, 6, (some .int), 7)) rfl (show aTab 147 10 = some (.if_icmp .ge 35, 3, 0, 0, 0, 0, 0, 0) from rfl) rfl (t := 45) rfl (cdF (by show ¬ _ ≤ _; omega))) ?_
      refine e_then (e_al1 hT (y := 147) (pc := 13) (q := (yX7_bestFrom, cX7_bestFrom, 6, (some .int), 7)) rfl (show aTab 147 13 = some (.aload_n 0, 1, 0, 0, 0, 0, 0, 0) from rfl) rfl h0) ?_
      refine e_then (e_il2 hT (y := 147) (pc := 14) (q := (yX7_bestFrom, cX7_bestFrom, 6, (some .int), 7)) rfl (show aTab 147 14 = some (.iload 5, 2, 0, 0, 0, 0, 0, 0) from rfl) rfl h5) ?_
      refine e_then (e_il1 hT (y := 147) (pc := 16) (q := (yX7_bestFrom, cX7_bestFrom, 6, (some .int), 7)) rfl (show aTab 147 16 = some (.iload_n 2, 1, 0, 0, 0, 0, 0, 0) from rfl) rfl h2) ?_
      refine e_then (e_il1 hT (y := 147) (pc := 17) (q := (yX7_bestFrom, cX7_bestFrom, 6, (some .int), 7)) rfl (show aTab 147 17 = some (.iload_n 3, 1, 0, 0, 0, 0, 0, 0) from rfl) rfl h3) ?_
      refine e_then (e_call hT (y := 147) (pc := 18) (q := (yX7_bestFrom, cX7_bestFrom, 6, (some .int), 7)) rfl (show aTab 147 18 = some (.invokevirtual 75, 3, 1, 149, 0, 3, 4, 7) from rfl) rfl ⟨by decide, Nat.le_of_ble_eq_true rfl⟩ (ob_at hM (rfl : tTy 40 = some (.inr (7, _)))).choose_spec (Nat.le_of_ble_eq_true rfl) (Nat.le_of_ble_eq_true rfl) ⟨by decide, by decide⟩ q1) ?_
      refine e_then (e_ifF hT (y := 147) (pc := 21) (q := (yX7_bestFrom, cX7_bestFrom, 6, (some .int), 7)) rfl (show aTab 147 21 = some (.ifCond .eq 18, 3, 0, 0, 0, 0, 0, 0) from rfl) rfl (t := 39) rfl (cdF (by show ¬ (1 : Int32).toInt = 0; decide))) ?_
      refine e_then (e_il2 hT (y := 147) (pc := 24) (q := (yX7_bestFrom, cX7_bestFrom, 6, (some .int), 7)) rfl (show aTab 147 24 = some (.iload 4, 2, 0, 0, 0, 0, 0, 0) from rfl) rfl h4) ?_
      refine e_then (e_al1 hT (y := 147) (pc := 26) (q := (yX7_bestFrom, cX7_bestFrom, 6, (some .int), 7)) rfl (show aTab 147 26 = some (.aload_n 0, 1, 0, 0, 0, 0, 0, 0) from rfl) rfl h0) ?_
      refine e_then (e_il1 hT (y := 147) (pc := 27) (q := (yX7_bestFrom, cX7_bestFrom, 6, (some .int), 7)) rfl (show aTab 147 27 = some (.iload_n 1, 1, 0, 0, 0, 0, 0, 0) from rfl) rfl h1) ?_
      refine e_then (e_il2 hT (y := 147) (pc := 28) (q := (yX7_bestFrom, cX7_bestFrom, 6, (some .int), 7)) rfl (show aTab 147 28 = some (.iload 5, 2, 0, 0, 0, 0, 0, 0) from rfl) rfl h5) ?_
      refine e_then (e_il1 hT (y := 147) (pc := 30) (q := (yX7_bestFrom, cX7_bestFrom, 6, (some .int), 7)) rfl (show aTab 147 30 = some (.iload_n 2, 1, 0, 0, 0, 0, 0, 0) from rfl) rfl h2) ?_
      refine e_then (e_call hT (y := 147) (pc := 31) (q := (yX7_bestFrom, cX7_bestFrom, 6, (some .int), 7)) rfl (show aTab 147 31 = some (.invokevirtual 79, 3, 1, 150, 0, 3, 5, 7) from rfl) rfl ⟨by decide, Nat.le_of_ble_eq_true rfl⟩ (ob_at hM (rfl : tTy 40 = some (.inr (7, _)))).choose_spec (Nat.le_of_ble_eq_true rfl) (Nat.le_of_ble_eq_true rfl) ⟨by decide, by decide⟩ q2) ?_
      refine e_then (e_mx hT (y := 147) (pc := 34) (q := (yX7_bestFrom, cX7_bestFrom, 6, (some .int), 7)) rfl (show aTab 147 34 = some (.invokestatic 34, 3, 13, 0, 0, 0, 0, 0) from rfl) (Nat.le_of_ble_eq_true rfl) (by decide)) ?_
      refine e_then (e_is2 hT (y := 147) (pc := 37) (q := (yX7_bestFrom, cX7_bestFrom, 6, (some .int), 7)) rfl (show aTab 147 37 = some (.istore 4, 2, 0, 0, 0, 0, 0, 0) from rfl) ⟨rfl, by decide⟩) ?_
      refine e_then (e_ii hT (y := 147) (pc := 39) (q := (yX7_bestFrom, cX7_bestFrom, 6, (some .int), 7)) rfl (show aTab 147 39 = some (.iinc 5 1, 3, 0, 0, 0, 0, 0, 0) from rfl) ⟨rfl, by decide⟩ (mlg_i h5 (by decide))) ?_
      refine e_then (e_st hT (y := 147) (pc := 42) (q := (yX7_bestFrom, cX7_bestFrom, 6, (some .int), 7)) rfl (show aTab 147 42 = some (.goto (-36), 3, 0, 0, 0, 0, 0, 0) from rfl) (fr' := (147, 6, (mlp 5 (.int ((Int32.ofNat who) + Int32.ofInt 1)) (mlp 4 (.int (if mxV (hbV (xHr g) N nx h la tw) who < hbV (xHr g) N nx h la tw who then hbV (xHr g) N nx h la tw who else mxV (hbV (xHr g) N nx h la tw) who)) lv)), [])) (M' := M) rfl) ?_
      rw [os1 (by omega)]
      exact ih (who + 1) _ (by omega) (mlg_r (mlg_r h0 (by decide)) (by decide)) (mlg_i (mlg_i h1 (by decide)) (by decide)) (mlg_i (mlg_i h2 (by decide)) (by decide)) (mlg_i (mlg_i h3 (by decide)) (by decide)) (by rw [hs]; exact (mlg_i (mlg_eq 4 _ _) (by decide))) (mlg_eq 5 _ _)
theorem xbf_run (hT : aTabOk) {M : mHe} (hM : yTy M) {g : Nat → Nat → Int32} (hg : rdI M = g) {N : Nat} (hN : g 40 0 = Int32.ofNat N) (hN6 : N ≤ 6) {nx : Nat → Int32} {h la tw : Nat} (hn : ∀ k, k < 14 → g 43 (14 * (h + 1) + k) = nx k) (hh : h ≤ 7) (hl : la ≤ 6) (ht : tw ≤ 1) {d : Nat} (hd : 40 ≤ d) : ∃ K, mRun none K d (147, 0, lv_args 0 [.ref 49, .int (Int32.ofNat h), .int (Int32.ofNat la), .int (Int32.ofNat tw)], []) M = some (some (.int (mxV (hbV (xHr g) N nx h la tw) 7)), M) := by
  have go : mEv none 40 (147, 0, lv_args 0 [.ref 49, .int (Int32.ofNat h), .int (Int32.ofNat la), .int (Int32.ofNat tw)], []) M (fun r M' => r = some (.int (mxV (hbV (xHr g) N nx h la tw) 7)) ∧ M' = M) := by
    refine e_then (e_st hT (y := 147) (pc := 0) (q := (yX7_bestFrom, cX7_bestFrom, 6, (some .int), 7)) rfl (show aTab 147 0 = some (.iconst 0, 1, 0, 0, 0, 0, 0, 0) from rfl) (fr' := (147, 1, (lv_args 0 [.ref 49, .int (Int32.ofNat h), .int (Int32.ofNat la), .int (Int32.ofNat tw)]), [.int 0])) (M' := M) rfl) ?_
    refine e_then (e_is2 hT (y := 147) (pc := 1) (q := (yX7_bestFrom, cX7_bestFrom, 6, (some .int), 7)) rfl (show aTab 147 1 = some (.istore 4, 2, 0, 0, 0, 0, 0, 0) from rfl) ⟨rfl, by decide⟩) ?_
    refine e_then (e_st hT (y := 147) (pc := 3) (q := (yX7_bestFrom, cX7_bestFrom, 6, (some .int), 7)) rfl (show aTab 147 3 = some (.iconst 0, 1, 0, 0, 0, 0, 0, 0) from rfl) (fr' := (147, 4, (mlp 4 (.int 0) (lv_args 0 [.ref 49, .int (Int32.ofNat h), .int (Int32.ofNat la), .int (Int32.ofNat tw)])), [.int 0])) (M' := M) rfl) ?_
    refine e_then (e_is2 hT (y := 147) (pc := 4) (q := (yX7_bestFrom, cX7_bestFrom, 6, (some .int), 7)) rfl (show aTab 147 4 = some (.istore 5, 2, 0, 0, 0, 0, 0, 0) from rfl) ⟨rfl, by decide⟩) ?_
    exact xbf_loop hT hM hg hN hN6 hn hh hl ht 7 0 _ (by omega) (mlg_r (mlg_r rfl (by decide)) (by decide)) (mlg_i (mlg_i rfl (by decide)) (by decide)) (mlg_i (mlg_i rfl (by decide)) (by decide)) (mlg_i (mlg_i rfl (by decide)) (by decide)) (mlg_i (mlg_eq 4 _ _) (by decide)) (mlg_eq 5 _ _)
  obtain ⟨K, r, M', q, rfl, rfl⟩ := go
  exact ⟨K, mRun_dm q hd⟩
