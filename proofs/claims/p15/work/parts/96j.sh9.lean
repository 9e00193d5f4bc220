/-! RUN THERE -/
theorem rsh_b {M : mHe} (hM : yTy M) {i : Nat} (hi : i < 30) : (0 ≤ (rdI M 120 (920 + 3 * i)).toInt ∧ (rdI M 120 (920 + 3 * i)).toInt ≤ 39) ∧ (0 ≤ (rdI M 120 (921 + 3 * i)).toInt ∧ (rdI M 120 (921 + 3 * i)).toInt ≤ 6) := by
  have h0 := rd_reg hM tTy_120 (k := 920 + 3 * i) (by omega) (r := (920, 1009, 3, [(0, 39), (0, 6)])) (by decide) (by show (920 : Int) ≤ _; omega) (by show _ ≤ (1009 : Int); omega)
  have h1 := rd_reg hM tTy_120 (k := 921 + 3 * i) (by omega) (r := (920, 1009, 3, [(0, 39), (0, 6)])) (by decide) (by show (920 : Int) ≤ _; omega) (by show _ ≤ (1009 : Int); omega)
  have e0 : tV1 [(0, 39), (0, 6)] 3 920 ((920 + 3 * i : Nat) : Int) = (0, 39) := by
    unfold tV1
    rw [show ((((920 + 3 * i : Nat) : Int) - 920) % Int.ofNat 3).toNat = 0 by show ((((920 + 3 * i : Nat) : Int) - 920) % 3).toNat = 0; omega]
    rfl
  have e1 : tV1 [(0, 39), (0, 6)] 3 920 ((921 + 3 * i : Nat) : Int) = (0, 6) := by
    unfold tV1
    rw [show ((((921 + 3 * i : Nat) : Int) - 920) % Int.ofNat 3).toNat = 1 by show ((((921 + 3 * i : Nat) : Int) - 920) % 3).toNat = 1; omega]
    rfl
  rw [e0] at h0
  rw [e1] at h1
  exact ⟨h0, h1⟩
theorem cmO_split {a d : shE → Bool} (h : ∀ e, a e = true → d e = true) (p : Nat) : ∀ l : List shE, cmO (l.filter a) p ||| cmO ((l.filter (fun e => !a e)).filter d) p = cmO (l.filter d) p := by
  intro l
  induction l with
  | nil => exact Int32.zero_or
  | cons e l ih =>
    cases ha : a e
    · have f1 : (e :: l).filter a = l.filter a := List.filter_cons_of_neg (by rw [ha]; decide)
      have f2 : (e :: l).filter (fun e => !a e) = e :: l.filter (fun e => !a e) := List.filter_cons_of_pos (by rw [ha]; rfl)
      rw [f1, f2]
      cases hd : d e
      · rw [List.filter_cons_of_neg (by rw [hd]; decide), List.filter_cons_of_neg (by rw [hd]; decide)]
        exact ih
      · rw [List.filter_cons_of_pos hd, List.filter_cons_of_pos hd]
        show _ ||| ((if e.1.toInt = (p : Int) then 1 <<< (e.2.1 &&& 31) else 0) ||| _) = (if e.1.toInt = (p : Int) then 1 <<< (e.2.1 &&& 31) else 0) ||| _
        rw [← Int32.or_assoc, Int32.or_comm (cmO (l.filter a) p), Int32.or_assoc, ih]
    · have f1 : (e :: l).filter a = e :: l.filter a := List.filter_cons_of_pos ha
      have f2 : (e :: l).filter (fun e => !a e) = l.filter (fun e => !a e) := List.filter_cons_of_neg (by rw [ha]; decide)
      rw [f1, f2, List.filter_cons_of_pos (h e ha)]
      show ((if e.1.toInt = (p : Int) then 1 <<< (e.2.1 &&& 31) else 0) ||| _) ||| _ = (if e.1.toInt = (p : Int) then 1 <<< (e.2.1 &&& 31) else 0) ||| _
      rw [Int32.or_assoc, ih]
/-- who is left after j minutes, and who has come -/
def fQ (m : Int) (j : Nat) (e : shE) : Bool := Nat.beq j 0 || shQ (m + (j : Int)) e
def fD (m : Int) (j : Nat) (e : shE) : Bool := !fQ m j e
theorem fQ_s (m : Int) (j : Nat) : fQ m (j + 1) = shQ (m + ((j + 1 : Nat) : Int)) := rfl
theorem shDQ (m : Int) (e : shE) : shD m e = !shQ m e := by
  unfold shD shQ
  by_cases h : e.2.2.toInt ≤ m
  · rw [decide_eq_true h, decide_eq_false (by omega)]; rfl
  · rw [decide_eq_false h, decide_eq_true (by omega)]; rfl
theorem fD_s (m : Int) (j : Nat) : fD m (j + 1) = shD (m + ((j + 1 : Nat) : Int)) := by
  funext e
  rw [shDQ]
  rfl
theorem fQ_w {m : Int} {j : Nat} {e : shE} (h : fQ m (j + 1) e = true) : fQ m j e = true := by
  cases j with
  | zero => rfl
  | succ j =>
    rw [fQ_s] at h ⊢
    unfold shQ at h ⊢
    have h := of_decide_eq_true h
    exact decide_eq_true (by omega)
theorem fQ_f (m : Int) (j : Nat) (l : List shE) : (l.filter (fQ m j)).filter (shQ (m + ((j + 1 : Nat) : Int))) = l.filter (fQ m (j + 1)) := by
  rw [List.filter_filter, ← fQ_s]
  refine List.filter_congr (fun e _ => ?_)
  cases h : fQ m (j + 1) e
  · rfl
  · rw [fQ_w h]; rfl
theorem fD_c (m : Int) (j : Nat) (l : List shE) (p : Nat) : cmO (l.filter (fD m j)) p ||| cmO ((l.filter (fQ m j)).filter (shD (m + ((j + 1 : Nat) : Int)))) p = cmO (l.filter (fD m (j + 1))) p := by
  have h1 := cmO_split (a := fD m j) (d := fD m (j + 1)) (fun e he => by
    unfold fD at he ⊢
    cases h : fQ m (j + 1) e
    · rfl
    · rw [fQ_w h] at he
      cases he) p l
  have e1 : (fun e => !fD m j e) = fQ m j := by
    funext e
    unfold fD
    cases fQ m j e <;> rfl
  rw [e1] at h1
  rw [← fD_s]
  exact h1
theorem shL_of {a b c : Nat → Int32} : ∀ l : List shE, (∀ (i : Nat) (e : shE), l[i]? = some e → a i = e.1 ∧ b i = e.2.1 ∧ c i = e.2.2) → shL a b c l.length = l := by
  intro l h
  refine List.ext_getElem? (fun i => ?_)
  by_cases hi : i < l.length
  · rw [shL_at hi]
    have h1 : l[i]? = some l[i] := List.getElem?_eq_getElem hi
    obtain ⟨h2, h3, h4⟩ := h i _ h1
    rw [h1, h2, h3, h4]
  · rw [List.getElem?_eq_none (by simp [shL]; omega), List.getElem?_eq_none (by omega)]
/-- after j minutes -/
def rrnI (g : Nat → Nat → Int32) (N Z j : Nat) (g1 : Nat → Nat → Int32) : Prop := (∀ c k, c ≠ 120 → g1 c k = g c k) ∧ (∀ k, 1 < k → k ≠ 7 → (∀ p, p < 40 → k ≠ 166 + 10 * p) → (k < 920 ∨ 1009 < k) → ¬ (20 ≤ k ∧ k < 20 + 5 * N ∧ k % 5 = 3) → g1 120 k = g 120 k) ∧ g1 120 0 = g 120 0 + Int32.ofNat j ∧ g1 120 1 = (if (g 120 2).toInt = 1 then g 120 1 else g 120 1 + Int32.ofNat j) ∧ g1 120 7 = Int32.ofNat ((shL (rfP g 920) (rfP g 921) (rfP g 922) Z).filter (fQ (g 120 0).toInt j)).length ∧ (∀ (i : Nat) (e : shE), ((shL (rfP g 920) (rfP g 921) (rfP g 922) Z).filter (fQ (g 120 0).toInt j))[i]? = some e → g1 120 (920 + 3 * i) = e.1 ∧ g1 120 (921 + 3 * i) = e.2.1 ∧ g1 120 (922 + 3 * i) = e.2.2) ∧ (∀ p, p < 40 → g1 120 (166 + 10 * p) = g 120 (166 + 10 * p) ||| cmO ((shL (rfP g 920) (rfP g 921) (rfP g 922) Z).filter (fD (g 120 0).toInt j)) p) ∧ ∀ i, i < N → g1 120 (23 + 5 * i) = if (g 120 0).toInt < (g 120 (22 + 5 * i)).toInt ∧ (g 120 (22 + 5 * i)).toInt ≤ (g 120 0).toInt + (j : Int) then 0 else g 120 (23 + 5 * i)
theorem rrn_0 {g : Nat → Nat → Int32} {N Z : Nat} (hZ : g 120 7 = Int32.ofNat Z) : rrnI g N Z 0 g := by
  have e1 : (shL (rfP g 920) (rfP g 921) (rfP g 922) Z).filter (fQ (g 120 0).toInt 0) = shL (rfP g 920) (rfP g 921) (rfP g 922) Z := List.filter_eq_self.mpr (fun _ _ => rfl)
  have e2 : (shL (rfP g 920) (rfP g 921) (rfP g 922) Z).filter (fD (g 120 0).toInt 0) = [] := List.filter_eq_nil_iff.mpr (fun e _ => by show ¬ (!(true || _)) = true; rw [Bool.true_or]; decide)
  refine ⟨fun _ _ _ => rfl, fun _ _ _ _ _ _ => rfl, ?_, ?_, ?_, fun i e he => ?_, fun p _ => ?_, fun i _ => ?_⟩
  · exact (Int32.add_zero _).symm
  · split
    · rfl
    · exact (Int32.add_zero _).symm
  · rw [e1, hZ]
    unfold shL
    rw [List.length_map, List.length_range]
  · rw [e1] at he
    have hi : i < Z := by
      have h := (List.getElem?_eq_some_iff.mp he).1
      unfold shL at h
      rw [List.length_map, List.length_range] at h
      exact h
    rw [shL_at hi] at he
    cases he
    exact ⟨rfl, rfl, rfl⟩
  · rw [e2]
    exact (Int32.or_zero).symm
  · rw [if_neg (by omega)]
theorem rrn_s {g g1 g2 : Nat → Nat → Int32} {N Z j : Nat} (hN2 : N ≤ 20) (hZ2 : Z ≤ 30) (hm : 0 ≤ (g 120 0).toInt ∧ (g 120 0).toInt + (j : Int) + 1 ≤ 9999) (h : rrnI g N Z j g1) (h2 : rmnP g1 N ((shL (rfP g 920) (rfP g 921) (rfP g 922) Z).filter (fQ (g 120 0).toInt j)).length g2) : rrnI g N Z (j + 1) g2 := by
  obtain ⟨i0, i1, i2, i3, i4, i5, i6, i7⟩ := h
  obtain ⟨ga, g5, ca, a0, a1, k5, e2⟩ := h2
  obtain ⟨L, hL⟩ : ∃ L, L = shL (rfP g 920) (rfP g 921) (rfP g 922) Z := ⟨_, rfl⟩
  obtain ⟨m, hm0⟩ : ∃ m, m = (g 120 0).toInt := ⟨_, rfl⟩
  rw [← hL, ← hm0] at i4 i5 i6 k5 e2
  rw [← hm0] at i7 hm
  unfold rrnI
  rw [← hL, ← hm0]
  have ej := i32n (k := j) (by omega)
  have e1 : (1 : Int32).toInt = 1 := rfl
  have hv : g1 120 0 + 1 = g 120 0 + Int32.ofNat (j + 1) := by rw [i2, Int32.add_assoc, oa1 (by omega)]
  have hmt : (g1 120 0 + 1).toInt = m + ((j + 1 : Nat) : Int) := by
    have ej1 := i32n (k := j + 1) (by omega)
    rw [hv, i32_add (by omega) (by omega), ej1, hm0]
  have hlen : (L.filter (fQ m j)).length = (L.filter (fQ m j)).length := rfl
  have hsh : shL (rfP ga 920) (rfP ga 921) (rfP ga 922) (L.filter (fQ m j)).length = L.filter (fQ m j) := shL_of _ (fun i e he => by
    obtain ⟨b1, b2, b3⟩ := i5 i e he
    exact ⟨(ca 120 (920 + 3 * i) (Or.inr ⟨by omega, by omega⟩)).trans b1, (ca 120 (921 + 3 * i) (Or.inr ⟨by omega, by omega⟩)).trans b2, (ca 120 (922 + 3 * i) (Or.inr ⟨by omega, by omega⟩)).trans b3⟩)
  unfold rcmI at k5
  rw [shL_all, hsh, hmt, fQ_f] at k5
  rw [hsh, hmt, fQ_f] at e2
  obtain ⟨k0, k1, k2, k3, k4⟩ := k5
  have hC : ∀ c k, c ≠ 120 → g2 c k = g c k := fun c k hc => by rw [e2, rvG_c hc, up2_c _ _ hc, k0 c k hc, ca c k (Or.inl hc), i0 c k hc]
  have hK : ∀ k, k ≠ 7 → (∀ p, p < 40 → k ≠ 166 + 10 * p) → (k < 920 ∨ 1009 < k) → ¬ (20 ≤ k ∧ k < 20 + 5 * N ∧ k % 5 = 3) → g2 120 k = ga 120 k := fun k h7 hp hz hn => by rw [e2, rvG_k (by omega), up2_k _ _ h7, k1 k hp hz]
  refine ⟨hC, fun k h1 h7 hp hz hn => ?_, ?_, ?_, ?_, fun i e he => ?_, fun p hp => ?_, fun i hi => ?_⟩
  · rw [hK k h7 hp hz hn, ca 120 k (Or.inr ⟨by omega, by omega⟩), i1 k h1 h7 hp hz hn]
  · rw [hK 0 (by decide) (fun p hp => by omega) (by omega) (by omega), a0, hv]
  · rw [hK 1 (by decide) (fun p hp => by omega) (by omega) (by omega), a1, i1 2 (by decide) (by decide) (fun p hp => by omega) (by omega) (by omega), i3]
    by_cases c : (g 120 2).toInt = 1
    · rw [if_pos c, if_pos c, if_pos c, Int32.add_zero]
    · rw [if_neg c, if_neg c, if_neg c, Int32.add_assoc, oa1 (by omega)]
  · rw [e2, rvG_k (by omega), up2_eq]
  · obtain ⟨b1, b2, b3⟩ := k2 i e he
    have hi : i < 30 := by
      have l1 := (List.getElem?_eq_some_iff.mp he).1
      have l2 := List.length_filter_le (fQ m (j + 1)) L
      have l3 : L.length = Z := by rw [hL]; unfold shL; rw [List.length_map, List.length_range]
      omega
    rw [e2, rvG_k (by omega), up2_k _ _ (by omega), rvG_k (by omega), up2_k _ _ (by omega), rvG_k (by omega), up2_k _ _ (by omega)]
    exact ⟨b1, b2, b3⟩
  · rw [e2, rvG_k (by omega), up2_k _ _ (by omega), k4 p hp, ca 120 (166 + 10 * p) (Or.inr ⟨by omega, by omega⟩), i6 p hp, Int32.or_assoc, fD_c]
  · have h22 : (up2 g5 120 7 (Int32.ofNat (L.filter (fQ m (j + 1))).length)) 120 (22 + 5 * i) = g 120 (22 + 5 * i) := by rw [up2_k _ _ (by omega), k1 _ (fun p hp => by omega) (by omega), ca 120 _ (Or.inr ⟨by omega, by omega⟩), i1 _ (by omega) (by omega) (fun p hp => by omega) (by omega) (by omega)]
    have h23 : (up2 g5 120 7 (Int32.ofNat (L.filter (fQ m (j + 1))).length)) 120 (23 + 5 * i) = g1 120 (23 + 5 * i) := by rw [up2_k _ _ (by omega), k1 _ (fun p hp => by omega) (by omega), ca 120 _ (Or.inr ⟨by omega, by omega⟩)]
    have hs := rvG_s (up2 g5 120 7 (Int32.ofNat (L.filter (fQ m (j + 1))).length)) i (g1 120 0 + 1) _ rfl
    have hv2 : g2 120 (23 + 5 * i) = if g 120 (22 + 5 * i) = g1 120 0 + 1 then 0 else g1 120 (23 + 5 * i) := by
      rw [e2]
      unfold rvG
      by_cases c : g 120 (22 + 5 * i) = g1 120 0 + 1
      · rw [if_pos c, if_pos ⟨rfl, by omega, by omega, by omega, by rw [show 23 + 5 * i - 1 = 22 + 5 * i by omega, h22]; exact c⟩]
      · rw [if_neg c, if_neg (fun z => c (by have z2 := z.2.2.2.2; rw [show 23 + 5 * i - 1 = 22 + 5 * i by omega, h22] at z2; exact z2)), h23]
    rw [hv2, i7 i hi]
    have hq : g 120 (22 + 5 * i) = g1 120 0 + 1 ↔ (g 120 (22 + 5 * i)).toInt = m + ((j + 1 : Nat) : Int) := ⟨fun z => by rw [z, hmt], fun z => i32eq (by rw [z, hmt])⟩
    by_cases c : g 120 (22 + 5 * i) = g1 120 0 + 1
    · have c2 := hq.mp c
      rw [if_pos c, if_pos (by omega)]
    · have c2 : ¬ (g 120 (22 + 5 * i)).toInt = m + ((j + 1 : Nat) : Int) := fun z => c (hq.mpr z)
      rw [if_neg c]
      by_cases c3 : m < (g 120 (22 + 5 * i)).toInt ∧ (g 120 (22 + 5 * i)).toInt ≤ m + (j : Int)
      · rw [if_pos c3, if_pos (by omega)]
      · rw [if_neg c3, if_neg (by omega)]
theorem rrn_loop (hT : aTabOk) {g : Nat → Nat → Int32} {N Z : Nat} (hN : g 120 3 = Int32.ofNat N) (hN2 : N ≤ 20) (hZ2 : Z ≤ 30) {n : Nat} (hn : n ≤ 240) (hm : 0 ≤ (g 120 0).toInt ∧ (g 120 0).toInt + (n : Int) ≤ 9999) : ∀ (d j : Nat) (lv : List (Nat × Value)) (M1 : mHe), j + d = n → yTy M1 → rrnI g N Z j (rdI M1) → mlg 0 lv = some (.ref 128) → mlg 1 lv = some (.int (Int32.ofNat n)) → mlg 2 lv = some (.int (Int32.ofNat j)) → mEv none 40 (268, 34, lv, []) M1 (fun r M' => r = some (.int (g 120 0 + Int32.ofNat n)) ∧ yTy M' ∧ rrnI g N Z n (rdI M')) := by
  have en := i32n (k := n) (by omega)
  intro d
  induction d with
  | zero =>
    intro j lv M1 hd hM hI h0 h1 h2
    have hd : j = n := by omega
    subst hd
    obtain ⟨g1, hg⟩ : ∃ x, x = rdI M1 := ⟨_, rfl⟩
    rw [← hg] at hI
    have hg := hg.symm
    have hm1 : g1 120 0 = g 120 0 + Int32.ofNat j := hI.2.2.1
    refine e_then (e_il1 hT (y := 268) (pc := 34) (q := (yX12_run, cX12_run, 3, (some .int), 12)) rfl (show aTab 268 34 = some (.iload_n 2, 1, 0, 0, 0, 0, 0, 0) from rfl) rfl h2) ?_
    refine e_then (e_il1 hT (y := 268) (pc := 35) (q := (yX12_run, cX12_run, 3, (some .int), 12)) rfl (show aTab 268 35 = some (.iload_n 1, 1, 0, 0, 0, 0, 0, 0) from rfl) rfl h1) ?_
    refine e_then (e_icT hT (y := 268) (pc := 36) (q := (yX12_run, cX12_run, 3, (some .int), 12)) rfl (show aTab 268 36 = some (.if_icmp .ge 13, 3, 0, 0, 0, 0, 0, 0) from rfl) rfl (t := 49) rfl (cdT (Int.le_refl _))) ?_
    refine e_then (e_al1 hT (y := 268) (pc := 49) (q := (yX12_run, cX12_run, 3, (some .int), 12)) rfl (show aTab 268 49 = some (.aload_n 0, 1, 0, 0, 0, 0, 0, 0) from rfl) rfl h0) ?_
    refine e_then (e_getR hT (y := 268) (pc := 50) (q := (yX12_run, cX12_run, 3, (some .int), 12)) rfl (show aTab 268 50 = some (.getfield 7, 3, 0, 12, 0, 0, 0, 0) from rfl) rfl (by decide) (by decide) hM rfl rfl) ?_
    refine e_then (e_st hT (y := 268) (pc := 53) (q := (yX12_run, cX12_run, 3, (some .int), 12)) rfl (show aTab 268 53 = some (.iconst 0, 1, 0, 0, 0, 0, 0, 0) from rfl) (fr' := (268, 54, lv, [.int 0, .ref 129])) (M' := M1) rfl) ?_
    refine e_then (s_aldV hT (y := 268) (pc := 54) (q := (yX12_run, cX12_run, 3, (some .int), 12)) rfl (show aTab 268 54 = some (.iaload, 1, 0, 0, 0, 0, 0, 0) from rfl) rfl hM hg 120 0 rfl rfl (by decide) (v := (g 120 0 + Int32.ofNat j)) (show (g1 120 0) = (g 120 0 + Int32.ofNat j) from hm1)) ?_
    exact e_fin (e_iret hT (y := 268) (pc := 55) (q := (yX12_run, cX12_run, 3, (some .int), 12)) rfl (show aTab 268 55 = some (.ireturn, 1, 0, 0, 0, 0, 0, 0) from rfl) ⟨rfl, rfl⟩) ⟨rfl, hM, by rw [hg]; exact hI⟩
  | succ d ih =>
    intro j lv M1 hd hM hI h0 h1 h2
    have ej := i32n (k := j) (by omega)
    obtain ⟨g1, hg⟩ : ∃ x, x = rdI M1 := ⟨_, rfl⟩
    have hs1 : ∀ i, i < 30 → (0 ≤ (g1 120 (920 + 3 * i)).toInt ∧ (g1 120 (920 + 3 * i)).toInt ≤ 39) ∧ (0 ≤ (g1 120 (921 + 3 * i)).toInt ∧ (g1 120 (921 + 3 * i)).toInt ≤ 6) := fun i hi => by rw [hg]; exact rsh_b hM hi
    rw [← hg] at hI
    have hg := hg.symm
    have hN1 : g1 120 3 = Int32.ofNat N := by rw [hI.2.1 3 (by decide) (by decide) (fun p hp => by omega) (by omega) (by omega)]; exact hN
    have hl : ((shL (rfP g 920) (rfP g 921) (rfP g 922) Z).filter (fQ (g 120 0).toInt j)).length ≤ 30 := by
      have l2 := List.length_filter_le (fQ (g 120 0).toInt j) (shL (rfP g 920) (rfP g 921) (rfP g 922) Z)
      have l3 : (shL (rfP g 920) (rfP g 921) (rfP g 922) Z).length = Z := by unfold shL; rw [List.length_map, List.length_range]
      omega
    obtain ⟨K1, M2, q1, t1, f1⟩ := rmn_run hT hM hg hN1 hN2 hI.2.2.2.2.1 hl (fun i hi => hs1 i (by omega)) (d := 39) (by decide)
    have f2 := rrn_s hN2 hZ2 (by omega) hI f1
    refine e_then (e_il1 hT (y := 268) (pc := 34) (q := (yX12_run, cX12_run, 3, (some .int), 12)) rfl (show aTab 268 34 = some (.iload_n 2, 1, 0, 0, 0, 0, 0, 0) from rfl) rfl h2) ?_
    refine e_then (e_il1 hT (y := 268) (pc := 35) (q := (yX12_run, cX12_run, 3, (some .int), 12)) rfl (show aTab 268 35 = some (.iload_n 1, 1, 0, 0, 0, 0, 0, 0) from rfl) rfl h1) ?_
    refine e_then (e_icF hT (y := 268) (pc := 36) (q := (yX12_run, cX12_run, 3, (some .int), 12)) rfl (show aTab 268 36 = some (.if_icmp .ge 13, 3, 0, 0, 0, 0, 0, 0) from rfl) rfl (t := 49) rfl (cdF (by show ¬ _ ≤ _; omega))) ?_
    refine e_then (e_al1 hT (y := 268) (pc := 39) (q := (yX12_run, cX12_run, 3, (some .int), 12)) rfl (show aTab 268 39 = some (.aload_n 0, 1, 0, 0, 0, 0, 0, 0) from rfl) rfl h0) ?_
    refine e_then (e_call hT (y := 268) (pc := 40) (q := (yX12_run, cX12_run, 3, (some .int), 12)) rfl (show aTab 268 40 = some (.invokevirtual 123, 3, 1, 267, 0, 0, 3, 12) from rfl) rfl ⟨by decide, Nat.le_of_ble_eq_true rfl⟩ (ob_at hM (rfl : tTy 119 = some (.inr (12, _)))).choose_spec (Nat.le_of_ble_eq_true rfl) (Nat.le_of_ble_eq_true rfl) ⟨by decide, by decide⟩ q1) ?_
    refine e_then (e_ii hT (y := 268) (pc := 43) (q := (yX12_run, cX12_run, 3, (some .int), 12)) rfl (show aTab 268 43 = some (.iinc 2 1, 3, 0, 0, 0, 0, 0, 0) from rfl) ⟨rfl, by decide⟩ h2) ?_
    refine e_then (e_st hT (y := 268) (pc := 46) (q := (yX12_run, cX12_run, 3, (some .int), 12)) rfl (show aTab 268 46 = some (.goto (-12), 3, 0, 0, 0, 0, 0, 0) from rfl) (fr' := (268, 34, (mlp 2 (.int ((Int32.ofNat j) + Int32.ofInt 1)) lv), [])) (M' := M2) rfl) ?_
    rw [os1 (by omega)]
    exact ih _ _ M2 (by omega) t1 f2 (mlg_r h0 (by decide)) (mlg_i h1 (by decide)) (mlg_eq 2 _ _)
def rrnQ (g : Nat → Nat → Int32) (N Z : Nat) (n x : Int32) (g' : Nat → Nat → Int32) : Prop := (¬ rnOk n ∧ x = -1000000001 ∧ g' = g) ∨ (rnOk n ∧ 9999 < (g 120 0 + n).toInt ∧ x = -1000000003 ∧ g' = g) ∨ (rnOk n ∧ (g 120 0 + n).toInt ≤ 9999 ∧ x = g 120 0 + n ∧ rrnI g N Z n.toInt.toNat g')
theorem rrn_run (hT : aTabOk) {M : mHe} (hM : yTy M) {g : Nat → Nat → Int32} (hg : rdI M = g) {N Z : Nat} (hN : g 120 3 = Int32.ofNat N) (hN2 : N ≤ 20) (hZ : g 120 7 = Int32.ofNat Z) (hZ2 : Z ≤ 30) (hm : 0 ≤ (g 120 0).toInt ∧ (g 120 0).toInt ≤ 9999) {n : Int32} : mEv none 40 (268, 0, lv_args 0 [.ref 128, .int n], []) M (fun r M' => ∃ x, r = some (.int x) ∧ yTy M' ∧ rrnQ g N Z n x (rdI M')) := by
  have e9 : (9999 : Int32).toInt = 9999 := rfl
  obtain ⟨K1, q1⟩ := isIn_i hT (M := M) (v := n) (l := Int64.ofNat 1) (h := Int64.ofInt 240) (d := 39) (by decide)
  rw [show (Int64.ofNat 1).toInt = 1 from rfl, show (Int64.ofInt 240).toInt = 240 from rfl] at q1
  refine e_then (e_il1 hT (y := 268) (pc := 0) (q := (yX12_run, cX12_run, 3, (some .int), 12)) rfl (show aTab 268 0 = some (.iload_n 1, 1, 0, 0, 0, 0, 0, 0) from rfl) rfl rfl) ?_
  refine e_then (e_st hT (y := 268) (pc := 1) (q := (yX12_run, cX12_run, 3, (some .int), 12)) rfl (show aTab 268 1 = some (.i2l, 1, 0, 0, 0, 0, 0, 0) from rfl) (fr' := (268, 2, (lv_args 0 [.ref 128, .int n]), [.long (n).toInt64])) (M' := M) rfl) ?_
  refine e_then (e_st hT (y := 268) (pc := 2) (q := (yX12_run, cX12_run, 3, (some .int), 12)) rfl (show aTab 268 2 = some (.lconst 1, 1, 0, 0, 0, 0, 0, 0) from rfl) (fr' := (268, 3, (lv_args 0 [.ref 128, .int n]), [.long (Int64.ofNat 1), .long (n).toInt64])) (M' := M) rfl) ?_
  refine e_then (e_st hT (y := 268) (pc := 3) (q := (yX12_run, cX12_run, 3, (some .int), 12)) rfl (show aTab 268 3 = some (.ldc2_w 121, 3, 8, 0, 240, 0, 0, 0) from rfl) (fr' := (268, 6, (lv_args 0 [.ref 128, .int n]), [.long (Int64.ofInt 240), .long (Int64.ofNat 1), .long (n).toInt64])) (M' := M) rfl) ?_
  by_cases c1 : 1 ≤ n.toInt ∧ n.toInt ≤ 240
  · rw [gB_t c1] at q1
    refine e_then (e_calls hT (y := 268) (pc := 6) (q := (yX12_run, cX12_run, 3, (some .int), 12)) rfl (show aTab 268 6 = some (.invokestatic 65, 3, 2, 239, 0, 3, 6, 12) from rfl) (Nat.le_of_ble_eq_true rfl) (Nat.le_of_ble_eq_true rfl) (Nat.le_of_ble_eq_true rfl) ⟨by decide, by decide⟩ q1) ?_
    refine e_then (e_ifT hT (y := 268) (pc := 9) (q := (yX12_run, cX12_run, 3, (some .int), 12)) rfl (show aTab 268 9 = some (.ifCond .ne 6, 3, 0, 0, 0, 0, 0, 0) from rfl) rfl (t := 15) rfl (cdT (by show ¬ _ = _; decide))) ?_
    refine e_then (e_al1 hT (y := 268) (pc := 15) (q := (yX12_run, cX12_run, 3, (some .int), 12)) rfl (show aTab 268 15 = some (.aload_n 0, 1, 0, 0, 0, 0, 0, 0) from rfl) rfl rfl) ?_
    refine e_then (e_getR hT (y := 268) (pc := 16) (q := (yX12_run, cX12_run, 3, (some .int), 12)) rfl (show aTab 268 16 = some (.getfield 7, 3, 0, 12, 0, 0, 0, 0) from rfl) rfl (by decide) (by decide) hM rfl rfl) ?_
    refine e_then (e_st hT (y := 268) (pc := 19) (q := (yX12_run, cX12_run, 3, (some .int), 12)) rfl (show aTab 268 19 = some (.iconst 0, 1, 0, 0, 0, 0, 0, 0) from rfl) (fr' := (268, 20, (lv_args 0 [.ref 128, .int n]), [.int 0, .ref 129])) (M' := M) rfl) ?_
    refine e_then (s_ald hT (y := 268) (pc := 20) (q := (yX12_run, cX12_run, 3, (some .int), 12)) rfl (show aTab 268 20 = some (.iaload, 1, 0, 0, 0, 0, 0, 0) from rfl) rfl hM hg 120 0 rfl rfl (by decide)) ?_
    refine e_then (e_il1 hT (y := 268) (pc := 21) (q := (yX12_run, cX12_run, 3, (some .int), 12)) rfl (show aTab 268 21 = some (.iload_n 1, 1, 0, 0, 0, 0, 0, 0) from rfl) rfl rfl) ?_
    refine e_then (e_st hT (y := 268) (pc := 22) (q := (yX12_run, cX12_run, 3, (some .int), 12)) rfl (show aTab 268 22 = some (.iadd, 1, 0, 0, 0, 0, 0, 0) from rfl) (fr' := (268, 23, (lv_args 0 [.ref 128, .int n]), [.int ((g 120 0) + n)])) (M' := M) rfl) ?_
    refine e_then (e_st hT (y := 268) (pc := 23) (q := (yX12_run, cX12_run, 3, (some .int), 12)) rfl (show aTab 268 23 = some (.sipush 9999, 3, 0, 0, 0, 0, 0, 0) from rfl) (fr' := (268, 26, (lv_args 0 [.ref 128, .int n]), [.int 9999, .int ((g 120 0) + n)])) (M' := M) rfl) ?_
    by_cases c2 : (g 120 0 + n).toInt ≤ 9999
    · refine e_then (e_icT hT (y := 268) (pc := 26) (q := (yX12_run, cX12_run, 3, (some .int), 12)) rfl (show aTab 268 26 = some (.if_icmp .le 6, 3, 0, 0, 0, 0, 0, 0) from rfl) rfl (t := 32) rfl (cdT (by show _ ≤ _; omega))) ?_
      refine e_then (e_st hT (y := 268) (pc := 32) (q := (yX12_run, cX12_run, 3, (some .int), 12)) rfl (show aTab 268 32 = some (.iconst 0, 1, 0, 0, 0, 0, 0, 0) from rfl) (fr' := (268, 33, (lv_args 0 [.ref 128, .int n]), [.int 0])) (M' := M) rfl) ?_
      refine e_then (e_is1 hT (y := 268) (pc := 33) (q := (yX12_run, cX12_run, 3, (some .int), 12)) rfl (show aTab 268 33 = some (.istore_n 2, 1, 0, 0, 0, 0, 0, 0) from rfl) ⟨rfl, by decide⟩) ?_
      obtain ⟨nn, hnn⟩ : ∃ k : Nat, (k : Int) = n.toInt := ⟨n.toInt.toNat, by omega⟩
      have enn : n.toInt.toNat = nn := by omega
      have hn2 : n = Int32.ofNat nn := i32eq (by rw [i32n (by omega)]; omega)
      have hs2 : (g 120 0 + n).toInt = (g 120 0).toInt + n.toInt := i32_add (by omega) (by omega)
      obtain ⟨K7, r7, M7, q7, rfl, t7, f7⟩ := rrn_loop hT hN hN2 hZ2 (n := nn) (by omega) (by omega) nn 0 (mlp 2 (.int 0) (lv_args 0 [.ref 128, .int n])) M (by omega) hM (by rw [hg]; exact rrn_0 hZ) (mlg_r rfl (by decide)) (hn2 ▸ (mlg_i rfl (by decide))) (mlg_eq 2 _ _)
      rw [← hn2] at q7
      exact ⟨K7, _, M7, q7, _, rfl, t7, Or.inr (Or.inr ⟨c1, c2, rfl, by rw [enn]; exact f7⟩)⟩
    · refine e_then (e_icF hT (y := 268) (pc := 26) (q := (yX12_run, cX12_run, 3, (some .int), 12)) rfl (show aTab 268 26 = some (.if_icmp .le 6, 3, 0, 0, 0, 0, 0, 0) from rfl) rfl (t := 32) rfl (cdF (by show ¬ _ ≤ _; omega))) ?_
      refine e_then (e_st hT (y := 268) (pc := 29) (q := (yX12_run, cX12_run, 3, (some .int), 12)) rfl (show aTab 268 29 = some (.ldc 90, 2, 7, 0, (-1000000003), 0, 0, 0) from rfl) (fr' := (268, 31, (lv_args 0 [.ref 128, .int n]), [.int (-1000000003)])) (M' := M) rfl) ?_
      exact e_fin (e_iret hT (y := 268) (pc := 31) (q := (yX12_run, cX12_run, 3, (some .int), 12)) rfl (show aTab 268 31 = some (.ireturn, 1, 0, 0, 0, 0, 0, 0) from rfl) ⟨rfl, rfl⟩) ⟨_, rfl, hM, Or.inr (Or.inl ⟨c1, by omega, rfl, hg⟩)⟩
  · rw [gB_f c1] at q1
    refine e_then (e_calls hT (y := 268) (pc := 6) (q := (yX12_run, cX12_run, 3, (some .int), 12)) rfl (show aTab 268 6 = some (.invokestatic 65, 3, 2, 239, 0, 3, 6, 12) from rfl) (Nat.le_of_ble_eq_true rfl) (Nat.le_of_ble_eq_true rfl) (Nat.le_of_ble_eq_true rfl) ⟨by decide, by decide⟩ q1) ?_
    refine e_then (e_ifF hT (y := 268) (pc := 9) (q := (yX12_run, cX12_run, 3, (some .int), 12)) rfl (show aTab 268 9 = some (.ifCond .ne 6, 3, 0, 0, 0, 0, 0, 0) from rfl) rfl (t := 15) rfl (cdF (by show ¬ (¬ _ = _); decide))) ?_
    refine e_then (e_st hT (y := 268) (pc := 12) (q := (yX12_run, cX12_run, 3, (some .int), 12)) rfl (show aTab 268 12 = some (.ldc 89, 2, 7, 0, (-1000000001), 0, 0, 0) from rfl) (fr' := (268, 14, (lv_args 0 [.ref 128, .int n]), [.int (-1000000001)])) (M' := M) rfl) ?_
    exact e_fin (e_iret hT (y := 268) (pc := 14) (q := (yX12_run, cX12_run, 3, (some .int), 12)) rfl (show aTab 268 14 = some (.ireturn, 1, 0, 0, 0, 0, 0, 0) from rfl) ⟨rfl, rfl⟩) ⟨_, rfl, hM, Or.inl ⟨c1, rfl, hg⟩⟩
