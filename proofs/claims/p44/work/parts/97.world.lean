/-! THE LAW'S START: what the tables and the Statement say of it, as a world of the small machine -/
theorem mjT_in {w : Cond} (h : w ∈ mjT) : w ∈ lw_tbl := (List.mem_filter.mp h).1
def tbOk : List Cond → List (Nat × Nat) → Bool
  | [], _ => true
  | w :: ws, p :: ps => (match mjTabs[p.1]? with
    | none => false
    | some l => decide (l[p.2]? = some w)) && tbOk ws ps
  | _ :: _, [] => false
theorem tbOk_in : ∀ (ws : List Cond) (ps : List (Nat × Nat)), tbOk ws ps = true → ∀ w ∈ ws, w ∈ lw_tbl := by
  intro ws
  induction ws with
  | nil => intro ps _ w hw; cases hw
  | cons v ws ih =>
    intro ps h w hw
    cases ps with
    | nil => cases h
    | cons p ps =>
      unfold tbOk at h
      rw [Bool.and_eq_true] at h
      rcases List.mem_cons.mp hw with rfl | hw
      · have h1 := h.1
        split at h1
        · cases h1
        · next l hl => exact mjTabs_in l (List.mem_of_getElem? hl) w (List.mem_of_getElem? (of_decide_eq_true h1))
      · exact ih ps h.2 w hw
def mjInst : List Cond := (List.range 13).map (fun c => Cond.instantiable (mjCl c).1 (mjCl c).2.2)
theorem mjInst_in : ∀ w ∈ mjInst, w ∈ lw_tbl := tbOk_in mjInst [(2, 137), (1, 29), (1, 35), (1, 226), (1, 74), (2, 99), (1, 123), (1, 206), (2, 84), (1, 143), (1, 178), (1, 21), (7, 44)] (by decide +kernel)
def mjNestW : List Cond := mjNest.map (fun w => Cond.methodLinkNest w.1 w.2.1 w.2.2.1 w.2.2.2)
theorem mjNest_in : ∀ w ∈ mjNestW, w ∈ lw_tbl := tbOk_in mjNestW mjNestP (by decide +kernel)
def mjStrW : List Cond := mjStr.map (fun w => Cond.stringRef w.1 w.2.1 w.2.2.1)
theorem mjStr_in : ∀ w ∈ mjStrW, w ∈ lw_tbl := tbOk_in mjStrW mjStrP (by decide +kernel)
theorem mjCmp_in : ∀ w ∈ [Cond.laysStatic "java/lang/String" "COMPACT_STRINGS" "Z", Cond.initialized "java/lang/String"], w ∈ lw_tbl := tbOk_in _ [(5, 25), (1, 16)] (by decide +kernel)
theorem mjFmt_in : ∀ w ∈ [Cond.laysStatic "jdk/internal/util/Preconditions" "SIOOBE_FORMATTER" "Ljava/util/function/BiFunction;", Cond.initialized "jdk/internal/util/Preconditions"], w ∈ lw_tbl := tbOk_in _ [(5, 41), (1, 18)] (by decide +kernel)
theorem isRef_ev {A : Array Value} {s : State} {t : Term} (h : (Cond.isRef t).before A s = true) : ∃ z : Value, (z = .null ∨ ∃ k : Nat, z = .ref k) ∧ t.eval A s none [] s = some z := by
  cases hv : t.eval A s none [] s with
  | none => simp [Cond.before, Cond.holds, Cond.value, hv] at h
  | some w => cases w <;> simp_all [Cond.before, Cond.holds, Cond.value]
theorem mX_cl {A : Array Value} {s : State} (hts : ∀ w ∈ lw_tbl, w.before A s = true) : ∃ D : va_G, ∀ (c : Nat) (q : vw_C), vwCl[c]? = some q → u_Kn s q.1 q.2.1 q.2.2 (D.1 c) (D.2 c) := by
  have h0 : ∀ c : Nat, ∃ p : ClassId × (Nat → Nat), ∀ q, vwCl[c]? = some q → u_Kn s q.1 q.2.1 q.2.2 p.1 p.2 := by
    intro c
    cases hc : vwCl[c]? with
    | none => exact ⟨(0, fun _ => 0), fun q z => by cases z⟩
    | some q =>
      have hlt : c < 13 := (List.getElem?_eq_some_iff.mp hc).1
      have hi : (Cond.instantiable q.1 q.2.2).before A s = true :=
        hts _ (mjInst_in _ (List.mem_map.mpr ⟨c, List.mem_range.mpr hlt, by unfold mjCl; rw [hc]; rfl⟩))
      obtain ⟨cC, iS, h⟩ := u_known (ws := lw_tbl) hts (fun w hw => mjT_in (mjCl_words hc w hw)) hi
      exact ⟨(cC, iS), fun q' e => by cases e; exact h⟩
  obtain ⟨f, hf⟩ := Classical.axiomOfChoice h0
  exact ⟨(fun c => (f c).1, fun c => (f c).2), hf⟩
def tmS (i : Nat) : Term := Term.string RX5 (([74, 80, 82, 84, 86, 88, 90, 92] : List Nat).getD i 0)
def gvL : List Cond := flatC (Jvm.Cond.and given_1 narrow_1)
theorem gv_ex : ∀ i : Nat, i < 8 → Cond.exactly (tmS i) "java/lang/String" ∈ gvL := by decide +kernel
theorem gv_co : ∀ i : Nat, i < 8 → Cond.eq (.field (tmS i) "java/lang/String" "coder" "B") (.int 0) ∈ gvL := by decide +kernel
theorem gv_ar : ∀ i : Nat, i < 8 → Cond.arrayOf (.field (tmS i) "java/lang/String" "value" "[B") .byte ∈ gvL := by decide +kernel
theorem gv_le : ∀ i : Nat, i < 8 → Cond.eq (.length (.field (tmS i) "java/lang/String" "value" "[B")) (.int (Int32.ofNat (mjLen.getD i 0))) ∈ gvL := by decide +kernel
theorem gv_el : ∀ i : Nat, i < 8 → ∀ j : Nat, j < mjLen.getD i 0 → Cond.eq (.elem (.field (tmS i) "java/lang/String" "value" "[B") (.int (Int32.ofNat j))) (.int ((mjByt.getD i []).getD j 0)) ∈ gvL := by decide +kernel
theorem gv_ne : ∀ i : Nat, i < 8 → ∀ j : Nat, j < 8 → i ≠ j → Cond.not (Cond.eq (tmS i) (tmS j)) ∈ gvL ∨ Cond.not (Cond.eq (tmS j) (tmS i)) ∈ gvL := by decide +kernel
theorem gv_cs : Cond.eq (Term.static "java/lang/String" "COMPACT_STRINGS" "Z") (.int 1) ∈ gvL := by decide +kernel
theorem gv_fm : Cond.isRef (Term.static "jdk/internal/util/Preconditions" "SIOOBE_FORMATTER" "Ljava/util/function/BiFunction;") ∈ gvL := by decide +kernel
theorem mX_at {A : Array Value} {s : State} (hts : ∀ w ∈ lw_tbl, w.before A s = true) (hgv : (Jvm.Cond.and given_1 narrow_1).before A s = true) (b : Nat) : ∃ g : mG, gb g = b ∧ g0 g = s.heap.size ∧ mX g s s.heap := by
  have hs : ∀ c ∈ gvL, c.before A s = true := flat_of_before _ hgv
  have hA : ∀ a : Nat, a < s.heap.size → ¬ s.heap.size ≤ a := fun a h => by omega
  obtain ⟨D, hD⟩ := mX_cl hts
  obtain ⟨cA, kA, comp, h1, h2, h3⟩ := Cond.arrayClass_spec (type := .int) (hts _ (mjT_in mjArr))
  obtain ⟨adK, adV, hS, hE⟩ := vk_Sof (N := 8) (tm := tmS) (len := mjLen) (byt := mjByt) (A := fun q => s.heap.size ≤ q) (by decide) (fun i hi => hs _ (gv_ex i hi)) (fun i hi => hs _ (gv_co i hi)) (fun i hi => hs _ (gv_ar i hi)) (fun i hi => hs _ (gv_le i hi)) (fun i hi j hj => hs _ (gv_el i hi j hj)) (fun i j hi hj hne => (gv_ne i hi j hj hne).imp (hs _) (hs _)) hA
  refine ⟨(D, cA, b, s.heap.size, adK, adV), rfl, rfl, ⟨hD, fun k q hk => ?_⟩, fun w hw => ?_, fun w hw => ?_, hS, ?_, ?_⟩
  · cases k with
    | zero =>
      simp only [List.getElem?_cons_zero, Option.some.injEq] at hk
      subst hk
      exact ⟨fun n z => ⟨fun k h => (by cases h), kA, h2, comp, h3⟩, h1⟩
    | succ k => simp at hk
  · exact va_Nw.of rfl (hts _ (mjNest_in _ (List.mem_map.mpr ⟨w, hw, rfl⟩)))
  · have h4 := hts _ (mjStr_in _ (List.mem_map.mpr ⟨w, hw, rfl⟩))
    refine vk_R.of h4 ?_
    simp only [mjStr, List.mem_cons, List.not_mem_nil, or_false] at hw
    rcases hw with rfl | rfl | rfl | rfl | rfl | rfl | rfl | rfl
    · exact hE 0 (by omega)
    · exact hE 1 (by omega)
    · exact hE 2 (by omega)
    · exact hE 3 (by omega)
    · exact hE 4 (by omega)
    · exact hE 5 (by omega)
    · exact hE 6 (by omega)
    · exact hE 7 (by omega)
  · exact va_Zof (hts _ (mjCmp_in _ List.mem_cons_self)) (hts _ (mjCmp_in _ (List.mem_cons_of_mem _ List.mem_cons_self))) (va_eqt (hs _ gv_cs)) hA
  · obtain ⟨z, hz0, hz⟩ := isRef_ev (hs _ gv_fm)
    exact ⟨z, hz0, va_Zof (hts _ (mjFmt_in _ List.mem_cons_self)) (hts _ (mjFmt_in _ (List.mem_cons_of_mem _ List.mem_cons_self))) hz hA⟩
