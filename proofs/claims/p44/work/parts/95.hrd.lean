/-! READING FUNCTIONS: all numbers of a memory as one function of cell and place -/
def rdI (M : mHe) (c k : Nat) : Int32 := match yRd (0, fun _ => 0) M c k with
  | some (.int x) => x
  | _ => 0
/-- one place written anew -/
def up2 (g : Nat → Nat → Int32) (c k : Nat) (x : Int32) : Nat → Nat → Int32 := fun c' k' => if c' = c ∧ k' = k then x else g c' k'
theorem up2_eq (g : Nat → Nat → Int32) (c k : Nat) (x : Int32) : up2 g c k x c k = x := if_pos ⟨rfl, rfl⟩
theorem up2_c (g : Nat → Nat → Int32) {c k : Nat} (x : Int32) {c' k' : Nat} (h : c' ≠ c) : up2 g c k x c' k' = g c' k' := if_neg (fun z => h z.1)
theorem up2_k (g : Nat → Nat → Int32) {c k : Nat} (x : Int32) {c' k' : Nat} (h : k' ≠ k) : up2 g c k x c' k' = g c' k' := if_neg (fun z => h z.2)
theorem rdI_of {M : mHe} {c k : Nat} {x : Int32} (h : ∀ xs : tXs, yRd xs M c k = some (.int x)) : rdI M c k = x := by
  unfold rdI
  rw [h]
theorem rdI_arr {M : mHe} {c n k : Nat} {f : Nat → Int32} (hc : c < 144) (h : M[c]? = some (.inl (n, f))) (hk : k < n) : rdI M c k = f k := rdI_of (fun xs => yRd_arr xs hc h hk)
theorem rdI_obj {M : mHe} {c ci k : Nat} {fs : List Value} {x : Int32} (hc : c < 144) (h : M[c]? = some (.inr (ci, fs))) (hk : fs[k]? = some (.int x)) : rdI M c k = x := rdI_of (fun xs => by rw [yRd_obj xs hc h]; exact hk)
/-- what is read is what the reading function says -/
theorem rd_arr {M : mHe} (hM : yTy M) {c n tag k : Nat} {regs : List tR} (ht : tTy c = some (.inl (n, tag, regs))) (hk : k < n) : ∀ xs : tXs, yRd xs M c k = some (.int (rdI M c k)) := fun xs => by
  obtain ⟨f, hf, -, -⟩ := yTy_arr hM ht
  rw [rdI_arr (tTy_lt ht) hf hk]
  exact yRd_arr xs (tTy_lt ht) hf hk
theorem rd_obj {M : mHe} (hM : yTy M) {c ci k : Nat} {fts : List (Nat × Nat × Int × Int)} (ht : tTy c = some (.inr (ci, fts))) {l u : Int} (hk : fts[k]? = some (1, 0, l, u)) : (∀ xs : tXs, yRd xs M c k = some (.int (rdI M c k))) ∧ l ≤ (rdI M c k).toInt ∧ (rdI M c k).toInt ≤ u := by
  obtain ⟨fs, hfs, h2⟩ := yTy_obj hM ht
  obtain ⟨v, v1, x, rfl, x1, x2⟩ := h2.2 _ _ hk
  have e := rdI_obj (tTy_lt ht) hfs v1
  rw [e]
  exact ⟨fun xs => by rw [yRd_obj xs (tTy_lt ht) hfs]; exact v1, x1, x2⟩
/-- a frame, read -/
theorem rdI_fr {W : List tG} {M M' : mHe} (h : yFr W M M') {c k : Nat} (hn : ∀ g ∈ W, ¬ yG g c k) : rdI M' c k = rdI M c k := by
  unfold rdI
  rw [h (0, fun _ => 0) c k hn]
section HRD
variable {sc : Option (Nat × (Nat → Int32))} {d y pc : Nat} {lv : List (Nat × Value)} {st : List Value} {M : mHe} {q : mMd} {g : Nat → Nat → Int32}
theorem s_ald {x : Nat × Nat × Nat × Int × Nat × Nat × Nat} {n tag : Nat} {regs : List tR} {i : Int32} (hT : aTabOk) (hq : mjM y = some q) (he : aTab y pc = some (.iaload, x)) (h1 : x.1 = 1) (hM : yTy M) (hg : rdI M = g) (c k : Nat) (ht : tTy c = some (.inl (n, tag, regs))) (hi : i.toInt = (k : Int)) (hk : k < n) : mTo sc d (y, pc, lv, .int i :: .ref (9 + c) :: st) M (y, pc + 1, lv, .int (g c k) :: st) M := by
  obtain ⟨f, hf, -, -⟩ := yTy_arr hM ht
  have h := e_ald (sc := sc) (d := d) (lv := lv) (st := st) (M := M) (r := 9 + c) (i := i) (f := f) (n := n) hT hq he ⟨h1, by omega⟩ (by rw [show 9 + c - 9 = c by omega]; exact hf) ⟨by omega, by omega⟩
  rw [hi, show (k : Int).toNat = k from rfl] at h
  rw [← hg, rdI_arr (tTy_lt ht) hf hk]
  exact h
theorem s_getI {idx ci : Nat} {fts : List (Nat × Nat × Int × Int)} {l u : Int} {x : Nat × Nat × Nat} {cl : vw_C} {k : Int} (hT : aTabOk) (hq : mjM y = some q) (he : aTab y pc = some (.getfield idx, 3, 0, ci, k, x)) (hcl : vwCl[ci]? = some cl) (hk : k.toNat < cl.2.2) (hM : yTy M) (hg : rdI M = g) (c : Nat) (ht : tTy c = some (.inr (ci, fts))) (hf : fts[k.toNat]? = some (1, 0, l, u)) : mTo sc d (y, pc, lv, .ref (9 + c) :: st) M (y, pc + 3, lv, .int (g c k.toNat) :: st) M := by
  obtain ⟨fs, hfs, h2⟩ := yTy_obj hM ht
  obtain ⟨v, v1, z, rfl, -, -⟩ := h2.2 _ _ hf
  rw [← hg, rdI_obj (tTy_lt ht) hfs v1]
  exact e_getf hT hq he hcl hk (by omega) (by rw [show 9 + c - 9 = c by omega]; exact hfs) v1
theorem s_aldV {x : Nat × Nat × Nat × Int × Nat × Nat × Nat} {n tag : Nat} {regs : List tR} {i v : Int32} (hT : aTabOk) (hq : mjM y = some q) (he : aTab y pc = some (.iaload, x)) (h1 : x.1 = 1) (hM : yTy M) (hg : rdI M = g) (c k : Nat) (ht : tTy c = some (.inl (n, tag, regs))) (hi : i.toInt = (k : Int)) (hk : k < n) (hv : g c k = v) : mTo sc d (y, pc, lv, .int i :: .ref (9 + c) :: st) M (y, pc + 1, lv, .int v :: st) M := by
  rw [← hv]
  exact s_ald hT hq he h1 hM hg c k ht hi hk
theorem s_getV {idx ci : Nat} {fts : List (Nat × Nat × Int × Int)} {l u : Int} {x : Nat × Nat × Nat} {cl : vw_C} {k : Int} {v : Int32} (hT : aTabOk) (hq : mjM y = some q) (he : aTab y pc = some (.getfield idx, 3, 0, ci, k, x)) (hcl : vwCl[ci]? = some cl) (hk : k.toNat < cl.2.2) (hM : yTy M) (hg : rdI M = g) (c : Nat) (ht : tTy c = some (.inr (ci, fts))) (hf : fts[k.toNat]? = some (1, 0, l, u)) (hv : g c k.toNat = v) : mTo sc d (y, pc, lv, .ref (9 + c) :: st) M (y, pc + 3, lv, .int v :: st) M := by
  rw [← hv]
  exact s_getI hT hq he hcl hk hM hg c ht hf
theorem ob_put {M : mHe} (hM : yTy M) {c ci k : Nat} {fts : List (Nat × Nat × Int × Int)} (ht : tTy c = some (.inr (ci, fts))) {l u : Int} (hk : fts[k]? = some (1, 0, l, u)) {x : Int32} (hx : l ≤ x.toInt ∧ x.toInt ≤ u) : ∃ fs, M[c]? = some (.inr (ci, fs)) ∧ k < fs.length ∧ yTy (M.set c (.inr (ci, fs.set k (.int x)))) ∧ rdI (M.set c (.inr (ci, fs.set k (.int x)))) = up2 (rdI M) c k x := by
  obtain ⟨fs, hfs, hty⟩ := yTy_obj hM ht
  have hc := tTy_lt ht
  have hkl : k < fs.length := by rw [hty.1]; exact (List.getElem?_eq_some_iff.mp hk).1
  have hlt := (List.getElem?_eq_some_iff.mp hfs).1
  refine ⟨fs, hfs, hkl, yTy_setO hM ht ⟨by rw [List.length_set]; exact hty.1, fun j ft hj => ?_⟩, ?_⟩
  · by_cases ej : j = k
    · subst ej
      rw [hk] at hj
      cases hj
      exact ⟨_, List.getElem?_set_self hkl, x, rfl, hx.1, hx.2⟩
    · obtain ⟨v, v1, v2⟩ := hty.2 j ft hj
      exact ⟨v, by rw [List.getElem?_set_ne (fun z => ej z.symm)]; exact v1, v2⟩
  · funext c' k'
    by_cases h : c' = c ∧ k' = k
    · obtain ⟨rfl, rfl⟩ := h
      rw [up2_eq]
      exact rdI_obj hc (List.getElem?_set_self hlt) (List.getElem?_set_self hkl)
    · rw [show up2 (rdI M) c k x c' k' = rdI M c' k' from if_neg h]
      unfold rdI
      by_cases hcc : c' = c
      · subst hcc
        rw [yRd_obj _ hc (List.getElem?_set_self hlt), yRd_obj _ hc hfs, List.getElem?_set_ne (fun z => h ⟨rfl, z.symm⟩)]
      · rw [yRd_ne hcc]
theorem s_putI {idx ci : Nat} {fts : List (Nat × Nat × Int × Int)} {l u : Int} {x : Nat × Nat × Nat} {cl : vw_C} {ty : FieldType} {k : Int} {z : Int32} (hT : aTabOk) (hq : mjM y = some q) (he : aTab y pc = some (.putfield idx, 3, 0, ci, k, x)) (hcl : vwCl[ci]? = some cl) (hty : mTy ci k.toNat = some ty) (hk : k.toNat < cl.2.2 ∧ (cl.2.1 k.toNat).2.2.2 = false ∧ ty = .int) (hM : yTy M) (hg : rdI M = g) (c : Nat) (ht : tTy c = some (.inr (ci, fts))) (hf : fts[k.toNat]? = some (1, 0, l, u)) (hz : l ≤ z.toInt ∧ z.toInt ≤ u) {kn : Nat} (hkn : k.toNat = kn) : ∃ M', mTo sc d (y, pc, lv, .int z :: .ref (9 + c) :: st) M (y, pc + 3, lv, st) M' ∧ yTy M' ∧ rdI M' = up2 g c kn z := by
  subst hkn
  obtain ⟨fs, h1, h2, h3, h4⟩ := ob_put hM ht hf hz
  refine ⟨_, ?_, h3, by rw [h4, hg]⟩
  have h := e_putf (sc := sc) (d := d) (lv := lv) (st := st) (M := M) (r := 9 + c) (z := z) hT hq he hcl hty hk (by omega) (by rw [show 9 + c - 9 = c by omega]; exact h1) h2
  rw [show 9 + c - 9 = c by omega] at h
  exact h
theorem ar_set {M : mHe} {c n k : Nat} {f : Nat → Int32} {x : Int32} (hc : c < 144) (hf : M[c]? = some (.inl (n, f))) (hk : k < n) : rdI (M.set c (.inl (n, upd f k x))) = up2 (rdI M) c k x := by
  have hlt := (List.getElem?_eq_some_iff.mp hf).1
  funext c' k'
  by_cases h : c' = c
  · subst h
    by_cases h2 : k' < n
    · rw [rdI_arr hc (List.getElem?_set_self hlt) h2]
      by_cases h3 : k' = k
      · subst h3; rw [upd_same, up2_eq]
      · rw [upd_ne _ _ h3, up2_k _ _ h3, rdI_arr hc hf h2]
    · rw [up2_k _ _ (by omega)]
      unfold rdI yRd
      rw [if_neg (by omega), if_neg (by omega), List.getElem?_set_self hlt, hf]
      simp only [if_neg h2]
  · rw [up2_c _ _ h]
    unfold rdI
    rw [yRd_ne h]
/-- a number put into a row of numbers -/
theorem s_ast {x : Nat × Nat × Nat × Int × Nat × Nat × Nat} {n : Nat} {i z : Int32} (hT : aTabOk) (hq : mjM y = some q) (he : aTab y pc = some (.iastore, x)) (h1 : x.1 = 1) (hM : yTy M) (hg : rdI M = g) (c k : Nat) (ht : tTy c = some (.inl (n, 0, []))) (hi : i.toInt = (k : Int)) (hk : k < n) : ∃ M', mTo sc d (y, pc, lv, .int z :: .int i :: .ref (9 + c) :: st) M (y, pc + 1, lv, st) M' ∧ yTy M' ∧ rdI M' = up2 g c k z := by
  obtain ⟨f, hf, -, -⟩ := yTy_arr hM ht
  have h := e_ast (sc := sc) (d := d) (lv := lv) (st := st) (M := M) (r := 9 + c) (i := i) (f := f) (n := n) (z := z) hT hq he ⟨h1, by omega⟩ (by rw [show 9 + c - 9 = c by omega]; exact hf) ⟨by omega, by omega⟩
  rw [hi, show (k : Int).toNat = k from rfl, show 9 + c - 9 = c by omega] at h
  exact ⟨_, h, yTy_set hM ht (fun r hr => by cases hr) (fun e => by cases e), by rw [ar_set (tTy_lt ht) hf hk, hg]⟩
/-- a number put into a row whose numbers have bounds -/
theorem s_asb {x : Nat × Nat × Nat × Int × Nat × Nat × Nat} {n tag : Nat} {regs : List tR} {i z : Int32} {l h vl vh : Int} (hT : aTabOk) (hq : mjM y = some q) (he : aTab y pc = some (.iastore, x)) (h1 : x.1 = 1) (hM : yTy M) (hg : rdI M = g) (c k : Nat) (ht : tTy c = some (.inl (n, tag, regs))) (hc : (tSa ([(l, h), (vl, vh)], []) [] [] c (4, 0, 0, 0) (4, 1, 0, 0)).isSome = true) (hi : i.toInt = (k : Int)) (hk : l ≤ (k : Int) ∧ (k : Int) ≤ h) (hz : vl ≤ z.toInt ∧ z.toInt ≤ vh) : ∃ M', mTo sc d (y, pc, lv, .int z :: .int i :: .ref (9 + c) :: st) M (y, pc + 1, lv, st) M' ∧ yTy M' ∧ rdI M' = up2 g c k z := by
  obtain ⟨n', f, hf, hb, t1⟩ := yTy_sa hM hc (x := i) (y := z) (by omega) hz
  have h2 := e_ast (sc := sc) (d := d) (lv := lv) (st := st) (M := M) (r := 9 + c) (i := i) (f := f) (n := n') (z := z) hT hq he ⟨h1, by omega⟩ (by rw [show 9 + c - 9 = c by omega]; exact hf) hb
  rw [hi, show (k : Int).toNat = k from rfl] at t1
  rw [hi, show (k : Int).toNat = k from rfl, show 9 + c - 9 = c by omega] at h2
  exact ⟨_, h2, t1, by rw [ar_set (tTy_lt ht) hf (by omega), hg]⟩
/-- a call whose end is known -/
theorem s_end {Q : Option Value → mHe → Prop} {fr : mFr} (h : mEv sc d fr M Q) {d' : Nat} (hd : d ≤ d') : ∃ K r M', mRun sc K d' fr M = some (r, M') ∧ Q r M' := by
  obtain ⟨K, r, M', h1, h2⟩ := h
  exact ⟨K, r, M', mRun_dm h1 hd, h2⟩
end HRD
/-- a class object where it is called upon -/
theorem ob_at {M : mHe} (hM : yTy M) {c ci : Nat} {fts : List (Nat × Nat × Int × Int)} (ht : tTy c = some (.inr (ci, fts))) : ∃ fs, M[c]? = some (.inr (ci, fs)) := by
  obtain ⟨fs, h, -⟩ := yTy_obj hM ht
  exact ⟨fs, h⟩
section HRD2
variable {sc : Option (Nat × (Nat → Int32))} {d y pc : Nat} {lv : List (Nat × Value)} {st : List Value} {M : mHe} {q : mMd} {g : Nat → Nat → Int32}
theorem s_len {x : Nat × Nat × Nat × Int × Nat × Nat × Nat} {n tag : Nat} {regs : List tR} (hT : aTabOk) (hq : mjM y = some q) (he : aTab y pc = some (.arraylength, x)) (h1 : x.1 = 1) (hM : yTy M) (c : Nat) (ht : tTy c = some (.inl (n, tag, regs))) : mTo sc d (y, pc, lv, .ref (9 + c) :: st) M (y, pc + 1, lv, .int (Int32.ofNat n) :: st) M := by
  obtain ⟨f, hf, -, -⟩ := yTy_arr hM ht
  exact e_lenA hT hq he ⟨h1, by omega⟩ (by rw [show 9 + c - 9 = c by omega]; exact hf)
/-- a whole row copied -/
def cpy (g : Nat → Nat → Int32) (a b : Nat) : Nat → Nat → Int32 := fun c k => if c = b then g a k else g c k
theorem s_copy (hT : aTabOk) {a b L : Nat} (hL : L ≤ 4000) (ha : tTy a = some (.inl (L, 0, []))) (hb : tTy b = some (.inl (L, 0, []))) (hab : a ≠ b) {M : mHe} (hM : yTy M) {g : Nat → Nat → Int32} (hg : rdI M = g) {d : Nat} (hd : 1 ≤ d) : ∃ M', (∃ K, mRun none K d (237, 0, lv_args 0 [.ref (9 + a), .ref (9 + b)], []) M = some (none, M')) ∧ yTy M' ∧ rdI M' = cpy g a b := by
  obtain ⟨N, r, M', m1, m2, m3, m4, m5⟩ := hand_crow hT hL ha hb hab M [.ref (9 + a), .ref (9 + b)] d hM ⟨rfl, rfl, trivial⟩ hd (fun p hp => by cases hp)
  have m4 : r = none := m4
  refine ⟨M', ⟨N, by rw [m1, m4]⟩, m2, ?_⟩
  funext c k
  show rdI M' c k = if c = b then g a k else g c k
  by_cases h : c = b
  · subst h
    rw [if_pos rfl, ← hg]
    unfold rdI
    rw [m5 (a, c) (List.mem_singleton_self _) (0, fun _ => 0) k]
  · rw [if_neg h, ← hg]
    exact rdI_fr m3 (fun w hw hy => by rw [List.mem_singleton.mp hw] at hy; exact h hy.1.symm)
end HRD2
section HRD3
variable {sc : Option (Nat × (Nat → Int32))} {d y pc : Nat} {lv : List (Nat × Value)} {st : List Value} {M : mHe} {q : mMd} {g : Nat → Nat → Int32}
theorem e_putfB {idx ci r : Nat} {k : Int} {x : Nat × Nat × Nat} {fs : List Value} {z : Int32} {cl : vw_C} {ty : FieldType} (hT : aTabOk) (hq : mjM y = some q) (he : aTab y pc = some (.putfield idx, 3, 0, ci, k, x)) (hcl : vwCl[ci]? = some cl) (hty : mTy ci k.toNat = some ty) (hk : k.toNat < cl.2.2 ∧ (cl.2.1 k.toNat).2.2.2 = false ∧ ty = .boolean) (h9 : 9 ≤ r) (hM : M[r - 9]? = some (.inr (ci, fs))) (hl : k.toNat < fs.length) (hz : z = 0 ∨ z = 1) : mTo sc d (y, pc, lv, .int z :: .ref r :: st) M (y, pc + 3, lv, st) (M.set (r - 9) (.inr (ci, fs.set k.toNat (.int z)))) := by
  refine mTo_step ?_
  obtain ⟨h1, h2⟩ := e_eq (sc := sc) (d := d) (lv := lv) (st := .int z :: .ref r :: st) (M := M) hT hq he
  rw [h1]
  obtain ⟨o1, o2, hR, -⟩ := aChk_R (k := idx) rfl h2 (by simp)
  refine mOr_r (fun s hs => by have := mG1 hs; cases this) (mOr_r (fun s hs => by have := mG2 hs; cases this) (mOr_r (fun s hs => by have := mG3 hs; cases this) (mOr_r (fun s hs => by have := mG4 hs; cases this) (mOr_l ?_))))
  obtain ⟨k1, k2, rfl⟩ := hk
  simp only [mOp5, hR, h9, and_self, if_true, hM, hcl, hty]
  rw [if_pos ⟨trivial, k1, hl, by rcases hz with rfl | rfl <;> rfl, Or.inl k2⟩]
  rfl
theorem s_putB {idx ci : Nat} {fts : List (Nat × Nat × Int × Int)} {x : Nat × Nat × Nat} {cl : vw_C} {ty : FieldType} {k : Int} {z : Int32} (hT : aTabOk) (hq : mjM y = some q) (he : aTab y pc = some (.putfield idx, 3, 0, ci, k, x)) (hcl : vwCl[ci]? = some cl) (hty : mTy ci k.toNat = some ty) (hk : k.toNat < cl.2.2 ∧ (cl.2.1 k.toNat).2.2.2 = false ∧ ty = .boolean) (hM : yTy M) (hg : rdI M = g) (c : Nat) (ht : tTy c = some (.inr (ci, fts))) (hf : fts[k.toNat]? = some (1, 0, 0, 1)) (hz : (0 : Int) ≤ z.toInt ∧ z.toInt ≤ 1) {kn : Nat} (hkn : k.toNat = kn) : ∃ M', mTo sc d (y, pc, lv, .int z :: .ref (9 + c) :: st) M (y, pc + 3, lv, st) M' ∧ yTy M' ∧ rdI M' = up2 g c kn z := by
  subst hkn
  obtain ⟨fs, h1, h2, h3, h4⟩ := ob_put hM ht hf hz
  refine ⟨_, ?_, h3, by rw [h4, hg]⟩
  have e1 : (1 : Int32).toInt = 1 := rfl
  have e0 : (0 : Int32).toInt = 0 := rfl
  have h := e_putfB (sc := sc) (d := d) (lv := lv) (st := st) (M := M) (r := 9 + c) (z := z) hT hq he hcl hty hk (by omega) (by rw [show 9 + c - 9 = c by omega]; exact h1) h2 (by
    by_cases hz0 : z.toInt = 0
    · exact Or.inl (i32eq (by omega))
    · exact Or.inr (i32eq (by omega)))
  rw [show 9 + c - 9 = c by omega] at h
  exact h
end HRD3
section HRD4
variable {sc : Option (Nat × (Nat → Int32))} {d y pc : Nat} {lv : List (Nat × Value)} {st : List Value} {M : mHe} {q : mMd} {g : Nat → Nat → Int32}
/-- a number put at a place C + m * N of a row whose numbers have bounds by residues -/
theorem s_asm {x : Nat × Nat × Nat × Int × Nat × Nat × Nat} {n tag : Nat} {regs : List tR} {i z : Int32} {l h vl vh : Int} {C m N : Nat} (hT : aTabOk) (hq : mjM y = some q) (he : aTab y pc = some (.iastore, x)) (h1 : x.1 = 1) (hM : yTy M) (hg : rdI M = g) (c : Nat) (ht : tTy c = some (.inl (n, tag, regs))) (hc : (tSa ([(l, h), (vl, vh)], []) [] [] c (8, 0, (C : Int), (m : Int)) (4, 1, 0, 0)).isSome = true) (hm : 0 < m) (hN : (l ≤ (N : Int) ∧ (N : Int) ≤ h) ∧ N < 2147483648) (hi : i.toInt = ((C + m * N : Nat) : Int)) (hz : vl ≤ z.toInt ∧ z.toInt ≤ vh) : ∃ M', mTo sc d (y, pc, lv, .int z :: .int i :: .ref (9 + c) :: st) M (y, pc + 1, lv, st) M' ∧ yTy M' ∧ rdI M' = up2 g c (C + m * N) z := by
  have hE : xE [(N : Int), z.toInt] ([(l, h), (vl, vh)], []) := by
    refine xE_of_list rfl (fun i l u e hb he => ?_)
    match i with
    | 0 => cases hb; cases he; exact ⟨hN.1, by omega, by omega⟩
    | 1 => cases hb; cases he; exact ⟨hz, i32_lo _, i32_hi _⟩
    | i + 2 => simp at hb
  obtain ⟨fs', hs⟩ := Option.isSome_iff_exists.mp hc
  have hmul : (N : Int) * (m : Int) = ((m * N : Nat) : Int) := by rw [Int.natCast_mul, Int.mul_comm]
  obtain ⟨n', f, g1, g2, g3, g4, -⟩ := tSa_ok (xs := (0, fun _ => 0)) (x := i) (y := z) hE (fun q hq => by cases hq) hM (show yN [(N : Int), z.toInt] (8, 0, (C : Int), (m : Int)) i.toInt from ⟨(N : Int), rfl, by omega, by rw [hi, hmul]; omega⟩) (show yN [(N : Int), z.toInt] (4, 1, 0, 0) z.toInt from ⟨z.toInt, rfl, by omega⟩) hs
  have g3 : i.toInt.toNat < n' := g3
  have h2 := e_ast (sc := sc) (d := d) (lv := lv) (st := st) (M := M) (r := 9 + c) (i := i) (f := f) (n := n') (z := z) hT hq he ⟨h1, by omega⟩ (by rw [show 9 + c - 9 = c by omega]; exact g1) ⟨by omega, by omega⟩
  have g4 : yTy (M.set c (.inl (n', upd f i.toInt.toNat z))) := g4
  have e : i.toInt.toNat = C + m * N := by omega
  rw [e] at g4 g3
  rw [e, show 9 + c - 9 = c by omega] at h2
  exact ⟨_, h2, g4, by rw [ar_set (tTy_lt ht) g1 g3, hg]⟩
end HRD4
section HRD5
variable {sc : Option (Nat × (Nat → Int32))} {d y pc : Nat} {lv : List (Nat × Value)} {st : List Value} {M : mHe} {q : mMd} {g : Nat → Nat → Int32}
/-- a number put at a place C + m * N of the row of all, with what it has to keep -/
theorem s_asq {x : Nat × Nat × Nat × Int × Nat × Nat × Nat} {i z : Int32} {l h vl vh : Int} {C m N : Nat} (hT : aTabOk) (hq : mjM y = some q) (he : aTab y pc = some (.iastore, x)) (h1 : x.1 = 1) (hM : yTy M) (hg : rdI M = g) (hc : tWr tRegS ((C : Int) + (m : Int) * l) ((C : Int) + (m : Int) * h) (some (120, 0, (C : Int), m)) vl vh = true) (hm : 0 < m) (hN : l ≤ (N : Int) ∧ (N : Int) ≤ h) (hk : C + m * N < 4000) (hi : i.toInt = ((C + m * N : Nat) : Int)) (hz : vl ≤ z.toInt ∧ z.toInt ≤ vh) (hP : ∀ f : Nat → Int32, (∀ j, j < 4000 → f j = g 120 j) → yP f → yP (upd f (C + m * N) z)) : ∃ M', mTo sc d (y, pc, lv, .int z :: .int i :: .ref (9 + 120) :: st) M (y, pc + 1, lv, st) M' ∧ yTy M' ∧ rdI M' = up2 g 120 (C + m * N) z := by
  obtain ⟨f, hf, hT1, hP1⟩ := yTy_arr hM tTy_120
  have hgf : ∀ j, j < 4000 → f j = g 120 j := fun j hj => by
    rw [← hg]
    exact (rdI_arr (by decide) hf hj).symm
  have e : i.toInt.toNat = C + m * N := by omega
  have h2 := e_ast (sc := sc) (d := d) (lv := lv) (st := st) (M := M) (r := 9 + 120) (i := i) (f := f) (n := 4000) (z := z) hT hq he ⟨h1, by omega⟩ hf ⟨by omega, by omega⟩
  rw [e] at h2
  have hmul : (N : Int) * (m : Int) = ((m * N : Nat) : Int) := by rw [Int.natCast_mul, Int.mul_comm]
  have m1 : (m : Int) * l ≤ (m : Int) * (N : Int) := Int.mul_le_mul_of_nonneg_left hN.1 (by omega)
  have m2 : (m : Int) * (N : Int) ≤ (m : Int) * h := Int.mul_le_mul_of_nonneg_left hN.2 (by omega)
  rw [Int.mul_comm (m : Int) (N : Int), hmul] at m1 m2
  refine ⟨_, h2, yTy_set hM tTy_120 (tWr_ok (E := [(N : Int)]) (by omega) (by omega) (fun q hq => ?_) hz hT1 hc) (fun _ => hP f hgf (hP1 rfl)), by rw [ar_set (by decide) hf hk, hg]⟩
  cases hq
  unfold yIx
  simp only
  rw [if_neg (by omega)]
  show some ((N : Int) * (m : Int) + (C : Int)) = _
  rw [hmul]
  congr 1
  omega
theorem yP_hi {f : Nat → Int32} {k P : Nat} {z : Int32} (hp : yP f) (h5 : (f 5).toInt = (P : Int)) (hk : 160 + 10 * P ≤ k ∧ k < 1010) : yP (upd f k z) := yP_same (upd_ne _ _ (by omega)) (upd_ne _ _ (by omega)) (fun j o hj ho => upd_ne _ _ (by omega)) (fun j hj => Or.inl (upd_ne _ _ (by omega))) (fun i h1 h2 => upd_ne _ _ (by omega)) hp
theorem yP_app {f : Nat → Int32} {P : Nat} (hp : yP f) (h5 : (f 5).toInt = (P : Int)) (hP : P < 40) (ha : yPap f P) : yP (upd f 5 (Int32.ofNat (P + 1))) := by
  obtain ⟨p1, p2, p3, p4⟩ := hp
  have e5 := i32n (k := P + 1) (by omega)
  have e : ∀ k o, yPk (upd f 5 (Int32.ofNat (P + 1))) k o = yPk f k o := fun k o => by
    unfold yPk
    rw [upd_ne _ _ (by omega)]
  have ep : ∀ k, yPap f k → yPap (upd f 5 (Int32.ofNat (P + 1))) k := fun k h => by
    unfold yPap at h ⊢
    simp only [e]
    exact h
  refine ⟨by rw [upd_same, e5]; omega, fun k hk => ?_, by rw [upd_ne _ _ (by decide)]; exact p3, fun t ht => ?_⟩
  · rw [upd_same, e5] at hk
    by_cases c : k = P
    · subst c; exact ep _ ha
    · exact ep _ (p2 k (by omega))
  · obtain ⟨⟨a1, dep, a2, a3⟩, a4⟩ := p4 t ht
    refine ⟨⟨by rw [upd_ne _ _ (by omega)]; exact a1, dep, a2, fun j hj => ?_⟩, fun h => ?_⟩
    · rw [upd_ne _ _ (by omega)] at hj
      rw [upd_ne _ _ (by omega), upd_ne _ _ (by omega)]
      exact a3 j hj
    · rw [upd_ne _ _ (by decide)] at h
      rw [upd_ne _ _ (by omega)]
      exact a4 h
end HRD5
