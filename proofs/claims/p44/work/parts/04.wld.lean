/-! WHAT A WORLD OF NUMBERED CELLS IS IN THE MACHINE. g: the classes' places, the class of int arrays, the script's cell, the first cell of the law's own, the texts' cells and their bytes' -/
abbrev mG : Type := va_G × ClassId × Nat × Nat × (Nat → Nat) × (Nat → Nat)
abbrev gD (g : mG) : va_G := g.1
abbrev gA (g : mG) : ClassId := g.2.1
abbrev gb (g : mG) : Nat := g.2.2.1
abbrev g0 (g : mG) : Nat := g.2.2.2.1
abbrev gK (g : mG) : Nat → Nat := g.2.2.2.2.1
abbrev gV (g : mG) : Nat → Nat := g.2.2.2.2.2
def mAd (g : mG) (k : Nat) : Nat := if k = 0 then gb g else if k < 9 then gK g (k - 1) else g0 g + (k - 9)
def mTr (g : mG) : Value → Value
  | .ref k => .ref (mAd g k)
  | v => v
def mTl (g : mG) (lv : List (Nat × Value)) : List (Nat × Value) := lv.map (fun q => (q.1, mTr g q.2))
def mTs (g : mG) (st : List Value) : List Value := st.map (mTr g)
theorem mTr_cat (g : mG) (v : Value) : (mTr g v).category = v.category := by cases v <;> rfl
theorem mTs_cons (g : mG) (v : Value) (st : List Value) : mTs g (v :: st) = mTr g v :: mTs g st := rfl
theorem mTs_cat (g : mG) (st : List Value) : ((mTs g st).map fun v => v.category).sum = mCat st := by
  unfold mTs mCat
  rw [List.map_map]
  congr 1
  exact List.map_congr_left fun v _ => mTr_cat g v
theorem mlg_at {g : mG} {ls : Array Slot} {nL k : Nat} {lv : List (Nat × Value)} {v : Value} (h : lv_has ls nL (mTl g lv)) (e : mlg k lv = some v) : ls[k]? = some (.val (mTr g v)) := by
  unfold mlg at e
  obtain ⟨q, hq, rfl⟩ := Option.map_eq_some_iff.mp e
  have h1 := List.mem_of_find?_eq_some hq
  have h2 : q.1 = k := by simpa using List.find?_some hq
  have h3 := h.2.2 (q.1, mTr g q.2) (List.mem_map.mpr ⟨q, h1, rfl⟩)
  rw [h2] at h3
  exact h3
theorem mlg_mem {g : mG} {k : Nat} {lv : List (Nat × Value)} {v : Value} (e : mlg k lv = some v) : ∃ j : Nat, (mTl g lv)[j]? = some (k, mTr g v) := by
  unfold mlg at e
  obtain ⟨q, hq, rfl⟩ := Option.map_eq_some_iff.mp e
  have h1 := List.mem_of_find?_eq_some hq
  have h2 : q.1 = k := by simpa using List.find?_some hq
  have h3 : (k, mTr g q.2) ∈ mTl g lv := List.mem_map.mpr ⟨q, h1, by rw [h2]⟩
  exact List.getElem?_of_mem h3
theorem mlp_tr (g : mG) (i : Nat) (v : Value) (lv : List (Nat × Value)) : (i, mTr g v) :: (mTl g lv).filter (fun q => !(q.1 == i) && !(q.1 + 1 == i && q.2.category == 2)) = mTl g (mlp i v lv) := by
  unfold mTl mlp
  rw [List.map_cons, List.filter_map]
  congr 2
  exact List.filter_congr fun q _ => by simp [mTr_cat]
def mTc (g : mG) : mCe → va_E
  | .inl (n, f) => .inl (gA g, n, .inl f)
  | .inr (ci, fs) => .inr (ci, mTs g fs)
def mWF (g : mG) : Nat → mHe → va_W
  | _, [] => []
  | k, c :: M => (g0 g + k, mTc g c) :: mWF g (k + 1) M
def mW (g : mG) (M : mHe) : va_W := mWF g 0 M
theorem mWF_get (g : mG) : ∀ (M : mHe) (k j : Nat), (mWF g k M)[j]? = (M[j]?).map (fun c => (g0 g + (k + j), mTc g c)) := by
  intro M
  induction M with
  | nil => intro k j; simp [mWF]
  | cons c M ih =>
    intro k j
    cases j with
    | zero => simp [mWF]
    | succ j =>
      rw [mWF, List.getElem?_cons_succ, ih, List.getElem?_cons_succ]
      rw [show k + 1 + j = k + (j + 1) by omega]
theorem mWF_set (g : mG) (c' : mCe) : ∀ (M : mHe) (k j : Nat), mWF g k (M.set j c') = (mWF g k M).set j (g0 g + (k + j), mTc g c') := by
  intro M
  induction M with
  | nil => intro k j; simp [mWF]
  | cons c M ih =>
    intro k j
    cases j with
    | zero => simp [mWF]
    | succ j =>
      rw [List.set_cons_succ, mWF, ih, mWF, List.set_cons_succ]
      rw [show k + 1 + j = k + (j + 1) by omega]
theorem mWF_app (g : mG) (c' : mCe) : ∀ (M : mHe) (k : Nat), mWF g k (M ++ [c']) = mWF g k M ++ [(g0 g + (k + M.length), mTc g c')] := by
  intro M
  induction M with
  | nil => intro k; simp [mWF]
  | cons c M ih =>
    intro k
    rw [List.cons_append, mWF, ih, mWF, List.cons_append, List.length_cons]
    rw [show k + 1 + M.length = k + (M.length + 1) by omega]
theorem mWF_len (g : mG) : ∀ (M : mHe) (k : Nat), (mWF g k M).length = M.length := by
  intro M
  induction M with
  | nil => intro k; rfl
  | cons c M ih => intro k; simp [mWF, ih]
theorem mW_get {g : mG} {M : mHe} {j : Nat} {c : mCe} (h : M[j]? = some c) : (mW g M)[j]? = some (g0 g + j, mTc g c) := by
  rw [mW, mWF_get, h]; simp
theorem mW_set (g : mG) (M : mHe) (j : Nat) (c : mCe) : mW g (M.set j c) = (mW g M).set j (g0 g + j, mTc g c) := by
  rw [mW, mWF_set, mW]; simp
theorem mW_app (g : mG) (M : mHe) (c : mCe) : mW g (M ++ [c]) = mW g M ++ [(g0 g + M.length, mTc g c)] := by
  rw [mW, mWF_app, mW]; simp
abbrev gO (g : mG) : Nat → Prop := fun q => g0 g ≤ q
theorem mW_at {g : mG} {M : mHe} {j : Nat} {q : Nat × va_E} (h : (mW g M)[j]? = some q) : q.1 = g0 g + j := by
  rw [mW, mWF_get] at h
  obtain ⟨c, -, rfl⟩ := Option.map_eq_some_iff.mp h
  simp
theorem mW_D (g : mG) (M : mHe) : va_D (gO g) (mW g M) := by
  refine ⟨fun i j p q hi hj e => ?_, fun k q hk => ?_⟩
  · have h1 := mW_at hi
    have h2 := mW_at hj
    omega
  · have h1 := mW_at hk
    show g0 g ≤ q.1
    omega
def mSz : mCe → Nat
  | .inl (n, _) => n
  | .inr (_, fs) => fs.length
def mSl (M : mHe) : Nat := (M.map mSz).sum
theorem mSl_app (M : mHe) (c : mCe) : mSl (M ++ [c]) = mSl M + mSz c := by simp [mSl]
theorem mSl_set : ∀ (M : mHe) (j : Nat) (c c' : mCe), M[j]? = some c → mSz c' = mSz c → mSl (M.set j c') = mSl M := by
  intro M
  induction M with
  | nil => intro j c c' h; simp at h
  | cons a M ih =>
    intro j c c' h e
    cases j with
    | zero =>
      simp only [List.getElem?_cons_zero, Option.some.injEq] at h
      subst h
      simp [mSl, e]
    | succ j =>
      simp only [List.getElem?_cons_succ] at h
      have := ih j c c' h e
      simp only [mSl, List.set_cons_succ, List.map_cons, List.sum_cons] at this ⊢
      omega
/-- what stays: the tables, private links, texts, a static of String -/
def mX (g : mG) (U : State) (H : Heap) : Prop := va_K (gD g) vwCl [(gA g, .int)] U ∧ (∀ w ∈ mjNest, va_Nw (.methodLinkNest w.1 w.2.1 w.2.2.1 w.2.2.2) U) ∧ (∀ w ∈ mjStr, vk_R w.1 w.2.1 w.2.2.1 (gK g w.2.2.2) U) ∧ vk_S 8 mjLen mjByt (gK g) (gV g) (gO g) U H ∧ va_Z "java/lang/String" "COMPACT_STRINGS" "Z" (.int 1) (gO g) U H ∧ ∃ z : Value, (z = .null ∨ ∃ k : Nat, z = .ref k) ∧ va_Z "jdk/internal/util/Preconditions" "SIOOBE_FORMATTER" "Ljava/util/function/BiFunction;" z (gO g) U H
/-- the world at a heap of a method's run that began at s -/
def mDy (g : mG) (s : State) (H : Heap) (locs : List Loc) (M : mHe) (cells slots k0 s0 : Nat) : Prop :=
  H.size = g0 g + M.length ∧ va_P (gD g) vwCl (mW g M) H ∧ va_S (gO g) s.heap H locs ∧ mX g s H ∧ cells + k0 = M.length ∧ slots + s0 = mSl M ∧ s.heap.size = g0 g + k0
/-- what doesn't change while a method runs -/
def mFx (g : mG) (p : Program) (s : State) (m : MethodId) (args : Array Value) (meth : Method) (c : Code) (R : Room) (d : Nat) (q : mMd) : Prop :=
  p.tables.exec = Jvm.exec ∧ c.code = q.2.1 ∧ c.maxLocals = q.2.2.1 ∧ s.vm.findClass (mjC q.2.2.2.2) = some m.cls ∧ (∀ w ∈ mjT, w.before args s = true) ∧ meth.sig.returnType = q.2.2.2.1 ∧ meth.locks = false ∧ (q.1.name = "<init>" → meth.name = "<init>") ∧ d ≤ R.frames ∧ 300 * d ≤ R.locals
theorem mX_kept {g : mG} {U : State} {H H1 : Heap} (h : mX g U H) (hq : ∀ a : Nat, a < H.size → ¬ gO g a → H1[a]? = H[a]?) : mX g U H1 :=
  ⟨h.1, h.2.1, h.2.2.1, h.2.2.2.1.kept hq, va_Z.kept h.2.2.2.2.1 hq, h.2.2.2.2.2.imp fun z hz => ⟨hz.1, va_Z.kept hz.2 hq⟩⟩
theorem mGo_inj {y y' pc pc' : Nat} {lv lv' : List (Nat × Value)} {st st' : List Value} {M M' : mHe} (h : mGo y pc lv st M = some (.inl ((y', pc', lv', st'), M'))) : y' = y ∧ pc' = pc ∧ lv' = lv ∧ st' = st ∧ M' = M := by
  simp only [mGo, Option.some.injEq, Sum.inl.injEq, Prod.mk.injEq] at h
  exact ⟨h.1.1.symm, h.1.2.1.symm, h.1.2.2.1.symm, h.1.2.2.2.symm, h.2.symm⟩
theorem mTg_eq {pc t : Nat} {off : Int} (ht : mTg pc off = some t) : (pc : Int) + off = (t : Int) := by
  unfold mTg at ht
  split at ht
  · next hc =>
    simp only [Option.some.injEq] at ht
    omega
  · cases ht
theorem mBr_inj {y y' pc pc' : Nat} {off : Int} {lv lv' : List (Nat × Value)} {st st' : List Value} {M M' : mHe} (h : mBr y pc off lv st M = some (.inl ((y', pc', lv', st'), M'))) : y' = y ∧ (pc : Int) + off = (pc' : Int) ∧ lv' = lv ∧ st' = st ∧ M' = M := by
  unfold mBr at h
  split at h
  · cases h
  · next t ht =>
    obtain ⟨h1, h2, h3⟩ := mGo_inj h
    refine ⟨h1, ?_, h3⟩
    rw [h2]
    exact mTg_eq ht
