/-! THE TYPED MACHINE: a step is right; runs with more fuel -/
/-- which group an instruction is of -/
def mGr (i : Instr) : Nat := match i with
  | .iload_n _ => 1
  | .aload_n _ => 1
  | .lload_n _ => 1
  | .iload _ => 1
  | .aload _ => 1
  | .lload _ => 1
  | .iconst _ => 1
  | .lconst _ => 1
  | .bipush _ => 1
  | .sipush _ => 1
  | .ldc _ => 1
  | .ldc_w _ => 1
  | .ldc2_w _ => 1
  | .istore_n _ => 2
  | .istore _ => 2
  | .astore_n _ => 2
  | .astore _ => 2
  | .iinc _ _ => 2
  | .dup => 2
  | .pop => 2
  | .dup2 => 2
  | .iadd => 3
  | .isub => 3
  | .imul => 3
  | .idiv => 3
  | .irem => 3
  | .iand => 3
  | .ior => 3
  | .ixor => 3
  | .ishl => 3
  | .ishr => 3
  | .iushr => 3
  | .ineg => 3
  | .i2l => 3
  | .ladd => 3
  | .lcmp => 3
  | .goto _ => 4
  | .ifCond _ _ => 4
  | .if_icmp _ _ => 4
  | .tableswitch _ _ _ _ => 4
  | .lookupswitch _ _ => 4
  | .getfield _ => 5
  | .putfield _ => 5
  | .iaload => 5
  | .iastore => 5
  | .arraylength => 5
  | .newarray _ => 5
  | .new _ => 5
  | .invokevirtual _ => 6
  | .invokestatic _ => 6
  | .invokespecial _ => 6
  | .ireturn => 7
  | .return_ => 7
  | .areturn => 7
  | _ => 0
section SEL
variable {own nL y pc n d : Nat} {lv : List (Nat × Value)} {st : List Value} {M : mHe} {i : Instr} {ini : Bool} {sc : Option (Nat × (Nat → Int32))} {rt : Option FieldType}
theorem mG1 {r : (mFr × mHe) ⊕ ((Nat × List Value × mFr) ⊕ Option Value)} (h : mOp1 own y pc n lv st M i = some r) : mGr i = 1 := by
  unfold mOp1 at h
  split at h <;> first | rfl | cases h
theorem mG2 {r : (mFr × mHe) ⊕ ((Nat × List Value × mFr) ⊕ Option Value)} (h : mOp2 nL y pc n lv st M i = some r) : mGr i = 2 := by
  unfold mOp2 at h
  split at h <;> first | rfl | cases h
theorem mG3 {r : (mFr × mHe) ⊕ ((Nat × List Value × mFr) ⊕ Option Value)} (h : mOp3 y pc n lv st M i = some r) : mGr i = 3 := by
  unfold mOp3 at h
  split at h
  · split at h <;> first | rfl | cases h
  · cases h
theorem mG4 {r : (mFr × mHe) ⊕ ((Nat × List Value × mFr) ⊕ Option Value)} (h : mOp4 y pc n lv st M i = some r) : mGr i = 4 := by
  unfold mOp4 at h
  split at h <;> first | rfl | cases h
theorem mG5 {r : (mFr × mHe) ⊕ ((Nat × List Value × mFr) ⊕ Option Value)} (h : mOp5 sc ini own y pc n lv st M i = some r) : mGr i = 5 := by
  unfold mOp5 at h
  split at h <;> first | rfl | cases h
theorem mG6 {r : (mFr × mHe) ⊕ ((Nat × List Value × mFr) ⊕ Option Value)} (h : mOp6 d own y pc n lv st M i = some r) : mGr i = 6 := by
  unfold mOp6 at h
  split at h <;> first | rfl | cases h
theorem mG7 {r : (mFr × mHe) ⊕ ((Nat × List Value × mFr) ⊕ Option Value)} (h : mOp7 rt n st i = some r) : mGr i = 7 := by
  unfold mOp7 at h
  split at h
  · split at h <;> first | rfl | cases h
  · cases h
theorem mOr_l {a b : mRes} {r : (mFr × mHe) ⊕ ((Nat × List Value × mFr) ⊕ Option Value)} (h : a = some r) : mOr a b = some r := by rw [h]; rfl
theorem mOr_r {a b : mRes} {r : (mFr × mHe) ⊕ ((Nat × List Value × mFr) ⊕ Option Value)} (ha : ∀ s, a ≠ some s) (h : b = some r) : mOr a b = some r := by
  cases a with
  | none => exact h
  | some s => exact absurd rfl (ha s)
end SEL
theorem yB_up {xs : tXs} {E : List Int} {Ws : List (List tG)} {f f' : mRes} {M : mHe} {brs : tBr} (hf : ∀ r, f = some r → f' = some r) (h : yB xs E Ws f M brs) : yB xs E Ws f' M brs := by
  obtain ⟨b, hb, X, h0, h⟩ := h
  refine ⟨b, hb, X, h0, ?_⟩
  unfold yR at h ⊢
  split at h
  · obtain ⟨lv', st', M', h1, h2⟩ := h
    exact ⟨lv', st', M', hf _ h1, h2⟩
  · obtain ⟨vs, lv1, st1, h1, h2⟩ := h
    exact ⟨vs, lv1, st1, hf _ h1, h2⟩
  · obtain ⟨r', h1, h2⟩ := h
    exact ⟨r', hf _ h1, h2⟩
/-- the table of instructions says what the code's words say -/
def aTabOk : Prop := ∀ (y : Nat) (q : mMd) (pc : Nat) (e : aIn), mjM y = some q → aTab y pc = some e → decode q.2.1 pc = .ok (e.1, e.2.1) ∧ aChk q.2.2.2.2 e = true
theorem tOr_or {a b : Option tBr} {x : tBr} (h : tOr a b = some x) : a = some x ∨ b = some x := by
  unfold tOr at h
  split at h
  · exact Or.inl h
  · exact Or.inr h
theorem tStep_ok {xs : tXs} {E : List Int} {Ws : List (List tG)} {cs : aC} {y pc d : Nat} {al : List (Nat × aV)} {ast : List aV} {h : tF} {lv : List (Nat × Value)} {st : List Value} {M : mHe} {brs : tBr} {sb : Bool} {sc : Option (Nat × (Nat → Int32))} {q : mMd}
    (hT : aTabOk) (hq : mjM y = some q) (hE : xE E cs) (hL : yLv E al lv) (hS : yS E ast st) (hH : yH xs E h M) (hsc : ySc xs E sb sc) (hr : tStep sb Ws d q y pc al ast h cs = some brs) :
    yB xs E Ws (mStep sc d (y, pc, lv, st) M) M brs := by
  unfold tStep at hr
  split at hr
  · cases hr
  · next e he =>
    obtain ⟨h1, h2⟩ := hT y q pc e hq he
    have hm : mStep sc d (y, pc, lv, st) M = mOp sc d q y pc e.2.1 lv st M e.1 := by
      unfold mStep
      rw [hq]
      simp only
      rw [h1]
    rw [hm]
    unfold mOp
    rcases tOr_or hr with hr | hr
    · exact yB_up (fun r hf => mOr_l hf) (tOp1_ok hE hL hS hH h2 hr)
    rcases tOr_or hr with hr | hr
    · exact yB_up (fun r hf => mOr_r (fun s hs => by have := mG1 hs; have := mG2 hf; omega) (mOr_l hf)) (tOp2_ok hE hL hS hH hr)
    rcases tOr_or hr with hr | hr
    · exact yB_up (fun r hf => mOr_r (fun s hs => by have := mG1 hs; have := mG3 hf; omega) (mOr_r (fun s hs => by have := mG2 hs; have := mG3 hf; omega) (mOr_l hf))) (tOp3_ok hE hL hS hH hr)
    rcases tOr_or hr with hr | hr
    · exact yB_up (fun r hf => mOr_r (fun s hs => by have := mG1 hs; have := mG4 hf; omega) (mOr_r (fun s hs => by have := mG2 hs; have := mG4 hf; omega) (mOr_r (fun s hs => by have := mG3 hs; have := mG4 hf; omega) (mOr_l hf)))) (tOp4_ok hE hL hS hH hr)
    rcases tOr_or hr with hr | hr
    · exact yB_up (fun r hf => mOr_r (fun s hs => by have := mG1 hs; have := mG5 hf; omega) (mOr_r (fun s hs => by have := mG2 hs; have := mG5 hf; omega) (mOr_r (fun s hs => by have := mG3 hs; have := mG5 hf; omega) (mOr_r (fun s hs => by have := mG4 hs; have := mG5 hf; omega) (mOr_l hf))))) (tOp5_ok hE hL hS hH hsc h2 hr)
    rcases tOr_or hr with hr | hr
    · exact yB_up (fun r hf => mOr_r (fun s hs => by have := mG1 hs; have := mG6 hf; omega) (mOr_r (fun s hs => by have := mG2 hs; have := mG6 hf; omega) (mOr_r (fun s hs => by have := mG3 hs; have := mG6 hf; omega) (mOr_r (fun s hs => by have := mG4 hs; have := mG6 hf; omega) (mOr_r (fun s hs => by have := mG5 hs; have := mG6 hf; omega) (mOr_l hf)))))) (tOp6_ok hE hL hS hH h2 hr)
    · exact yB_up (fun r hf => mOr_r (fun s hs => by have := mG1 hs; have := mG7 hf; omega) (mOr_r (fun s hs => by have := mG2 hs; have := mG7 hf; omega) (mOr_r (fun s hs => by have := mG3 hs; have := mG7 hf; omega) (mOr_r (fun s hs => by have := mG4 hs; have := mG7 hf; omega) (mOr_r (fun s hs => by have := mG5 hs; have := mG7 hf; omega) (mOr_r (fun s hs => by have := mG6 hs; have := mG7 hf; omega) hf)))))) (tOp7_ok (M := M) hE hS hr)
theorem mRun_mono : ∀ (n : Nat) (sc : Option (Nat × (Nat → Int32))) (d : Nat) (fr : mFr) (M : mHe) (x : Option Value × mHe), mRun sc n d fr M = some x → ∀ k, mRun sc (n + k) d fr M = some x := by
  intro n
  induction n with
  | zero => intro sc d fr M x h; cases h
  | succ n ih =>
    intro sc d fr M x h k
    rw [show n + 1 + k = (n + k) + 1 by omega]
    unfold mRun at h ⊢
    split at h
    · cases h
    · next fr' M' hs => exact ih _ _ _ _ _ h k
    · next y vs fr' hs =>
      cases d with
      | zero => cases h
      | succ d =>
        simp only at h ⊢
        split at h
        · cases h
        · next r M1 hc =>
          rw [ih _ _ _ _ _ hc k]
          exact ih _ _ _ _ _ h k
    · next r hs => exact h
theorem mRun_det {sc : Option (Nat × (Nat → Int32))} {d N N' : Nat} {fr : mFr} {M : mHe} {x y : Option Value × mHe} (a : mRun sc N d fr M = some x) (b : mRun sc N' d fr M = some y) : x = y := by
  have h1 := mRun_mono _ _ _ _ _ _ a N'
  have h2 := mRun_mono _ _ _ _ _ _ b N
  rw [show N' + N = N + N' by omega, h1] at h2
  exact Option.some.inj h2
/-- one step of a method's own frame; a call is one step -/
def mS1 (sc : Option (Nat × (Nat → Int32))) (d : Nat) (fr : mFr) (M : mHe) (fr' : mFr) (M' : mHe) : Prop := mStep sc d fr M = some (.inl (fr', M')) ∨ ∃ (d' y : Nat) (vs : List Value) (fc : mFr) (N : Nat) (r : Option Value), d = d' + 1 ∧ mStep sc d fr M = some (.inr (.inl (y, vs, fc))) ∧ mRun none N d' (y, 0, lv_args 0 vs, []) M = some (r, M') ∧ fr' = (fc.1, fc.2.1, fc.2.2.1, r.toList ++ fc.2.2.2)
def mPath (sc : Option (Nat × (Nat → Int32))) (d : Nat) : Nat → mFr → mHe → mFr → mHe → Prop
  | 0, fr, M, fr', M' => fr = fr' ∧ M = M'
  | k + 1, fr, M, fr', M' => ∃ fr1 M1, mS1 sc d fr M fr1 M1 ∧ mPath sc d k fr1 M1 fr' M'
theorem mS1_det {sc : Option (Nat × (Nat → Int32))} {d : Nat} {fr f1 f2 : mFr} {M M1 M2 : mHe} (a : mS1 sc d fr M f1 M1) (b : mS1 sc d fr M f2 M2) : f1 = f2 ∧ M1 = M2 := by
  rcases a with a | ⟨d1, y1, vs1, fc1, N1, r1, e1, s1, c1, g1⟩
  · rcases b with b | ⟨d2, y2, vs2, fc2, N2, r2, e2, s2, c2, g2⟩
    · rw [a] at b
      cases b
      exact ⟨rfl, rfl⟩
    · rw [a] at s2
      cases s2
  · rcases b with b | ⟨d2, y2, vs2, fc2, N2, r2, e2, s2, c2, g2⟩
    · rw [b] at s1
      cases s1
    · rw [s1] at s2
      cases s2
      have : d1 = d2 := by omega
      subst this
      have := mRun_det c1 c2
      cases this
      exact ⟨g1.trans g2.symm, rfl⟩
theorem mPath_det {sc : Option (Nat × (Nat → Int32))} {d : Nat} : ∀ (k : Nat) {fr f1 f2 : mFr} {M M1 M2 : mHe}, mPath sc d k fr M f1 M1 → mPath sc d k fr M f2 M2 → f1 = f2 ∧ M1 = M2 := by
  intro k
  induction k with
  | zero => intro fr f1 f2 M M1 M2 a b; exact ⟨a.1.symm.trans b.1, a.2.symm.trans b.2⟩
  | succ k ih =>
    intro fr f1 f2 M M1 M2 a b
    obtain ⟨g1, G1, a1, a2⟩ := a
    obtain ⟨g2, G2, b1, b2⟩ := b
    obtain ⟨rfl, rfl⟩ := mS1_det a1 b1
    exact ih a2 b2
theorem mPath_tr {sc : Option (Nat × (Nat → Int32))} {d : Nat} : ∀ (k : Nat) {k2 : Nat} {fr f1 f2 : mFr} {M M1 M2 : mHe}, mPath sc d k fr M f1 M1 → mPath sc d k2 f1 M1 f2 M2 → mPath sc d (k + k2) fr M f2 M2 := by
  intro k
  induction k with
  | zero => intro k2 fr f1 f2 M M1 M2 a b; obtain ⟨rfl, rfl⟩ := a; rw [Nat.zero_add]; exact b
  | succ k ih =>
    intro k2 fr f1 f2 M M1 M2 a b
    obtain ⟨g1, G1, a1, a2⟩ := a
    rw [show k + 1 + k2 = (k + k2) + 1 by omega]
    exact ⟨g1, G1, a1, ih a2 b⟩
/-- fr runs to fr' -/
def mTo (sc : Option (Nat × (Nat → Int32))) (d : Nat) (fr : mFr) (M : mHe) (fr' : mFr) (M' : mHe) : Prop := ∀ N x, mRun sc N d fr' M' = some x → ∃ N', mRun sc N' d fr M = some x
theorem mTo_rf {sc : Option (Nat × (Nat → Int32))} {d : Nat} {fr : mFr} {M : mHe} : mTo sc d fr M fr M := fun N x h => ⟨N, h⟩
theorem mTo_tr {sc : Option (Nat × (Nat → Int32))} {d : Nat} {fr fr1 fr2 : mFr} {M M1 M2 : mHe} (a : mTo sc d fr M fr1 M1) (b : mTo sc d fr1 M1 fr2 M2) : mTo sc d fr M fr2 M2 := fun N x h => by
  obtain ⟨N1, h1⟩ := b N x h
  exact a N1 x h1
theorem mTo_step {sc : Option (Nat × (Nat → Int32))} {d : Nat} {fr fr' : mFr} {M M' : mHe} (h : mStep sc d fr M = some (.inl (fr', M'))) : mTo sc d fr M fr' M' := fun N x hx => ⟨N + 1, by unfold mRun; rw [h]; exact hx⟩
theorem mTo_call {sc : Option (Nat × (Nat → Int32))} {d y N1 : Nat} {vs : List Value} {fr fr' : mFr} {M M1 : mHe} {r : Option Value} (h : mStep sc (d + 1) fr M = some (.inr (.inl (y, vs, fr')))) (hc : mRun none N1 d (y, 0, lv_args 0 vs, []) M = some (r, M1)) : mTo sc (d + 1) fr M (fr'.1, fr'.2.1, fr'.2.2.1, r.toList ++ fr'.2.2.2) M1 := fun N x hx => ⟨(N1 + N) + 1, by
  unfold mRun
  rw [h]
  simp only
  rw [mRun_mono _ _ _ _ _ _ hc N]
  simp only
  rw [show N1 + N = N + N1 by omega]
  exact mRun_mono _ _ _ _ _ _ hx N1⟩
theorem mS1_run {sc : Option (Nat × (Nat → Int32))} {d : Nat} {fr fr' : mFr} {M M' : mHe} (a : mS1 sc d fr M fr' M') (N : Nat) (x : Option Value × mHe) (hx : mRun sc N d fr' M' = some x) : ∃ N', mRun sc N' d fr M = some x := by
  rcases a with h | ⟨d', y, vs, fc, N1, r, rfl, h, hc, rfl⟩
  · exact ⟨N + 1, by unfold mRun; rw [h]; exact hx⟩
  · refine ⟨(N1 + N) + 1, ?_⟩
    unfold mRun
    rw [h]
    simp only
    rw [mRun_mono _ _ _ _ _ _ hc N]
    simp only
    rw [show N1 + N = N + N1 by omega]
    exact mRun_mono _ _ _ _ _ _ hx N1
theorem mPath_run {sc : Option (Nat × (Nat → Int32))} {d : Nat} : ∀ (k : Nat) {fr fr' : mFr} {M M' : mHe}, mPath sc d k fr M fr' M' → ∀ (N : Nat) (x : Option Value × mHe), mRun sc N d fr' M' = some x → ∃ N', mRun sc N' d fr M = some x := by
  intro k
  induction k with
  | zero => intro fr fr' M M' a N x h; obtain ⟨rfl, rfl⟩ := a; exact ⟨N, h⟩
  | succ k ih =>
    intro fr fr' M M' a N x h
    obtain ⟨g, G, a1, a2⟩ := a
    obtain ⟨N1, h1⟩ := ih a2 N x h
    exact mS1_run a1 N1 x h1
theorem mTo_run {sc : Option (Nat × (Nat → Int32))} {d : Nat} {fr fr' : mFr} {M M' : mHe} (a : mTo sc d fr M fr' M') : ∀ (N : Nat) (x : Option Value × mHe), mRun sc N d fr' M' = some x → ∃ N', mRun sc N' d fr M = some x := a
/-! THE TYPED MACHINE: loops, contracts, runs -/
/-- a loop: its last place; locals and places that are new at each turn, with bounds; differences; what grows (or falls); dead locals; what may be written -/
abbrev tAn : Type := Nat × List (Nat × Int × Int) × List (Nat × Nat × Int × Int) × List ((Nat × Nat) × (Nat × Nat) × Int) × Nat × Bool × List Nat × List tG
/-- a loop that runs: method, place, annotation, the first new atom, locals, facts, constraints at its head -/
abbrev tLp : Type := Nat × Nat × tAn × Nat × List (Nat × aV) × tF × aC
/-- a contract: method, arguments ((0, r, _, _) the cell r, (1, _, least, greatest) an int), bounds of the answer, what may be written, depth, cells copied, what places must hold -/
abbrev tCt : Type := Nat × List (Nat × Nat × Int × Int) × Option (Int × Int) × List tG × Nat × List (Nat × Nat) × List (Nat × Nat × Int × Int)
abbrev tLf_ : Type := (aFr ⊕ Option aV) × tF × aC
/-- points: a loop's head, a local to split, a stop; contracts -/
abbrev tKt : Type := (Nat → Nat → Option (tAn ⊕ Option Nat)) × List tCt
def tWi (cs : aC) (v : aV) (lo hi : Int) : Bool := tIsI v && (match tBd cs v with
  | (l, h) => ile lo l && ile h hi)
def tVals (cs : aC) (lv : List (Nat × aV)) : List (Nat × Int × Int) → Option (List aV)
  | [] => some []
  | (k, lo, hi) :: ks => match alg k lv, tVals cs lv ks with
    | some v, some r => bif tWi cs v lo hi then some (v :: r) else none
    | _, _ => none
/-- a place's bounds by its type -/
def tPty (c k : Nat) : Option (Int × Int) := match tTy c with
  | some (.inl (n, _, regs)) => bif Nat.blt k n then some (tRd regs (Int.ofNat k) (Int.ofNat k) (some (c, 0, Int.ofNat k, 0))) else none
  | some (.inr (_, fts)) => (match fts[k]? with
    | some (1, _, lo, hi) => some (lo, hi)
    | _ => none)
  | none => none
/-- the places' values; fst: what isn't known lies within the type's bounds -/
def tElv (fst : Bool) (cs : aC) (h : tF) : List (Nat × Nat × Int × Int) → Option (List aV)
  | [] => some []
  | (c, k, lo, hi) :: ks => match tElv fst cs h ks with
    | none => none
    | some r => match tFind h (c, 0, Int.ofNat k, 0) with
      | some v => bif tWi cs v lo hi then some (v :: r) else none
      | none => bif fst then (match tPty c k with
        | some (a, z) => bif ile lo a && ile z hi then some ((2, 0, lo, hi) :: r) else none
        | none => none) else none
def tNth (vs : List aV) (lv : List (Nat × aV)) (p : Nat × Nat) : Option aV := match p with
  | (0, j) => vs[j]?
  | (_, k) => alg k lv
def tDiffs (cs : aC) (vs : List aV) (lv : List (Nat × aV)) : List ((Nat × Nat) × (Nat × Nat) × Int) → Bool
  | [] => true
  | (p, q, d) :: ps => (match tNth vs lv p, tNth vs lv q with
    | some x, some z => tIsI x && tIsI z && tImp cs x z d
    | _, _ => false) && tDiffs cs vs lv ps
def tAtomP (base : Nat) (lv : List (Nat × aV)) (p : Nat × Nat) : Option Nat := match p with
  | (0, j) => some (base + j)
  | (_, k) => match alg k lv with
    | some (4, i, 0, _) => some i
    | _ => none
def tDcs (base : Nat) (lv : List (Nat × aV)) : List ((Nat × Nat) × (Nat × Nat) × Int) → Option (List (Nat × Nat × Int))
  | [] => some []
  | (p, q, d) :: ps => match tAtomP base lv p, tAtomP base lv q, tDcs base lv ps with
    | some i, some j, some r => some ((i, j, d) :: r)
    | _, _, _ => none
def tNewL : Nat → List (Nat × Int × Int) → List (Nat × aV)
  | _, [] => []
  | j, (k, _, _) :: ks => (k, (4, j, 0, 0)) :: tNewL (j + 1) ks
def tNewE : Nat → List (Nat × Nat × Int × Int) → tF
  | _, [] => []
  | j, (c, k, _, _) :: ks => ((c, 0, Int.ofNat k, 0), (4, j, 0, 0)) :: tNewE (j + 1) ks
/-- the kept locals -/
def tKept (locs : List (Nat × Int × Int)) (dead : List Nat) (lv : List (Nat × aV)) : List (Nat × aV) := lv.filter (fun q => !(locs.any (fun l => Nat.beq l.1 q.1)) && !(dead.any (fun k => Nat.beq k q.1)))
def tMissW (cs : aC) (W : List tG) (p : tP) : Bool := W.all (fun g => tMiss cs g p)
/-- a side of a difference is a new number or a kept atom -/
def tSide (locs : List (Nat × Int × Int)) (dead : List Nat) (p : Nat × Nat) : Bool := match p with
  | (0, _) => true
  | (_, k) => !(locs.any (fun l => Nat.beq l.1 k)) && !(dead.any (fun j => Nat.beq j k))
/-- at a loop's head for the first time -/
def tHead (an : tAn) (y pc : Nat) (lv : List (Nat × aV)) (h : tF) (cs : aC) : Option tLp := match an with
  | (_, locs, els, ds, _, _, dead, W) => match tVals cs lv locs, tElv true cs h els, tDcs cs.1.length lv ds with
    | some v1, some v2, some dcs => bif tDiffs cs (v1 ++ v2) lv ds && ds.all (fun q => tSide locs dead q.1 && tSide locs dead q.2.1) then
        some (y, pc, an, cs.1.length, tNewL cs.1.length locs ++ tKept locs dead lv, tNewE (cs.1.length + locs.length) els ++ h.filter (fun q => tMissW cs W q.1), (cs.1 ++ (locs.map (fun q => (q.2.1, q.2.2)) ++ els.map (fun q => (q.2.2.1, q.2.2.2))), dcs ++ cs.2)) else none
    | _, _, _ => none
/-- the kept locals are as they were -/
def tSameK (kept lv : List (Nat × aV)) : Bool := kept.all (fun q => match alg q.1 lv with
  | some v => aSame v q.2
  | none => false)
/-- back at a loop's head -/
def tBack (L : tLp) (lv : List (Nat × aV)) (h : tF) (cs : aC) : Bool := match L with
  | (_, _, (_, locs, els, ds, me, up, dead, _), base, lv0, _, _) => match tVals cs lv locs, tElv false cs h els with
    | some v1, some v2 => tSameK (lv0.drop locs.length) lv && tDiffs cs (v1 ++ v2) lv ds && (match (v1 ++ v2)[me]? with
      | some x => bif up then tImp cs (4, base + me, 0, 0) x (-1) else tImp cs x (4, base + me, 0, 0) (-1)
      | none => false)
    | _, _ => false
def tFindL (act : List tLp) (y pc : Nat) : Option tLp := match act with
  | [] => none
  | L :: l => bif Nat.beq L.1 y && Nat.beq L.2.1 pc then some L else tFindL l y pc
/-- the loops that a place lies in -/
def tDrop (act : List tLp) (pc : Nat) : List tLp := match act with
  | [] => []
  | L :: l => bif Nat.ble L.2.1 pc && Nat.ble pc L.2.2.1.1 then L :: l else tDrop l pc
def tWs (act : List tLp) : List (List tG) := act.map (fun L => L.2.2.1.2.2.2.2.2.2.2)
/-- a method's locals -/
def tEnt (cs : aC) : Nat → List aV → List (Nat × aV) × aC
  | _, [] => ([], cs)
  | i, v :: vs => bif tIsI v then (match tAtm cs v with
    | (v1, c1) => match tEnt c1 (i + 1) vs with
      | (l, c2) => ((i, v1) :: l, c2)) else (match tEnt cs (i + aCat v) vs with
    | (l, c2) => ((i, v) :: l, c2))
def tArg (cs : aC) : List (Nat × Nat × Int × Int) → List aV → Bool
  | [], [] => true
  | (0, r, _, _) :: as, v :: vs => Nat.beq v.1 1 && Nat.beq v.2.1 r && tArg cs as vs
  | (_, _, l, u) :: as, v :: vs => tWi cs v l u && tArg cs as vs
  | _, _ => false
/-- the cells are those of a contract -/
def tRfm : List (Nat × Nat × Int × Int) → List aV → Bool
  | (0, r, _, _) :: as, v :: vs => Nat.beq v.2.1 r && tRfm as vs
  | _ :: as, _ :: vs => tRfm as vs
  | _, _ => true
def tFc (cts : List tCt) (y : Nat) (vs : List aV) : Option tCt := match cts with
  | [] => none
  | ct :: cts => bif Nat.beq ct.1 y && tRfm ct.2.1 vs then some ct else tFc cts y vs
/-- a call by its contract -/
def tApp (ct : tCt) (d : Nat) (Ws : List (List tG)) (vs : List aV) (h : tF) (cs : aC) : Option (List (Option aV × tF × aC)) := match ct with
  | (_, as, res, W, dn, cp, pre) => bif tArg cs as vs && Nat.ble dn d && ((tElv false cs h pre).isSome && pre.all (fun p => Nat.blt p.1 9999)) && Ws.all (fun w => W.all (fun g => tSub g w)) then
    (match cp.flatMap (fun ab => (h.filter (fun q => Nat.beq q.1.1 ab.1)).map (fun q => ((ab.2, q.1.2), q.2))) ++ h.filter (fun q => tMissW cs W q.1) with
    | h' => match res with
      | none => some [(none, h', cs)]
      | some (l, u) => bif ieq l u then some [(some (kI l), h', cs)] else some [(some (4, cs.1.length, 0, 0), h', (cs.1 ++ [(l, u)], cs.2))]) else none
abbrev tRec : Type := Bool → Nat → List (List tG) → List tLp → aFr → tF → aC → Option (List tLf_)
def tColl {α β : Type} (f : α → Option (List β)) : List α → Option (List β)
  | [] => some []
  | a :: l => match f a, tColl f l with
    | some x, some r => some (x ++ r)
    | _, _ => none
/-- behind a call -/
def tAft (rec : tRec) (sc : Bool) (d : Nat) (Ws : List (List tG)) (act : List tLp) (fr : aFr) (lf : Option aV × tF × aC) : Option (List tLf_) := rec sc d Ws act (fr.1, fr.2.1, fr.2.2.1, lf.1.toList ++ fr.2.2.2) lf.2.1 lf.2.2
/-- the ends of a method; none where it was stopped -/
def tEnds : List tLf_ → Option (List (Option aV × tF × aC))
  | [] => some []
  | (.inr r, h, cs) :: l => match tEnds l with
    | some m => some ((r, h, cs) :: m)
    | none => none
  | (.inl _, _, _) :: _ => none
def tNx (K : tKt) (rec : tRec) (sc : Bool) (d : Nat) (Ws : List (List tG)) (act : List tLp) (h : tF) (b : aC × tRs) : Option (List tLf_) := match b.2 with
  | .inl (fr', h') => rec sc d Ws act fr' h' b.1
  | .inr (.inl (y', vs, fr')) => match d with
    | 0 => none
    | d' + 1 => match tFc K.2 y' vs with
      | some ct => (match tApp ct d' (tWs act ++ Ws) vs h b.1 with
        | none => none
        | some l => tColl (tAft rec sc (d' + 1) Ws act fr') l)
      | none => match tEnt b.1 0 vs with
        | (lv, cs') => match rec false d' (tWs act ++ Ws) [] (y', 0, lv, []) h cs' with
          | none => none
          | some lfs => match tEnds lfs with
            | none => none
            | some l => tColl (tAft rec sc (d' + 1) Ws act fr') l
  | .inr (.inr r) => some [(.inr r, h, b.1)]
def tGn (K : tKt) (rec : tRec) (sc : Bool) (d : Nat) (Ws : List (List tG)) (act : List tLp) (q : mMd) (y pc : Nat) (lv : List (Nat × aV)) (st : List aV) (h : tF) (cs : aC) : Option (List tLf_) := match tStep sc (tWs act ++ Ws) d q y pc lv st h cs with
  | none => none
  | some brs => tColl (tNx K rec sc d Ws act h) brs
/-- a local of few values is split -/
def tSpl (rec : tRec) (sc : Bool) (d : Nat) (Ws : List (List tG)) (act : List tLp) (fr : aFr) (h : tF) (cs : aC) (k : Nat) (go : Option (List tLf_)) : Option (List tLf_) := match alg k fr.2.2.1 with
  | some (4, i, _, _) => (match cs.1[i]? with
    | some (l, u) => bif ilt l u && ilt (u - l) 60 then tColl (fun (j : Nat) => tColl (fun c => rec sc d Ws act fr h c) (aFeas (cs.1.set i (l + Int.ofNat j, l + Int.ofNat j), cs.2))) (List.range (u - l + 1).toNat) else go
    | none => go)
  | _ => go
def tRunA (K : tKt) (rec : tRec) (sc : Bool) (d : Nat) (Ws : List (List tG)) (act : List tLp) (q : mMd) (fr : aFr) (h : tF) (cs : aC) : Option (List tLf_) := match K.1 fr.1 fr.2.1 with
  | none => tGn K rec sc d Ws act q fr.1 fr.2.1 fr.2.2.1 fr.2.2.2 h cs
  | some (.inr none) => some [(.inl fr, h, cs)]
  | some (.inr (some k)) => tSpl rec sc d Ws act fr h cs k (tGn K rec sc d Ws act q fr.1 fr.2.1 fr.2.2.1 fr.2.2.2 h cs)
  | some (.inl an) => match fr.2.2.2 with
    | [] => (match tFindL act fr.1 fr.2.1 with
      | some L => bif tBack L fr.2.2.1 h cs then some [] else none
      | none => match tHead an fr.1 fr.2.1 fr.2.2.1 h cs with
        | none => none
        | some L => tGn K rec sc d Ws (L :: act) q fr.1 fr.2.1 L.2.2.2.2.1 [] L.2.2.2.2.2.1 L.2.2.2.2.2.2)
    | _ => none
def tRun (K : tKt) : Nat → tRec
  | 0, _, _, _, _, _, _, _ => none
  | n + 1, sc, d, Ws, act, fr, h, cs => match mjM fr.1 with
    | none => none
    | some q => tRunA K (tRun K n) sc d Ws (tDrop act fr.2.1) q fr h cs
