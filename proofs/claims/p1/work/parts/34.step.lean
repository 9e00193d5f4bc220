/-! A STEP OF THE ABSTRACT MACHINE HOLDS WHAT THE SMALL ONE DOES; runs and more fuel -/
/-- which group an instruction is of -/
def mGr (i : Instr) : Nat := match i with
  | .iload_n _ => 1
  | .aload_n _ => 1
  | .lload_n _ => 1
  | .iload _ => 1
  | .aload _ => 1
  | .lload _ => 1
  | .iconst _ => 1
  | .lconst _ => 1
  | .bipush _ => 1
  | .sipush _ => 1
  | .ldc _ => 1
  | .ldc_w _ => 1
  | .ldc2_w _ => 1
  | .istore_n _ => 2
  | .istore _ => 2
  | .astore_n _ => 2
  | .astore _ => 2
  | .iinc _ _ => 2
  | .dup => 2
  | .pop => 2
  | .dup2 => 2
  | .iadd => 3
  | .isub => 3
  | .imul => 3
  | .idiv => 3
  | .irem => 3
  | .iand => 3
  | .ior => 3
  | .ixor => 3
  | .ishl => 3
  | .ishr => 3
  | .iushr => 3
  | .ineg => 3
  | .i2l => 3
  | .ladd => 3
  | .lcmp => 3
  | .goto _ => 4
  | .ifCond _ _ => 4
  | .if_icmp _ _ => 4
  | .tableswitch _ _ _ _ => 4
  | .lookupswitch _ _ => 4
  | .getfield _ => 5
  | .putfield _ => 5
  | .iaload => 5
  | .iastore => 5
  | .arraylength => 5
  | .newarray _ => 5
  | .new _ => 5
  | .invokevirtual _ => 6
  | .invokestatic _ => 6
  | .invokespecial _ => 6
  | .ireturn => 7
  | .return_ => 7
  | .areturn => 7
  | _ => 0
section SEL
variable {own nL y pc n d : Nat} {lv : List (Nat × Value)} {st : List Value} {M : mHe} {i : Instr} {ini : Bool} {sc : Option (Nat × (Nat → Int32))} {rt : Option FieldType}
theorem mG1 {r : (mFr × mHe) ⊕ ((Nat × List Value × mFr) ⊕ Option Value)} (h : mOp1 own y pc n lv st M i = some r) : mGr i = 1 := by
  unfold mOp1 at h
  split at h <;> first | rfl | cases h
theorem mG2 {r : (mFr × mHe) ⊕ ((Nat × List Value × mFr) ⊕ Option Value)} (h : mOp2 nL y pc n lv st M i = some r) : mGr i = 2 := by
  unfold mOp2 at h
  split at h <;> first | rfl | cases h
theorem mG3 {r : (mFr × mHe) ⊕ ((Nat × List Value × mFr) ⊕ Option Value)} (h : mOp3 y pc n lv st M i = some r) : mGr i = 3 := by
  unfold mOp3 at h
  split at h
  · split at h <;> first | rfl | cases h
  · cases h
theorem mG4 {r : (mFr × mHe) ⊕ ((Nat × List Value × mFr) ⊕ Option Value)} (h : mOp4 y pc n lv st M i = some r) : mGr i = 4 := by
  unfold mOp4 at h
  split at h <;> first | rfl | cases h
theorem mG5 {r : (mFr × mHe) ⊕ ((Nat × List Value × mFr) ⊕ Option Value)} (h : mOp5 sc ini own y pc n lv st M i = some r) : mGr i = 5 := by
  unfold mOp5 at h
  split at h <;> first | rfl | cases h
theorem mG6 {r : (mFr × mHe) ⊕ ((Nat × List Value × mFr) ⊕ Option Value)} (h : mOp6 d own y pc n lv st M i = some r) : mGr i = 6 := by
  unfold mOp6 at h
  split at h <;> first | rfl | cases h
theorem mG7 {r : (mFr × mHe) ⊕ ((Nat × List Value × mFr) ⊕ Option Value)} (h : mOp7 rt n st i = some r) : mGr i = 7 := by
  unfold mOp7 at h
  split at h
  · split at h <;> first | rfl | cases h
  · cases h
theorem mOr_l {a b : mRes} {r : (mFr × mHe) ⊕ ((Nat × List Value × mFr) ⊕ Option Value)} (h : a = some r) : mOr a b = some r := by rw [h]; rfl
theorem mOr_r {a b : mRes} {r : (mFr × mHe) ⊕ ((Nat × List Value × mFr) ⊕ Option Value)} (ha : ∀ s, a ≠ some s) (h : b = some r) : mOr a b = some r := by
  cases a with
  | none => exact h
  | some s => exact absurd rfl (ha s)
end SEL
theorem xR_up {E : List Int} {f f' : mRes} {fr : mFr} {M : mHe} {res : aRs} (hf : ∀ r, f = some r → f' = some r) (h : xR E f fr M res) : xR E f' fr M res := by
  unfold xR at h ⊢
  split at h
  · obtain ⟨lv', st', M', h1, h2⟩ := h
    exact ⟨lv', st', M', h1.imp (hf _) id, h2⟩
  · obtain ⟨vs, lv1, st1, h1, h2⟩ := h
    exact ⟨vs, lv1, st1, hf _ h1, h2⟩
  · obtain ⟨r', h1, h2⟩ := h
    exact ⟨r', hf _ h1, h2⟩
/-- the table of instructions says what the code's words say -/
def aTabOk : Prop := ∀ (y : Nat) (q : mMd) (pc : Nat) (e : aIn), mjM y = some q → aTab y pc = some e → decode q.2.1 pc = .ok (e.1, e.2.1) ∧ aChk q.2.2.2.2 e = true
theorem aStep_ok {E : List Int} {cs : aC} {y pc d : Nat} {al : List (Nat × aV)} {ast : List aV} {h : aHe} {lv : List (Nat × Value)} {st : List Value} {M : mHe} {brs : List (aC × aRs)} {G : List (List Nat)} {sa : aSc} {sc : Option (Nat × (Nat → Int32))} {q : mMd}
    (hT : aTabOk) (hq : mjM y = some q) (hE : xE E cs) (hL : xL E al lv) (hS : xS E ast st) (hH : xH E h M) (hsc : xSc E sa sc) (hr : aStep sa G d q y pc al ast h cs = some brs) :
    ∃ b ∈ brs, xE E b.1 ∧ xR E (mStep sc d (y, pc, lv, st) M) (y, pc, lv, st) M b.2 := by
  unfold aStep at hr
  split at hr
  · cases hr
  · next e he =>
    obtain ⟨h1, h2⟩ := hT y q pc e hq he
    have hm : mStep sc d (y, pc, lv, st) M = mOp sc d q y pc e.2.1 lv st M e.1 := by
      unfold mStep
      rw [hq]
      simp only
      rw [h1]
    rw [hm]
    unfold mOp
    rcases aOr_or hr with hr | hr
    · obtain ⟨b, hb, g1, g2⟩ := aOp1_ok (fr := (y, pc, lv, st)) hE hL hS hH h2 hr
      exact ⟨b, hb, g1, xR_up (fun r hf => mOr_l hf) g2⟩
    rcases aOr_or hr with hr | hr
    · obtain ⟨b, hb, g1, g2⟩ := aOp2_ok (fr := (y, pc, lv, st)) hE hL hS hH hr
      exact ⟨b, hb, g1, xR_up (fun r hf => mOr_r (fun s hs => by have := mG1 hs; have := mG2 hf; omega) (mOr_l hf)) g2⟩
    rcases aOr_or hr with hr | hr
    · obtain ⟨b, hb, g1, g2⟩ := aOp3_ok hE hL hS hH rfl hr
      exact ⟨b, hb, g1, xR_up (fun r hf => mOr_r (fun s hs => by have := mG1 hs; have := mG3 hf; omega) (mOr_r (fun s hs => by have := mG2 hs; have := mG3 hf; omega) (mOr_l hf))) g2⟩
    rcases aOr_or hr with hr | hr
    · obtain ⟨b, hb, g1, g2⟩ := aOp4_ok hE hL hS hH rfl hr
      exact ⟨b, hb, g1, xR_up (fun r hf => mOr_r (fun s hs => by have := mG1 hs; have := mG4 hf; omega) (mOr_r (fun s hs => by have := mG2 hs; have := mG4 hf; omega) (mOr_r (fun s hs => by have := mG3 hs; have := mG4 hf; omega) (mOr_l hf)))) g2⟩
    rcases aOr_or hr with hr | hr
    · obtain ⟨b, hb, g1, g2⟩ := aOp5_ok hE hL hS hH hsc rfl h2 hr
      exact ⟨b, hb, g1, xR_up (fun r hf => mOr_r (fun s hs => by have := mG1 hs; have := mG5 hf; omega) (mOr_r (fun s hs => by have := mG2 hs; have := mG5 hf; omega) (mOr_r (fun s hs => by have := mG3 hs; have := mG5 hf; omega) (mOr_r (fun s hs => by have := mG4 hs; have := mG5 hf; omega) (mOr_l hf))))) g2⟩
    rcases aOr_or hr with hr | hr
    · obtain ⟨b, hb, g1, g2⟩ := aOp6_ok (fr := (y, pc, lv, st)) hE hL hS hH h2 hr
      exact ⟨b, hb, g1, xR_up (fun r hf => mOr_r (fun s hs => by have := mG1 hs; have := mG6 hf; omega) (mOr_r (fun s hs => by have := mG2 hs; have := mG6 hf; omega) (mOr_r (fun s hs => by have := mG3 hs; have := mG6 hf; omega) (mOr_r (fun s hs => by have := mG4 hs; have := mG6 hf; omega) (mOr_r (fun s hs => by have := mG5 hs; have := mG6 hf; omega) (mOr_l hf)))))) g2⟩
    · obtain ⟨b, hb, g1, g2⟩ := aOp7_ok (fr := (y, pc, lv, st)) (M := M) hE hS hr
      exact ⟨b, hb, g1, xR_up (fun r hf => mOr_r (fun s hs => by have := mG1 hs; have := mG7 hf; omega) (mOr_r (fun s hs => by have := mG2 hs; have := mG7 hf; omega) (mOr_r (fun s hs => by have := mG3 hs; have := mG7 hf; omega) (mOr_r (fun s hs => by have := mG4 hs; have := mG7 hf; omega) (mOr_r (fun s hs => by have := mG5 hs; have := mG7 hf; omega) (mOr_r (fun s hs => by have := mG6 hs; have := mG7 hf; omega) hf)))))) g2⟩
theorem mRun_mono : ∀ (n : Nat) (sc : Option (Nat × (Nat → Int32))) (d : Nat) (fr : mFr) (M : mHe) (x : Option Value × mHe), mRun sc n d fr M = some x → ∀ k, mRun sc (n + k) d fr M = some x := by
  intro n
  induction n with
  | zero => intro sc d fr M x h; cases h
  | succ n ih =>
    intro sc d fr M x h k
    rw [show n + 1 + k = (n + k) + 1 by omega]
    unfold mRun at h ⊢
    split at h
    · cases h
    · next fr' M' hs => exact ih _ _ _ _ _ h k
    · next y vs fr' hs =>
      cases d with
      | zero => cases h
      | succ d =>
        simp only at h ⊢
        split at h
        · cases h
        · next r M1 hc =>
          rw [ih _ _ _ _ _ hc k]
          exact ih _ _ _ _ _ h k
    · next r hs => exact h
/-- fr runs to fr' -/
def mTo (sc : Option (Nat × (Nat → Int32))) (d : Nat) (fr : mFr) (M : mHe) (fr' : mFr) (M' : mHe) : Prop := ∀ N x, mRun sc N d fr' M' = some x → ∃ N', mRun sc N' d fr M = some x
theorem mTo_rf {sc : Option (Nat × (Nat → Int32))} {d : Nat} {fr : mFr} {M : mHe} : mTo sc d fr M fr M := fun N x h => ⟨N, h⟩
theorem mTo_tr {sc : Option (Nat × (Nat → Int32))} {d : Nat} {fr fr1 fr2 : mFr} {M M1 M2 : mHe} (a : mTo sc d fr M fr1 M1) (b : mTo sc d fr1 M1 fr2 M2) : mTo sc d fr M fr2 M2 := fun N x h => by
  obtain ⟨N1, h1⟩ := b N x h
  exact a N1 x h1
theorem mTo_step {sc : Option (Nat × (Nat → Int32))} {d : Nat} {fr fr' : mFr} {M M' : mHe} (h : mStep sc d fr M = some (.inl (fr', M'))) : mTo sc d fr M fr' M' := fun N x hx => ⟨N + 1, by unfold mRun; rw [h]; exact hx⟩
theorem mTo_call {sc : Option (Nat × (Nat → Int32))} {d y N1 : Nat} {vs : List Value} {fr fr' : mFr} {M M1 : mHe} {r : Option Value} (h : mStep sc (d + 1) fr M = some (.inr (.inl (y, vs, fr')))) (hc : mRun none N1 d (y, 0, lv_args 0 vs, []) M = some (r, M1)) : mTo sc (d + 1) fr M (fr'.1, fr'.2.1, fr'.2.2.1, r.toList ++ fr'.2.2.2) M1 := fun N x hx => ⟨(N1 + N) + 1, by
  unfold mRun
  rw [h]
  simp only
  rw [mRun_mono _ _ _ _ _ _ hc N]
  simp only
  rw [show N1 + N = N + N1 by omega]
  exact mRun_mono _ _ _ _ _ _ hx N1⟩
