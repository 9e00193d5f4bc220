/-! THE SMALL MACHINE IS SOUND -/
def mSound (n : Nat) : Prop := ∀ (l : Launch) (g : mG) (sc : Option (Nat × (Nat → Int32))) (d y pc : Nat) (lv : List (Nat × Value)) (st : List Value) (M M' : mHe) (r : Option Value), mRun sc n d (y, pc, lv, st) M = some (r, M') →
  ∀ (q : mMd), mjM y = some q → ∀ (p : Program) (e : Env) (R : Room) (s : State) (m : MethodId) (args : Array Value) (below : List Frame) (meth : Method) (c : Code) (H : Heap) (locs : List Loc) (cells slots k0 s0 : Nat) (Q : State → Prop) (ls : Array Slot),
  mFx g p s m args meth c R d q → (∀ L xs, sc = some (L, xs) → va_X (gb g) L xs s s.heap ∧ gb g < g0 g) → lv_has ls q.2.2.1 (mTl g lv) → mDy g s H locs M cells slots k0 s0 → M'.length ≤ R.cells + k0 → mSl M' ≤ R.slots + s0 →
  (∀ (pc' n' : Nat) (i : Instr) (ls' : Array Slot) (st' : List Value) (H' : Heap) (locs' : List Loc) (cells' slots' : Nat), decode q.2.1 pc' = .ok (i, n') → mOp7 q.2.2.2.1 n' st' i = some (.inr (.inr r)) → mDy g s H' locs' M' cells' slots' k0 s0 →
    W p l e R s m args below meth c H' locs' cells' slots' Q (F0 m pc' ls' (mTs g st'))) →
  W p l e R s m args below meth c H locs cells slots Q (F0 m pc ls (mTs g st))
theorem mOp7_noC {rt : Option FieldType} {n : Nat} {st : List Value} {i : Instr} {z : Nat × List Value × mFr} (h : mOp7 rt n st i = some (.inr (.inl z))) : False := by
  unfold mOp7 at h
  split at h
  · split at h
    · split at h <;> cases h
    · cases h
    · cases h
    · cases h
  · cases h
set_option maxHeartbeats 4000000 in
theorem mOp6_noR {d own y pc n : Nat} {lv : List (Nat × Value)} {st : List Value} {M : mHe} {i : Instr} {r : Option Value} (h : mOp6 d own y pc n lv st M i = some (.inr (.inr r))) : False := by
  have hc : ∀ {y2 pc2 : Nat} {lv2 : List (Nat × Value)} {rest : List Value} {N : mHe} {y3 : Nat} {vs : List Value}, mCall y2 pc2 lv2 rest N y3 vs = some (.inr (.inr r)) → False := by
    intro y2 pc2 lv2 rest N y3 vs hh
    unfold mCall at hh
    split at hh
    · cases hh
    · split at hh <;> cases hh
  unfold mOp6 at h
  split at h <;> (try split at h) <;> (try split at h) <;> (try split at h) <;> (try split at h) <;> (try split at h) <;> (try split at h) <;> (try split at h) <;> first | exact (mGo_no h).elim | exact (hc h).elim | cases h
set_option maxHeartbeats 4000000 in
/-- a method's contract, out of what the small machine answers -/
theorem mMet_of {n : Nat} (hS : mSound n) {l : Launch} {g : mG} {d y : Nat} {vs : List Value} {M M1 : mHe} {r : Option Value} {q : mMd} (h : mRun none n d (y, 0, lv_args 0 vs, []) M = some (r, M1)) (hq : mjM y = some q) (hlen : (lg_sl vs).length ≤ q.2.2.1) {mc ms : Nat} (hc : mc + M.length = M1.length) (hs : ms + mSl M = mSl M1) :
    Met l q.1 (mjMw q :: mjT) (mRm d mc ms) (mPc g vs M) (mQ g r M1) mc ms (gO g) := by
  refine mMet (mjM_word hq).2 (mjM_cls hq).1 hlen ?_
  intro p e s m below meth c ls F hD hl
  refine hS l g none d y 0 (lv_args 0 vs) [] M M1 r h q hq p e (mRm d mc ms) s m _ below meth c s.heap [] 0 0 M.length (mSl M) _ ls F (fun L xs hh => by cases hh) hl hD (by show _ ≤ mc + _; omega) (by show _ ≤ ms + _; omega) ?_
  intro pc' n' i ls' st' H' locs' cells' slots' hdg h7 hD'
  have e1 : cells' = mc := by have := hD'.2.2.2.2.1; omega
  have e2 : slots' = ms := by have := hD'.2.2.2.2.2.1; omega
  subst e1; subst e2
  exact mRet F hD' hdg h7
set_option maxHeartbeats 4000000 in
theorem mSound_all : ∀ n : Nat, mSound n := by
  intro n
  induction n with
  | zero => intro l g sc d y pc lv st M M' r h; cases h
  | succ n ih =>
    intro l g sc d y pc lv st M M' r h q hq p e R s m args below meth c H locs cells slots k0 s0 Q ls F hsc hl hD hrc hrs kk
    have hai : (Cond.arrayClass .int).before args s = true := F.2.2.2.2.1 _ mjArr
    unfold mRun at h
    have hstep : mStep sc d (y, pc, lv, st) M = (match decode q.2.1 pc with
      | .error _ => none
      | .ok (i, k) => mOp sc d q y pc k lv st M i) := by
      unfold mStep
      rw [hq]
      dsimp only
      cases decode q.2.1 pc with
      | error a => rfl
      | ok x => rfl
    rw [hstep] at h
    split at h
    · cases h
    · next fr1 M1 hs =>
      obtain ⟨y1, pc1, lv1, st1⟩ := fr1
      have hlen := mRun_len _ _ _ _ _ _ _ h
      split at hs
      · cases hs
      · next i k hdg =>
        have go : y1 = y → ∀ (ls' : Array Slot) (H' : Heap) (locs' : List Loc) (cells' slots' : Nat), lv_has ls' q.2.2.1 (mTl g lv1) → mDy g s H' locs' M1 cells' slots' k0 s0 → W p l e R s m args below meth c H' locs' cells' slots' Q (F0 m pc1 ls' (mTs g st1)) := by
          intro hy ls' H' locs' cells' slots' hl' hD'
          subst hy
          exact ih l g sc d y1 pc1 lv1 st1 M1 M' r h q hq p e R s m args below meth c H' locs' cells' slots' k0 s0 Q ls' F hsc hl' hD' hrc hrs kk
        unfold mOp at hs
        rcases mOr_or hs with hs | hs
        · exact mOp1_W F hD.2.2.2.1 hdg hl hs (fun hy hMM ls' hl' => go hy ls' H locs cells slots hl' (by rw [hMM]; exact hD))
        rcases mOr_or hs with hs | hs
        · exact mOp2_W F hD.2.2.2.1 hdg hl hs (fun hy hMM ls' hl' => go hy ls' H locs cells slots hl' (by rw [hMM]; exact hD))
        rcases mOr_or hs with hs | hs
        · exact mOp3_W F hD.2.2.2.1 hdg hl hs (fun hy hMM ls' hl' => go hy ls' H locs cells slots hl' (by rw [hMM]; exact hD))
        rcases mOr_or hs with hs | hs
        · exact mOp4_W F hD.2.2.2.1 hdg hl hs (fun hy hMM ls' hl' => go hy ls' H locs cells slots hl' (by rw [hMM]; exact hD))
        rcases mOr_or hs with hs | hs
        · exact mOp5_W F hsc hdg hl hD hai hs (by omega) (by omega) go
        rcases mOr_or hs with hs | hs
        · have e1 : M1 = M := mOp6_M hs
          exact mOp6_W F hdg hl hD (by rw [e1] at hlen; omega) (by rw [e1] at hlen; omega) hs go
        · exact (mOp7_no hs).elim
    · next y2 vs fr2 hs =>
      split at h
      · cases h
      · next d' =>
        split at h
        · cases h
        · next r1 M1 hr1 =>
          have hlen1 := mRun_len _ _ _ _ _ _ _ hr1
          have hlen2 := mRun_len _ _ _ _ _ _ _ h
          split at hs
          · cases hs
          · next i k hdg =>
            unfold mOp at hs
            rcases mOr_or hs with hs | hs
            · exact (mOp1_no hs).elim
            rcases mOr_or hs with hs | hs
            · exact (mOp2_no hs).elim
            rcases mOr_or hs with hs | hs
            · exact (mOp3_no hs).elim
            rcases mOr_or hs with hs | hs
            · exact (mOp4_no hs).elim
            rcases mOr_or hs with hs | hs
            · exact (mOp5_no hs).elim
            rcases mOr_or hs with hs | hs
            · refine mOp6_C (M1 := M1) (r := r1) (mc := M1.length - M.length) (ms := mSl M1 - mSl M) (d' := d') F rfl hdg hl hD (by omega) (by omega) (by omega) (by omega) hs (fun q2 hq2 hle h13 => mMet_of ih hr1 hq2 hle (by omega) (by omega)) ?_
              intro pc' rest hfr2 H' locs' cells' slots' hD'
              subst hfr2
              exact ih l g sc (d' + 1) y pc' lv (r1.toList ++ rest) M1 M' r h q hq p e R s m args below meth c H' locs' cells' slots' k0 s0 Q ls F hsc hl hD' hrc hrs kk
            · exact (mOp7_noC hs).elim
    · next r2 hs =>
      simp only [Option.some.injEq, Prod.mk.injEq] at h
      obtain ⟨rfl, rfl⟩ := h
      split at hs
      · cases hs
      · next i k hdg =>
        unfold mOp at hs
        rcases mOr_or hs with hs | hs
        · exact (mOp1_no hs).elim
        rcases mOr_or hs with hs | hs
        · exact (mOp2_no hs).elim
        rcases mOr_or hs with hs | hs
        · exact (mOp3_no hs).elim
        rcases mOr_or hs with hs | hs
        · exact (mOp4_no hs).elim
        rcases mOr_or hs with hs | hs
        · exact (mOp5_no hs).elim
        rcases mOr_or hs with hs | hs
        · exact (mOp6_noR hs).elim
        · exact kk pc k i ls st H locs cells slots hdg hs hD
