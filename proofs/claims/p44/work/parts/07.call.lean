/-! CONTRACTS OVER THE SMALL MACHINE's WORLDS, and calls -/
def mRm (d mc ms : Nat) : Room := { frames := d, cells := mc, slots := ms, locals := 300 * d }
def mEnd (g : mG) (M : mHe) (t : State) : Prop := t.heap.size = g0 g + M.length ∧ va_P (gD g) vwCl (mW g M) t.heap
def mPc (g : mG) (vs : List Value) (M : mHe) : Array Value → State → Prop := va_Pc (mTs g vs) (fun U => mEnd g M U ∧ mX g U U.heap)
def mQ (g : mG) (r : Option Value) (M : mHe) : Array Value → State → Outcome → State → Prop := match r with
  | none => va_Qv (fun _ : Unit => True) (fun _ t => mEnd g M t) (gO g)
  | some (.int v) => va_Qi (fun x (_ : Unit) => x = v) (fun _ t => mEnd g M t) (gO g)
  | some (.ref k) => va_Qr (fun _ : Unit => True) (fun _ a t => a = mAd g k ∧ mEnd g M t) (gO g)
  | _ => fun _ _ _ _ => False
theorem mX_call {g : mG} {U : State} {H : Heap} {jf : JFrame} {mk : MethodId} {a : Array Value} (h : mX g U H) : mX g (U.calling jf mk a) H :=
  ⟨va_K.moved (u := U) (U := U.calling jf mk a) (Vm.Alike.refl U.vm) h.1, fun w hw => va_Nw.same (u := U) (U := U.calling jf mk a) rfl rfl (h.2.1 w hw), fun w hw => vk_R.same (u := U) (U := U.calling jf mk a) rfl (h.2.2.1 w hw), vk_S.moved (u := U) (U := U.calling jf mk a) (Vm.Alike.refl U.vm) h.2.2.2.1, va_Z.moved (u := U) (U := U.calling jf mk a) (Vm.Alike.refl U.vm) h.2.2.2.2.1, h.2.2.2.2.2.imp fun z hz => ⟨hz.1, va_Z.moved (u := U) (U := U.calling jf mk a) (Vm.Alike.refl U.vm) hz.2⟩⟩
theorem mX_warm {g : mG} {s U : State} {H : Heap} (hW : s.WarmedH U.vm) (h : mX g s H) : mX g U H :=
  ⟨va_K.moved hW.alike h.1, fun w hw => va_Nw.warmM hW (h.2.1 w hw), fun w hw => vk_R.warm hW (h.2.2.1 w hw), vk_S.moved hW.alike h.2.2.2.1, va_Z.moved hW.alike h.2.2.2.2.1, h.2.2.2.2.2.imp fun z hz => ⟨hz.1, va_Z.moved hW.alike hz.2⟩⟩
theorem mPc_blind (g : mG) (vs : List Value) (M : mHe) : FrameBlind (mPc g vs M) := fun a U jf mk q => ⟨q.1, q.2.1, mX_call q.2.2⟩
theorem lv_args_tr (g : mG) : ∀ (vs : List Value) (k : Nat), lv_args k (mTs g vs) = mTl g (lv_args k vs) := by
  intro vs
  induction vs with
  | nil => intro k; rfl
  | cons v vs ih =>
    intro k
    rw [mTs_cons, lv_args, lv_args, ih, mTr_cat]
    rfl
theorem lg_sl_tr (g : mG) (vs : List Value) : (lg_sl (mTs g vs)).length = (lg_sl vs).length := by
  induction vs with
  | nil => rfl
  | cons v vs ih =>
    rw [mTs_cons]
    simp only [lg_sl, List.flatMap_cons, List.length_append, mTr_cat] at ih ⊢
    rw [ih]
    split <;> rfl
set_option maxHeartbeats 4000000 in
/-- a method's contract out of its walk -/
theorem mMet {l : Launch} {g : mG} {q : mMd} {d mc ms : Nat} {vs : List Value} {M M' : mHe} {r : Option Value} (hpl : Jvm.plainName q.1.cls = true) (hown : mjC q.2.2.2.2 = q.1.cls) (hlen : (lg_sl vs).length ≤ q.2.2.1)
    (body : ∀ (p : Program) (e : Env) (s : State) (m : MethodId) (below : List Frame) (meth : Method) (c : Code) (ls : Array Slot), mFx g p s m (mTs g vs).toArray meth c (mRm d mc ms) d q → mDy g s s.heap [] M 0 0 M.length (mSl M) → lv_has ls q.2.2.1 (mTl g (lv_args 0 vs)) →
      W p l e (mRm d mc ms) s m (mTs g vs).toArray below meth c s.heap [] 0 0 (MQ below (mQ g r M') (mTs g vs).toArray s mc ms (gO g)) (F0 m 0 ls [])) :
    Met l q.1 (mjMw q :: mjT) (mRm d mc ms) (mPc g vs M) (mQ g r M') mc ms (gO g) := by
  refine Met.ofW (cc := q.2.1) (maxL := q.2.2.1) (ret := q.2.2.2.1) hpl rfl ?_
  intro p e s m args below meth c s₁ B hml hv
  obtain ⟨rfl, ⟨hsz, hP⟩, hX⟩ := hv
  have hts := atoms_spec (ws := mjMw q :: mjT) B.pre
  have ho : s.vm.findClass q.1.cls = some m.cls := findClass_of_methodNamed B.named
  have hl := lv_entry (mTs g vs) (n := q.2.2.1) (by rw [lg_sl_tr]; exact hlen)
  rw [lg_entry_eq]
  rw [lv_args_tr] at hl
  exact body p e s m below meth c _ ⟨B.exec, B.bytes, hml, by rw [hown]; exact ho, fun w hw => hts w (List.mem_cons_of_mem _ hw), B.returns, B.notSynchronized, fun h => by rw [← h]; exact (name_of_methodNamed B.named B.method).1, Nat.le_refl _, Nat.le_refl _⟩ ⟨hsz, hP, va_S.rf, hX, by omega, by omega, hsz⟩ hl
section MJC
variable {p : Program} {l : Launch} {e : Env} {R : Room} {s : State} {m : MethodId} {args : Array Value} {below : List Frame} {meth : Method} {c : Code} {H : Heap} {locs : List Loc} {cells slots k0 s0 mc ms : Nat} {Q : State → Prop}
variable {g : mG} {d : Nat} {q : mMd} {y y' pc pc' n : Nat} {lv lv' : List (Nat × Value)} {st st' : List Value} {M M' M1 : mHe} {i : Instr} {ls : Array Slot} {r : Option Value}
set_option maxHeartbeats 4000000 in
/-- a method's end -/
theorem mRet (F : mFx g p s m args meth c R d q) (hD : mDy g s H locs M cells slots k0 s0) (hdg : decode q.2.1 pc = .ok (i, n)) (h : mOp7 q.2.2.2.1 n st i = some (.inr (.inr r))) :
    W p l e R s m args below meth c H locs cells slots (MQ below (mQ g r M) args s cells slots (gO g)) (F0 m pc ls (mTs g st)) := by
  obtain ⟨hx, hb, hml, hown, hts, hr, hlk, hnm, hfr, hlo⟩ := F
  obtain ⟨hsz, hP, hS, hX, hcl, hsl, hz⟩ := hD
  unfold mOp7 at h
  split at h
  · next hn =>
    subst hn
    split at h
    · next v ty hty =>
      split at h
      · next hnr =>
        simp only [Option.some.injEq, Sum.inr.injEq] at h
        subst h
        exact W.zret hx hb (by rw [hr]; exact hty) hnr (fun t ht hW => ⟨⟨v, (), rfl, rfl, ⟨by rw [ht]; exact hsz, by rw [ht]; exact hP⟩⟩, hS.F ht⟩) hS.2.2 hdg hlk
      · cases h
    · next hty =>
      simp only [Option.some.injEq, Sum.inr.injEq] at h
      subst h
      exact W.vret hx hb (by rw [hr]; exact hty) (fun t ht hW => ⟨⟨(), rfl, trivial, ⟨by rw [ht]; exact hsz, by rw [ht]; exact hP⟩⟩, hS.F ht⟩) hS.2.2 hdg hlk
    · next a nm hty =>
      simp only [Option.some.injEq, Sum.inr.injEq] at h
      subst h
      exact W.aret hx hb (by rw [hr]; exact hty) (Or.inl ⟨nm, rfl⟩) (Or.inr ⟨mAd g a, rfl⟩) (fun t ht hW => ⟨⟨(), mAd g a, rfl, trivial, rfl, ⟨by rw [ht]; exact hsz, by rw [ht]; exact hP⟩⟩, hS.F ht⟩) hS.2.2 hdg hlk
    · cases h
  · cases h
set_option maxHeartbeats 4000000 in
/-- behind a call -/
theorem mRunW {st0 rest : List Value} {a : Array Value} (hr : va_Run p l e R s m args below meth c H locs cells slots mc ms (F0 m pc ls st0) rest (mQ g r M1 a) (gO g)) (hD : mDy g s H locs M cells slots k0 s0) (hc : mc + M.length = M1.length) (hs : ms + mSl M = mSl M1)
    (kk : ∀ (H1 : Heap) (locs1 : List Loc), mDy g s H1 locs1 M1 (cells + mc) (slots + ms) k0 s0 → W p l e R s m args below meth c H1 locs1 (cells + mc) (slots + ms) Q (F0 m (pc + 3) ls (mTs g r.toList ++ rest))) :
    W p l e R s m args below meth c H locs cells slots Q (F0 m pc ls st0) := by
  obtain ⟨hsz, hP, hS, hX, hcl, hsl, hz⟩ := hD
  have hg : g0 g ≤ s.heap.size := by omega
  have go : ∀ (t : State) (H1 : Heap) (locs1 : List Loc), t.heap = H1 → mEnd g M1 t → va_S (gO g) s.heap H1 locs1 → mDy g s H1 locs1 M1 (cells + mc) (slots + ms) k0 s0 := by
    intro t H1 locs1 ht hE hS1
    subst ht
    exact ⟨hE.1, hE.2, hS1, mX_kept hX (mDy_keep hS hS1 hg), by omega, by omega, hz⟩
  unfold mQ at hr
  split at hr
  · exact va_callv hr hS (fun q _ h => h) (fun q h => h) (fun u t H1 locs1 ht _ _ hE _ _ hS1 => kk H1 locs1 (go t H1 locs1 ht hE hS1))
  · exact va_calli hr hS (fun q _ h => h) (fun q h => h) (fun v u t H1 locs1 ht _ hv hE _ _ hS1 => by subst hv; exact kk H1 locs1 (go t H1 locs1 ht hE hS1))
  · exact va_callr hr hS (fun q _ h => h) (fun q h => h) (fun u ra t H1 locs1 ht _ _ hE _ _ hS1 => by rw [hE.1]; exact kk H1 locs1 (go t H1 locs1 ht hE.2 hS1))
  · intro T hT X
    obtain ⟨v, st₀, t, T', L, h0, X', hL, e1, e2, hF, stt⟩ := hr T hT X
    exact hF.elim
/-- what a call needs of the world -/
theorem mPreS {vs : List Value} (hD : mDy g s H locs M cells slots k0 s0) : PreS s H (mPc g vs M) (mTs g vs) := by
  obtain ⟨hsz, hP, hS, hX, hcl, hsl, hz⟩ := hD
  refine ⟨mPc_blind g vs M, fun U hU hW => ⟨rfl, ⟨by rw [hU]; exact hsz, by rw [hU]; exact hP⟩, ?_⟩⟩
  rw [hU]
  exact mX_warm hW hX
end MJC
