/-! CONTRACTS OUT OF RUNS; more depth -/
section DMO
variable {own d y pc n : Nat} {lv : List (Nat × Value)} {st : List Value} {M : mHe} {i : Instr} {s : (mFr × mHe) ⊕ ((Nat × List Value × mFr) ⊕ Option Value)} {sc : Option (Nat × (Nat → Int32))}
set_option maxHeartbeats 4000000 in
theorem mOp6_d (h : mOp6 d own y pc n lv st M i = some s) : mOp6 (d + 1) own y pc n lv st M i = some s := by
  have i3 : ∀ {a b c : Prop} {r : Nat}, (a ∧ b ∧ c ∧ r ≤ d) → (a ∧ b ∧ c ∧ r ≤ d + 1) := fun h => ⟨h.1, h.2.1, h.2.2.1, by omega⟩
  have i4 : ∀ {a b c e : Prop} {r : Nat}, (a ∧ b ∧ c ∧ r ≤ d ∧ e) → (a ∧ b ∧ c ∧ r ≤ d + 1 ∧ e) := fun h => ⟨h.1, h.2.1, h.2.2.1, by omega, h.2.2.2.2⟩
  have i1 : ∀ {a : Prop} {r : Nat}, (a ∧ r ≤ d) → (a ∧ r ≤ d + 1) := fun h => ⟨h.1, by omega⟩
  unfold mOp6 at h ⊢
  split at h
  · split at h
    · next hn =>
      rw [if_pos hn]
      split at h
      · exact h
      · next o1 o2 o3 o4 hR =>
        try simp only [hR]
        split at h
        · split at h
          · next hc => rw [if_pos (i3 hc)]; exact h
          · cases h
        · cases h
      · next o1 o2 o3 o4 hR =>
        try simp only [hR]
        split at h
        · split at h
          · next hc => rw [if_pos (i4 hc)]; exact h
          · cases h
        · cases h
      · cases h
    · cases h
  · split at h
    · next hn =>
      rw [if_pos hn]
      split at h
      · exact h
      · exact h
      · next o1 o2 o3 o4 hR =>
        try simp only [hR]
        split at h
        · split at h
          · next hc => rw [if_pos (i1 hc)]; exact h
          · cases h
        · cases h
      · next o1 o2 o3 o4 hR =>
        try simp only [hR]
        split at h
        · split at h
          · next hc => rw [if_pos (i1 hc)]; exact h
          · cases h
        · cases h
      · cases h
    · cases h
  · split at h
    · next hn =>
      rw [if_pos hn]
      split at h
      · exact h
      · exact h
      · next o1 o2 o3 o4 hR =>
        try simp only [hR]
        split at h
        · split at h
          · next hc => rw [if_pos (i1 hc)]; exact h
          · cases h
        · cases h
      · cases h
    · cases h
  · cases h
theorem mOp_d {q : mMd} (h : mOp sc d q y pc n lv st M i = some s) : mOp sc (d + 1) q y pc n lv st M i = some s := by
  unfold mOp at h ⊢
  rcases mOr_or h with h | h
  · exact mOr_l h
  rcases mOr_or h with h | h
  · exact mOr_r (fun s hs => by have := mG1 hs; have := mG2 h; omega) (mOr_l h)
  rcases mOr_or h with h | h
  · exact mOr_r (fun s hs => by have := mG1 hs; have := mG3 h; omega) (mOr_r (fun s hs => by have := mG2 hs; have := mG3 h; omega) (mOr_l h))
  rcases mOr_or h with h | h
  · exact mOr_r (fun s hs => by have := mG1 hs; have := mG4 h; omega) (mOr_r (fun s hs => by have := mG2 hs; have := mG4 h; omega) (mOr_r (fun s hs => by have := mG3 hs; have := mG4 h; omega) (mOr_l h)))
  rcases mOr_or h with h | h
  · exact mOr_r (fun s hs => by have := mG1 hs; have := mG5 h; omega) (mOr_r (fun s hs => by have := mG2 hs; have := mG5 h; omega) (mOr_r (fun s hs => by have := mG3 hs; have := mG5 h; omega) (mOr_r (fun s hs => by have := mG4 hs; have := mG5 h; omega) (mOr_l h))))
  rcases mOr_or h with h | h
  · exact mOr_r (fun s hs => by have := mG1 hs; have := mG6 h; omega) (mOr_r (fun s hs => by have := mG2 hs; have := mG6 h; omega) (mOr_r (fun s hs => by have := mG3 hs; have := mG6 h; omega) (mOr_r (fun s hs => by have := mG4 hs; have := mG6 h; omega) (mOr_r (fun s hs => by have := mG5 hs; have := mG6 h; omega) (mOr_l (mOp6_d h))))))
  · exact mOr_r (fun s hs => by have := mG1 hs; have := mG7 h; omega) (mOr_r (fun s hs => by have := mG2 hs; have := mG7 h; omega) (mOr_r (fun s hs => by have := mG3 hs; have := mG7 h; omega) (mOr_r (fun s hs => by have := mG4 hs; have := mG7 h; omega) (mOr_r (fun s hs => by have := mG5 hs; have := mG7 h; omega) (mOr_r (fun s hs => by have := mG6 hs; have := mG7 h; omega) h)))))
theorem mStep_d {fr : mFr} (h : mStep sc d fr M = some s) : mStep sc (d + 1) fr M = some s := by
  unfold mStep at h ⊢
  split at h
  · cases h
  · next q hq =>
    split at h
    · cases h
    · next k j hk => exact mOp_d h
theorem mRun_d1 : ∀ (n : Nat) (sc : Option (Nat × (Nat → Int32))) (d : Nat) (fr : mFr) (M : mHe) (x : Option Value × mHe), mRun sc n d fr M = some x → mRun sc n (d + 1) fr M = some x := by
  intro n
  induction n with
  | zero => intro sc d fr M x h; cases h
  | succ n ih =>
    intro sc d fr M x h
    unfold mRun at h ⊢
    split at h
    · cases h
    · next fr' M' hs =>
      rw [mStep_d hs]
      exact ih _ _ _ _ _ h
    · next y vs fr' hs =>
      rw [mStep_d hs]
      cases d with
      | zero => cases h
      | succ d =>
        simp only at h ⊢
        split at h
        · cases h
        · next r M1 hc =>
          rw [ih _ _ _ _ _ hc]
          exact ih _ _ _ _ _ h
    · next r hs =>
      rw [mStep_d hs]
      exact h
theorem mRun_dm {n d' : Nat} {fr : mFr} {x : Option Value × mHe} (h : mRun sc n d fr M = some x) (hd : d ≤ d') : mRun sc n d' fr M = some x := by
  obtain ⟨k, rfl⟩ := Nat.le.dest hd
  induction k with
  | zero => exact h
  | succ k ih => exact mRun_d1 _ _ _ _ _ _ (ih (by omega))
end DMO
def tAbs (a : Nat × Nat × Int × Int) : aV := match a with
  | (0, r, _, _) => kR r
  | (_, _, l, u) => (2, 0, l, u)
def tLfOk (res : Option (Int × Int)) (lf : tLf_) : Bool := match lf.1, res with
  | .inr none, none => true
  | .inr (some v), some (l, u) => tWi lf.2.2 v l u
  | _, _ => false
def tChk (K : tKt) (n : Nat) (ct : tCt) : Bool := match ct with
  | (y, as, res, W, dn, _) => match tEnt ([], []) 0 (as.map tAbs) with
    | (lv, cs) => match tRun K n false dn [W] [] (y, 0, lv, []) [] cs with
      | none => false
      | some lfs => lfs.all (tLfOk res)
theorem yArg_abs : ∀ (as : List (Nat × Nat × Int × Int)) (vs : List Value), yArg as vs → yS [] (as.map tAbs) vs := by
  intro as
  induction as with
  | nil =>
    intro vs h
    cases vs with
    | nil => trivial
    | cons v vs => exact h.elim
  | cons a as ih =>
    intro vs h
    cases vs with
    | nil => exact h.elim
    | cons v vs =>
      refine ⟨?_, ih vs h.2⟩
      have h1 := h.1
      unfold yFt at h1
      unfold tAbs
      split at h1
      · subst h1; exact yV_kR [] _
      · next lo hi hne =>
        obtain ⟨x, rfl, x1, x2⟩ := h1
        split
        · next heq => exact (hne (congrArg Prod.fst heq)).elim
        · next heq => cases heq; exact yI_2 [] x1 x2 0
theorem xE_nil : xE [] ([], []) := ⟨rfl, fun i e h => by simp at h, fun i l u e h => by simp at h, fun t ht => by cases ht⟩
theorem tCt_of (hT : aTabOk) {K : tKt} (hK : ∀ ct ∈ K.2, tCtOk ct) {n : Nat} {ct : tCt} (hcp : ct.2.2.2.2.2 = []) (h : tChk K n ct = true) : tCtOk ct := by
  obtain ⟨y, as, res, W, dn, cp⟩ := ct
  simp only at hcp
  subst hcp
  intro M vs d hM ha hd
  simp only at ha hd ⊢
  unfold tChk at h
  simp only at h
  have hent := tEnt_ok (as.map tAbs) vs ([], []) [] 0 xE_nil (yArg_abs as vs ha)
  generalize tEnt ([], []) 0 (as.map tAbs) = ent at h hent
  obtain ⟨lv, cs⟩ := ent
  simp only at h hent
  obtain ⟨X, x1, x2⟩ := hent
  split at h
  · cases h
  · next lfs hl =>
    have := tRun_ok (xs := (0, fun _ => 0)) hT hK n false none dn [W] [] (y, 0, lv, []) [] cs lfs ([] ++ X) (lv_args 0 vs) [] M hl x1 x2 trivial ⟨hM, fun q hq => by cases hq⟩ (fun z => by cases z) (fun L hL => by cases hL)
    rcases this with ⟨lf, f1, X2, f2, f3⟩ | z
    · have h1 := List.all_eq_true.mp h lf f1
      obtain ⟨r0, fs, cs2⟩ := lf
      unfold tLfOk at h1
      simp only at h1 f2 f3
      split at h1
      · obtain ⟨N, r', M', m1, m2, m3, m4⟩ := f3
        refine ⟨N, r', M', mRun_dm m1 hd, m3.1, m4 W (List.mem_singleton_self W), ?_, fun ab hab => by cases hab⟩
        cases r' with
        | none => rfl
        | some v => exact m2.elim
      · obtain ⟨N, r', M', m1, m2, m3, m4⟩ := f3
        refine ⟨N, r', M', mRun_dm m1 hd, m3.1, m4 W (List.mem_singleton_self W), ?_, fun ab hab => by cases hab⟩
        cases r' with
        | none => exact m2.elim
        | some v =>
          obtain ⟨x, rfl, z1, z2⟩ := tWi_ok f2 m2 h1
          exact ⟨x, rfl, z1, z2⟩
      · cases h1
    · exact z.elim
theorem tCtOk_cons {ct : tCt} {cts : List tCt} (h1 : tCtOk ct) (h2 : ∀ c ∈ cts, tCtOk c) : ∀ c ∈ ct :: cts, tCtOk c := fun c hc => by
  rcases List.mem_cons.mp hc with rfl | hc
  · exact h1
  · exact h2 c hc
