/-! CONTRACTS OUT OF RUNS; more depth -/
section DMO
variable {own d y pc n : Nat} {lv : List (Nat × Value)} {st : List Value} {M : mHe} {i : Instr} {s : (mFr × mHe) ⊕ ((Nat × List Value × mFr) ⊕ Option Value)} {sc : Option (Nat × (Nat → Int32))}
set_option maxHeartbeats 4000000 in
theorem mOp6_d (h : mOp6 d own y pc n lv st M i = some s) : mOp6 (d + 1) own y pc n lv st M i = some s := by
  have i3 : ∀ {a b c : Prop} {r : Nat}, (a ∧ b ∧ c ∧ r ≤ d) → (a ∧ b ∧ c ∧ r ≤ d + 1) := fun h => ⟨h.1, h.2.1, h.2.2.1, by omega⟩
  have i4 : ∀ {a b c e : Prop} {r : Nat}, (a ∧ b ∧ c ∧ r ≤ d ∧ e) → (a ∧ b ∧ c ∧ r ≤ d + 1 ∧ e) := fun h => ⟨h.1, h.2.1, h.2.2.1, by omega, h.2.2.2.2⟩
  have i1 : ∀ {a : Prop} {r : Nat}, (a ∧ r ≤ d) → (a ∧ r ≤ d + 1) := fun h => ⟨h.1, by omega⟩
  unfold mOp6 at h ⊢
  split at h
  · split at h
    · next hn =>
      rw [if_pos hn]
      split at h
      · exact h
      · next o1 o2 o3 o4 hR =>
        try simp only [hR]
        split at h
        · split at h
          · next hc => rw [if_pos (i3 hc)]; exact h
          · cases h
        · cases h
      · next o1 o2 o3 o4 hR =>
        try simp only [hR]
        split at h
        · split at h
          · next hc => rw [if_pos (i4 hc)]; exact h
          · cases h
        · cases h
      · cases h
    · cases h
  · split at h
    · next hn =>
      rw [if_pos hn]
      split at h
      · exact h
      · exact h
      · next o1 o2 o3 o4 hR =>
        try simp only [hR]
        split at h
        · split at h
          · next hc => rw [if_pos (i1 hc)]; exact h
          · cases h
        · cases h
      · next o1 o2 o3 o4 hR =>
        try simp only [hR]
        split at h
        · split at h
          · next hc => rw [if_pos (i1 hc)]; exact h
          · cases h
        · cases h
      · cases h
    · cases h
  · split at h
    · next hn =>
      rw [if_pos hn]
      split at h
      · exact h
      · exact h
      · next o1 o2 o3 o4 hR =>
        try simp only [hR]
        split at h
        · split at h
          · next hc => rw [if_pos (i1 hc)]; exact h
          · cases h
        · cases h
      · cases h
    · cases h
  · cases h
theorem mOp_d {q : mMd} (h : mOp sc d q y pc n lv st M i = some s) : mOp sc (d + 1) q y pc n lv st M i = some s := by
  unfold mOp at h ⊢
  rcases mOr_or h with h | h
  · exact mOr_l h
  rcases mOr_or h with h | h
  · exact mOr_r (fun s hs => by have := mG1 hs; have := mG2 h; omega) (mOr_l h)
  rcases mOr_or h with h | h
  · exact mOr_r (fun s hs => by have := mG1 hs; have := mG3 h; omega) (mOr_r (fun s hs => by have := mG2 hs; have := mG3 h; omega) (mOr_l h))
  rcases mOr_or h with h | h
  · exact mOr_r (fun s hs => by have := mG1 hs; have := mG4 h; omega) (mOr_r (fun s hs => by have := mG2 hs; have := mG4 h; omega) (mOr_r (fun s hs => by have := mG3 hs; have := mG4 h; omega) (mOr_l h)))
  rcases mOr_or h with h | h
  · exact mOr_r (fun s hs => by have := mG1 hs; have := mG5 h; omega) (mOr_r (fun s hs => by have := mG2 hs; have := mG5 h; omega) (mOr_r (fun s hs => by have := mG3 hs; have := mG5 h; omega) (mOr_r (fun s hs => by have := mG4 hs; have := mG5 h; omega) (mOr_l h))))
  rcases mOr_or h with h | h
  · exact mOr_r (fun s hs => by have := mG1 hs; have := mG6 h; omega) (mOr_r (fun s hs => by have := mG2 hs; have := mG6 h; omega) (mOr_r (fun s hs => by have := mG3 hs; have := mG6 h; omega) (mOr_r (fun s hs => by have := mG4 hs; have := mG6 h; omega) (mOr_r (fun s hs => by have := mG5 hs; have := mG6 h; omega) (mOr_l (mOp6_d h))))))
  · exact mOr_r (fun s hs => by have := mG1 hs; have := mG7 h; omega) (mOr_r (fun s hs => by have := mG2 hs; have := mG7 h; omega) (mOr_r (fun s hs => by have := mG3 hs; have := mG7 h; omega) (mOr_r (fun s hs => by have := mG4 hs; have := mG7 h; omega) (mOr_r (fun s hs => by have := mG5 hs; have := mG7 h; omega) (mOr_r (fun s hs => by have := mG6 hs; have := mG7 h; omega) h)))))
theorem mStep_d {fr : mFr} (h : mStep sc d fr M = some s) : mStep sc (d + 1) fr M = some s := by
  unfold mStep at h ⊢
  split at h
  · cases h
  · next q hq =>
    split at h
    · cases h
    · next k j hk => exact mOp_d h
theorem mRun_d1 : ∀ (n : Nat) (sc : Option (Nat × (Nat → Int32))) (d : Nat) (fr : mFr) (M : mHe) (x : Option Value × mHe), mRun sc n d fr M = some x → mRun sc n (d + 1) fr M = some x := by
  intro n
  induction n with
  | zero => intro sc d fr M x h; cases h
  | succ n ih =>
    intro sc d fr M x h
    unfold mRun at h ⊢
    split at h
    · cases h
    · next fr' M' hs =>
      rw [mStep_d hs]
      exact ih _ _ _ _ _ h
    · next y vs fr' hs =>
      rw [mStep_d hs]
      cases d with
      | zero => cases h
      | succ d =>
        simp only at h ⊢
        split at h
        · cases h
        · next r M1 hc =>
          rw [ih _ _ _ _ _ hc]
          exact ih _ _ _ _ _ h
    · next r hs =>
      rw [mStep_d hs]
      exact h
theorem mRun_dm {n d' : Nat} {fr : mFr} {x : Option Value × mHe} (h : mRun sc n d fr M = some x) (hd : d ≤ d') : mRun sc n d' fr M = some x := by
  obtain ⟨k, rfl⟩ := Nat.le.dest hd
  induction k with
  | zero => exact h
  | succ k ih => exact mRun_d1 _ _ _ _ _ _ (ih (by omega))
end DMO
def tAbs (a : Nat × Nat × Int × Int) : aV := match a with
  | (0, r, _, _) => kR r
  | (_, _, l, u) => (2, 0, l, u)
def tLfOk (res : Option (Int × Int)) (lf : tLf_) : Bool := match lf.1, res with
  | .inr none, none => true
  | .inr (some v), some (l, u) => tWi lf.2.2 v l u
  | _, _ => false
/-- what is known of places at a method's start -/
def tPre (pre : List (Nat × Nat × Int × Int)) : tF := pre.map (fun p => ((p.1, 0, Int.ofNat p.2.1, 0), (2, 0, p.2.2.1, p.2.2.2)))
def tChk (K : tKt) (n : Nat) (ct : tCt) : Bool := match ct with
  | (y, as, res, W, dn, _, pre) => match tEnt ([], []) 0 (as.map tAbs) with
    | (lv, cs) => match tRun K n false dn [W] [] (y, 0, lv, []) (tPre pre) cs with
      | none => false
      | some lfs => lfs.all (tLfOk res)
theorem yArg_abs : ∀ (as : List (Nat × Nat × Int × Int)) (vs : List Value), yArg as vs → yS [] (as.map tAbs) vs := by
  intro as
  induction as with
  | nil =>
    intro vs h
    cases vs with
    | nil => trivial
    | cons v vs => exact h.elim
  | cons a as ih =>
    intro vs h
    cases vs with
    | nil => exact h.elim
    | cons v vs =>
      refine ⟨?_, ih vs h.2⟩
      have h1 := h.1
      unfold yFt at h1
      unfold tAbs
      split at h1
      · subst h1; exact yV_kR [] _
      · next lo hi hne =>
        obtain ⟨x, rfl, x1, x2⟩ := h1
        split
        · next heq => exact (hne (congrArg Prod.fst heq)).elim
        · next heq => cases heq; exact yI_2 [] x1 x2 0
theorem xE_nil : xE [] ([], []) := ⟨rfl, fun i e h => by simp at h, fun i l u e h => by simp at h, fun t ht => by cases ht⟩
theorem tCt_of (hT : aTabOk) {K : tKt} (hK : ∀ ct ∈ K.2, tCtOk ct) {n : Nat} {ct : tCt} (hcp : ct.2.2.2.2.2.1 = []) (h : tChk K n ct = true) : tCtOk ct := by
  obtain ⟨y, as, res, W, dn, cp, pre⟩ := ct
  simp only at hcp
  subst hcp
  intro M vs d hM ha hd hpre
  simp only at ha hd hpre ⊢
  have hF : ∀ E : List Int, yF (0, fun _ => 0) E (tPre pre) M := by
    intro E q hq
    obtain ⟨p, hp, rfl⟩ := List.mem_map.mp hq
    obtain ⟨x, x1, x2, x3⟩ := hpre p hp (0, fun _ => 0)
    exact ⟨p.2.1, rfl, .int x, x1, yI_2 E x2 x3 0⟩
  unfold tChk at h
  simp only at h
  have hent := tEnt_ok (as.map tAbs) vs ([], []) [] 0 xE_nil (yArg_abs as vs ha)
  generalize tEnt ([], []) 0 (as.map tAbs) = ent at h hent
  obtain ⟨lv, cs⟩ := ent
  simp only at h hent
  obtain ⟨X, x1, x2⟩ := hent
  split at h
  · cases h
  · next lfs hl =>
    have := tRun_ok (xs := (0, fun _ => 0)) hT hK n false none dn [W] [] (y, 0, lv, []) (tPre pre) cs lfs ([] ++ X) (lv_args 0 vs) [] M hl x1 x2 trivial ⟨hM, hF _⟩ (fun z => by cases z) (fun L hL => by cases hL)
    rcases this with ⟨lf, f1, X2, f2, f3⟩ | z
    · have h1 := List.all_eq_true.mp h lf f1
      obtain ⟨r0, fs, cs2⟩ := lf
      unfold tLfOk at h1
      simp only at h1 f2 f3
      split at h1
      · obtain ⟨N, r', M', m1, m2, m3, m4⟩ := f3
        refine ⟨N, r', M', mRun_dm m1 hd, m3.1, m4 W (List.mem_singleton_self W), ?_, fun ab hab => by cases hab⟩
        cases r' with
        | none => rfl
        | some v => exact m2.elim
      · obtain ⟨N, r', M', m1, m2, m3, m4⟩ := f3
        refine ⟨N, r', M', mRun_dm m1 hd, m3.1, m4 W (List.mem_singleton_self W), ?_, fun ab hab => by cases hab⟩
        cases r' with
        | none => exact m2.elim
        | some v =>
          obtain ⟨x, rfl, z1, z2⟩ := tWi_ok f2 m2 h1
          exact ⟨x, rfl, z1, z2⟩
      · cases h1
    · exact z.elim
theorem tCtOk_cons {ct : tCt} {cts : List tCt} (h1 : tCtOk ct) (h2 : ∀ c ∈ cts, tCtOk c) : ∀ c ∈ ct :: cts, tCtOk c := fun c hc => by
  rcases List.mem_cons.mp hc with rfl | hc
  · exact h1
  · exact h2 c hc
/-- a contract for a part of an int's bounds -/
def tCtSet (ct : tCt) (i : Nat) (b : Int × Int) : tCt := match ct with
  | (y, as, r) => (y, as.set i (1, 0, b.1, b.2), r)
def tCov (u : Int) : Int → List (Int × Int) → Bool
  | l, [] => ilt u l
  | l, (a, b) :: bx => ile a l && tCov u (b + 1) bx
theorem tCov_ok {u : Int} : ∀ (bx : List (Int × Int)) (l : Int), tCov u l bx = true → ∀ x : Int, l ≤ x → x ≤ u → ∃ b ∈ bx, b.1 ≤ x ∧ x ≤ b.2 := by
  intro bx
  induction bx with
  | nil =>
    intro l h x h1 h2
    have := (ilt_iff _ _).mp h
    omega
  | cons p bx ih =>
    intro l h x h1 h2
    obtain ⟨a, b⟩ := p
    unfold tCov at h
    rw [Bool.and_eq_true, ile_iff] at h
    by_cases hx : x ≤ b
    · exact ⟨(a, b), List.mem_cons_self, by show a ≤ x; omega, hx⟩
    · obtain ⟨q, q1, q2⟩ := ih (b + 1) h.2 x (by omega) h2
      exact ⟨q, List.mem_cons_of_mem _ q1, q2⟩
theorem yArg_set : ∀ (as : List (Nat × Nat × Int × Int)) (vs : List Value) (i : Nat) (l u : Int), yArg as vs → as[i]? = some (1, 0, l, u) → ∃ x : Int32, l ≤ x.toInt ∧ x.toInt ≤ u ∧ ∀ b : Int × Int, b.1 ≤ x.toInt → x.toInt ≤ b.2 → yArg (as.set i (1, 0, b.1, b.2)) vs := by
  intro as
  induction as with
  | nil => intro vs i l u _ h; simp at h
  | cons a as ih =>
    intro vs i l u ha hi
    cases vs with
    | nil => exact ha.elim
    | cons v vs =>
      cases i with
      | zero =>
        simp only [List.getElem?_cons_zero, Option.some.injEq] at hi
        subst hi
        obtain ⟨x, rfl, x1, x2⟩ := ha.1
        exact ⟨x, x1, x2, fun b b1 b2 => ⟨⟨x, rfl, b1, b2⟩, ha.2⟩⟩
      | succ i =>
        obtain ⟨x, x1, x2, x3⟩ := ih vs i l u ha.2 (by simpa using hi)
        exact ⟨x, x1, x2, fun b b1 b2 => ⟨ha.1, x3 b b1 b2⟩⟩
/-- a contract out of contracts for parts of an int's bounds -/
theorem tCt_boxes {ct : tCt} {i : Nat} {l u : Int} (bx : List (Int × Int)) (hi : ct.2.1[i]? = some (1, 0, l, u)) (hc : tCov u l bx = true) (h : ∀ b ∈ bx, tCtOk (tCtSet ct i b)) : tCtOk ct := by
  intro M vs d hM ha hd hpre
  obtain ⟨x, x1, x2, x3⟩ := yArg_set ct.2.1 vs i l u ha hi
  obtain ⟨b, b1, b2, b3⟩ := tCov_ok bx l hc x.toInt x1 x2
  exact h b b1 M vs d hM (x3 b b2 b3) hd hpre
