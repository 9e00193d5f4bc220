/-! WHAT A STEP LEAVES AS IT WAS -/
def hSame (h : aHe) (brs : List (aC × aRs)) : Prop := ∀ b ∈ brs, ∀ x, b.2 = .inl x → x.2 = h
def hGd (G : List (List Nat)) (h h' : aHe) : Prop := (∀ l ∈ G, ∀ k, k ∉ l → hget h' k = hget h k) ∧ (G ≠ [] → h'.1 = h.1)
theorem hGd_rf (G : List (List Nat)) (h : aHe) : hGd G h h := ⟨fun _ _ _ _ => rfl, fun _ => rfl⟩
theorem hGd_tr {G : List (List Nat)} {h h' h2 : aHe} (a : hGd G h h') (b : hGd G h' h2) : hGd G h h2 := ⟨fun l hl k hk => (b.1 l hl k hk).trans (a.1 l hl k hk), fun hn => (b.2 hn).trans (a.2 hn)⟩
def hGs (G : List (List Nat)) (h : aHe) (brs : List (aC × aRs)) : Prop := ∀ b ∈ brs, ∀ x, b.2 = .inl x → hGd G h x.2
theorem hGs_of {G : List (List Nat)} {h : aHe} {brs : List (aC × aRs)} (hs : hSame h brs) : hGs G h brs := fun b hb x hx => by rw [hs b hb x hx]; exact hGd_rf G h
section GRD
variable {cs : aC} {own nL y pc d : Nat} {al : List (Nat × aV)} {ast : List aV} {h : aHe} {e : aIn} {brs : List (aC × aRs)} {G : List (List Nat)} {ini : Bool} {sa : aSc}
theorem aGo_h {y' pc' : Nat} {al' : List (Nat × aV)} {ast' : List aV} (hr : aGo cs y' pc' al' ast' h = some brs) : hSame h brs := by
  unfold aGo at hr
  cases hr
  intro b hb x hx
  rw [List.mem_singleton.mp hb] at hx
  cases hx; rfl
theorem aTo_h {l : List aC} {y' pc' : Nat} {al' : List (Nat × aV)} {ast' : List aV} : hSame h (aTo l y' pc' al' ast' h) := by
  intro b hb x hx
  obtain ⟨c, -, rfl⟩ := List.mem_map.mp hb
  cases hx; rfl
theorem hSame_app {a b : List (aC × aRs)} (ha : hSame h a) (hb : hSame h b) : hSame h (a ++ b) := fun c hc x hx => (List.mem_append.mp hc).elim (fun z => ha c z x hx) (fun z => hb c z x hx)
theorem aSplit_h {v : aV} (hr : aSplit cs y pc al ast h v = some brs) : hSame h brs := by
  unfold aSplit at hr
  split at hr
  · split at hr
    · cases hr
    · next l u hi =>
      cases hb : (ilt l u && ilt (u - l) 300)
      · rw [hb] at hr; cases hr
      · rw [hb, cond_true] at hr
        cases hr
        intro b hb x hx
        obtain ⟨c, -, rfl⟩ := List.mem_map.mp hb
        cases hx; rfl
  · cases hr
theorem aSgl_h {y' pc' : Nat} {v : Option aV} {al' : List (Nat × aV)} {ast' : List aV} (hr : aSgl cs y' pc' al' v ast' h = some brs) : hSame h brs := by
  unfold aSgl at hr
  split at hr
  · cases hr
  · exact aGo_h hr
theorem aBr_h {off : Int} {al' : List (Nat × aV)} {ast' : List aV} (hr : aBr cs y pc off al' ast' h = some brs) : hSame h brs := by
  unfold aBr at hr
  split at hr
  · cases hr
  · exact aGo_h hr
theorem aTbl_h {a : aV} : ∀ (offs : List Int) (k : Int) (brs : List (aC × aRs)), aTbl cs a y pc al ast h k offs = some brs → hSame h brs := by
  intro offs
  induction offs with
  | nil => intro k brs hr; cases hr; intro b hb; cases hb
  | cons o offs ih =>
    intro k brs hr
    unfold aTbl at hr
    split at hr
    · next r t h1 h2 =>
      cases hr
      exact hSame_app aTo_h (ih _ _ h1)
    · cases hr
theorem aOp1_h (hr : aOp1 e cs y pc al ast h = some brs) : hSame h brs := by
  unfold aOp1 at hr
  split at hr <;> (try split at hr) <;> first | exact aGo_h (bif_none hr) | exact aGo_h hr | cases hr
theorem aOp2_h (hr : aOp2 nL e cs y pc al ast h = some brs) : hSame h brs := by
  unfold aOp2 at hr
  split at hr <;> (try split at hr) <;> first | exact aGo_h (bif_none hr) | exact aGo_h hr | cases hr
theorem aOp3_h (hr : aOp3 e cs y pc al ast h = some brs) : hSame h brs := by
  unfold aOp3 at hr
  split at hr
  all_goals first
    | exact aGo_h (bif_none hr)
    | exact aSgl_h (bif_none hr)
    | (have h2 := bif_none hr
       revert h2
       cases aMod cs _ _
       · exact aSgl_h
       · exact aSplit_h)
    | (have h2 := bif_none hr
       cases h2
       exact hSame_app (hSame_app aTo_h aTo_h) aTo_h)
    | cases hr
theorem aOp4_h (hr : aOp4 e cs y pc al ast h = some brs) : hSame h brs := by
  unfold aOp4 at hr
  split at hr
  · exact aBr_h hr
  · have h2 := bif_none hr
    split at h2
    · cases h2
    · cases h2
      exact hSame_app aTo_h aTo_h
  · have h2 := bif_none hr
    split at h2
    · cases h2
    · cases h2
      exact hSame_app aTo_h aTo_h
  · have h2 := bif_none hr
    split at h2
    · next k hk =>
      revert h2
      cases (ilt k _ || ilt _ k)
      · simp only [cond_false]
        intro h2
        split at h2
        · exact aBr_h h2
        · cases h2
      · exact aBr_h
    · split at h2
      · next r t h3 h4 =>
        cases h2
        exact hSame_app (aTbl_h _ _ _ h3) aTo_h
      · cases h2
  · have h2 := bif_none hr
    split at h2
    · exact aBr_h h2
    · exact aSplit_h h2
  · cases hr
theorem aCall_h {rest vs : List aV} (hr : aCall e cs y pc al rest vs = some brs) : hSame h brs := by
  unfold aCall at hr
  have h2 := bif_none hr
  cases h2
  intro b hb x hx
  rw [List.mem_singleton.mp hb] at hx
  cases hx
theorem aOp6_h (hr : aOp6 d e cs y pc al ast h = some brs) : hSame h brs := by
  unfold aOp6 at hr
  split at hr <;> (try split at hr) <;> first
    | exact aCall_h (bif_none hr)
    | exact aGo_h (bif_none hr)
    | (have h2 := bif_none hr
       cases h2
       exact hSame_app aTo_h aTo_h)
    | (have h2 := bif_none hr
       split at h2 <;> first | exact aCall_h (bif_none h2) | exact aGo_h h2 | cases h2)
    | cases hr
theorem aOp7_h {rt : Option FieldType} (hr : aOp7 rt e cs ast = some brs) : hSame h brs := by
  have key : ∀ r : Option aV, hSame h [(cs, .inr (.inr r))] := by
    intro r b hb x hx
    rw [List.mem_singleton.mp hb] at hx
    cases hx
  unfold aOp7 at hr
  split at hr <;> first
    | (have h2 := bif_none hr
       cases h2
       exact key _)
    | (cases hr; exact key _)
    | cases hr
theorem hGd_set {k : Nat} {c : aCe} (hk : aOkW G k = true) : hGd G h (hset h k c) := by
  refine ⟨fun l hl j hj => ?_, fun _ => hset_1 h k c⟩
  rw [hget_set]
  have h1 := List.all_eq_true.mp hk l hl
  obtain ⟨z, hz, hzk⟩ := List.any_eq_true.mp h1
  have := Nat.eq_of_beq_eq_true hzk
  subst this
  rw [if_neg (fun q => hj (by rw [q.1]; exact hz))]
theorem aGo_g {y' pc' : Nat} {al' : List (Nat × aV)} {ast' : List aV} {h' : aHe} (hr : aGo cs y' pc' al' ast' h' = some brs) (hg : hGd G h h') : hGs G h brs := by
  unfold aGo at hr
  cases hr
  intro b hb x hx
  rw [List.mem_singleton.mp hb] at hx
  cases hx; exact hg
set_option maxHeartbeats 1000000 in
theorem aOp5_h (hr : aOp5 sa ini own G e cs y pc al ast h = some brs) : hGs G h brs := by
  unfold aOp5 at hr
  split at hr
  · split at hr
    · have h2 := bif_none hr
      split at h2
      · have h3 := bif_none h2
        split at h3
        · exact hGs_of (aGo_h h3)
        · cases h3
      · cases h2
    · cases hr
  · split at hr
    · next v r b1 b2 ast' =>
      cases hb : (Nat.ble 9 r && aOkW G (r - 9))
      · rw [hb] at hr; cases hr
      · rw [hb, cond_true] at hr
        rw [Bool.and_eq_true] at hb
        split at hr
        · exact aGo_g (bif_none hr) (hGd_set hb.2)
        · cases hr
    · cases hr
  · split at hr
    · next i r b1 b2 ast' =>
      have h2 := bif_none hr
      revert h2
      cases Nat.beq r 0
      · simp only [cond_false]
        intro h2
        have h3 := bif_none h2
        split at h3
        · have h4 := bif_none h3
          split at h4
          · exact hGs_of (aGo_h h4)
          · split at h4
            · exact hGs_of (aGo_h h4)
            · split at h4
              · next hsp => cases h4; exact hGs_of (aSplit_h hsp)
              · exact hGs_of (aGo_h h4)
        · cases h3
      · simp only [cond_true]
        intro h2
        split at h2
        · cases h2
        · split at h2
          · cases h2
          · exact hGs_of (aGo_h (bif_none h2))
    · cases hr
  · split at hr
    · next xa i r b1 b2 ast' =>
      cases hb : (aIsI i && aIsI xa && Nat.ble 9 r && aOkW G (r - 9))
      · rw [hb] at hr; cases hr
      · rw [hb, cond_true] at hr
        rw [Bool.and_eq_true] at hb
        split at hr
        · next a hg =>
          have h2 := bif_none hr
          split at h2
          · exact aGo_g h2 (hGd_set hb.2)
          · generalize aBd cs i = p at h2
            obtain ⟨l, u⟩ := p
            simp only at h2
            revert h2
            cases (aSame xa a.2.1 && a.2.2.all (fun q => ilt (Int.ofNat q.1) l || ilt u (Int.ofNat q.1)))
            · simp only [cond_false]
              intro h2
              split at h2
              · next hsp => cases h2; exact hGs_of (aSplit_h (bif_none hsp))
              · exact aGo_g h2 (hGd_set hb.2)
            · simp only [cond_true]
              intro h2
              exact hGs_of (aGo_h h2)
        · cases hr
    · cases hr
  · split at hr
    · next r b1 b2 ast' =>
      revert hr
      cases Nat.beq r 0
      · simp only [cond_false]
        intro hr
        have h2 := bif_none hr
        split at h2
        · exact hGs_of (aGo_h (bif_none h2))
        · cases h2
      · simp only [cond_true]
        intro hr
        split at hr
        · cases hr
        · exact hGs_of (aGo_h hr)
    · cases hr
  · split at hr
    · have h2 := bif_none hr
      split at h2
      · cases h2
      · have h3 := bif_none h2
        split at h3
        · exact aGo_g h3 ⟨fun l hl => (by cases hl), fun hn => absurd rfl hn⟩
        · cases h3
    · cases hr
  · split at hr
    · next q ty hq hty =>
      revert hr
      cases (List.range q.2.2).any (fun j => Nat.beq (aDef (ty j)).1 99)
      · simp only [cond_false]
        intro hr
        split at hr
        · exact aGo_g hr ⟨fun l hl => (by cases hl), fun hn => absurd rfl hn⟩
        · cases hr
      · intro hr; cases hr
    · cases hr
  · cases hr
theorem aOr_or {a b : Option (List (aC × aRs))} {x : List (aC × aRs)} (h : aOr a b = some x) : a = some x ∨ b = some x := by
  unfold aOr at h
  split at h
  · exact Or.inl h
  · exact Or.inr h
theorem aStep_h {q : mMd} (hr : aStep sa G d q y pc al ast h cs = some brs) : hGs G h brs := by
  unfold aStep at hr
  split at hr
  · cases hr
  · rcases aOr_or hr with hr | hr
    · exact hGs_of (aOp1_h hr)
    rcases aOr_or hr with hr | hr
    · exact hGs_of (aOp2_h hr)
    rcases aOr_or hr with hr | hr
    · exact hGs_of (aOp3_h hr)
    rcases aOr_or hr with hr | hr
    · exact hGs_of (aOp4_h hr)
    rcases aOr_or hr with hr | hr
    · exact aOp5_h hr
    rcases aOr_or hr with hr | hr
    · exact hGs_of (aOp6_h hr)
    · exact hGs_of (aOp7_h hr)
end GRD

/-! A STEP OF THE ABSTRACT MACHINE HOLDS WHAT THE SMALL ONE DOES; runs and more fuel -/
section SEL
variable {own nL y pc n d : Nat} {lv : List (Nat × Value)} {st : List Value} {M : mHe} {i : Instr} {ini : Bool} {sc : Option (Nat × (Nat → Int32))} {rt : Option FieldType}
end SEL
theorem xR_up {E : List Int} {f f' : mRes} {fr : mFr} {M : mHe} {res : aRs} (hf : ∀ r, f = some r → f' = some r) (h : xR E f fr M res) : xR E f' fr M res := by
  unfold xR at h ⊢
  split at h
  · obtain ⟨lv', st', M', h1, h2⟩ := h
    exact ⟨lv', st', M', h1.imp (hf _) id, h2⟩
  · obtain ⟨vs, lv1, st1, h1, h2⟩ := h
    exact ⟨vs, lv1, st1, hf _ h1, h2⟩
  · obtain ⟨r', h1, h2⟩ := h
    exact ⟨r', hf _ h1, h2⟩
theorem aStep_ok {E : List Int} {cs : aC} {y pc d : Nat} {al : List (Nat × aV)} {ast : List aV} {h : aHe} {lv : List (Nat × Value)} {st : List Value} {M : mHe} {brs : List (aC × aRs)} {G : List (List Nat)} {sa : aSc} {sc : Option (Nat × (Nat → Int32))} {q : mMd}
    (hT : aTabOk) (hq : mjM y = some q) (hE : xE E cs) (hL : xL E al lv) (hS : xS E ast st) (hH : xH E h M) (hsc : xSc E sa sc) (hr : aStep sa G d q y pc al ast h cs = some brs) :
    ∃ b ∈ brs, xE E b.1 ∧ xR E (mStep sc d (y, pc, lv, st) M) (y, pc, lv, st) M b.2 := by
  unfold aStep at hr
  split at hr
  · cases hr
  · next e he =>
    obtain ⟨h1, h2⟩ := hT y q pc e hq he
    have hm : mStep sc d (y, pc, lv, st) M = mOp sc d q y pc e.2.1 lv st M e.1 := by
      unfold mStep
      rw [hq]
      simp only
      rw [h1]
    rw [hm]
    unfold mOp
    rcases aOr_or hr with hr | hr
    · obtain ⟨b, hb, g1, g2⟩ := aOp1_ok (fr := (y, pc, lv, st)) hE hL hS hH h2 hr
      exact ⟨b, hb, g1, xR_up (fun r hf => mOr_l hf) g2⟩
    rcases aOr_or hr with hr | hr
    · obtain ⟨b, hb, g1, g2⟩ := aOp2_ok (fr := (y, pc, lv, st)) hE hL hS hH hr
      exact ⟨b, hb, g1, xR_up (fun r hf => mOr_r (fun s hs => by have := mG1 hs; have := mG2 hf; omega) (mOr_l hf)) g2⟩
    rcases aOr_or hr with hr | hr
    · obtain ⟨b, hb, g1, g2⟩ := aOp3_ok hE hL hS hH rfl hr
      exact ⟨b, hb, g1, xR_up (fun r hf => mOr_r (fun s hs => by have := mG1 hs; have := mG3 hf; omega) (mOr_r (fun s hs => by have := mG2 hs; have := mG3 hf; omega) (mOr_l hf))) g2⟩
    rcases aOr_or hr with hr | hr
    · obtain ⟨b, hb, g1, g2⟩ := aOp4_ok hE hL hS hH rfl hr
      exact ⟨b, hb, g1, xR_up (fun r hf => mOr_r (fun s hs => by have := mG1 hs; have := mG4 hf; omega) (mOr_r (fun s hs => by have := mG2 hs; have := mG4 hf; omega) (mOr_r (fun s hs => by have := mG3 hs; have := mG4 hf; omega) (mOr_l hf)))) g2⟩
    rcases aOr_or hr with hr | hr
    · obtain ⟨b, hb, g1, g2⟩ := aOp5_ok hE hL hS hH hsc rfl h2 hr
      exact ⟨b, hb, g1, xR_up (fun r hf => mOr_r (fun s hs => by have := mG1 hs; have := mG5 hf; omega) (mOr_r (fun s hs => by have := mG2 hs; have := mG5 hf; omega) (mOr_r (fun s hs => by have := mG3 hs; have := mG5 hf; omega) (mOr_r (fun s hs => by have := mG4 hs; have := mG5 hf; omega) (mOr_l hf))))) g2⟩
    rcases aOr_or hr with hr | hr
    · obtain ⟨b, hb, g1, g2⟩ := aOp6_ok (fr := (y, pc, lv, st)) hE hL hS hH h2 hr
      exact ⟨b, hb, g1, xR_up (fun r hf => mOr_r (fun s hs => by have := mG1 hs; have := mG6 hf; omega) (mOr_r (fun s hs => by have := mG2 hs; have := mG6 hf; omega) (mOr_r (fun s hs => by have := mG3 hs; have := mG6 hf; omega) (mOr_r (fun s hs => by have := mG4 hs; have := mG6 hf; omega) (mOr_r (fun s hs => by have := mG5 hs; have := mG6 hf; omega) (mOr_l hf)))))) g2⟩
    · obtain ⟨b, hb, g1, g2⟩ := aOp7_ok (fr := (y, pc, lv, st)) (M := M) hE hS hr
      exact ⟨b, hb, g1, xR_up (fun r hf => mOr_r (fun s hs => by have := mG1 hs; have := mG7 hf; omega) (mOr_r (fun s hs => by have := mG2 hs; have := mG7 hf; omega) (mOr_r (fun s hs => by have := mG3 hs; have := mG7 hf; omega) (mOr_r (fun s hs => by have := mG4 hs; have := mG7 hf; omega) (mOr_r (fun s hs => by have := mG5 hs; have := mG7 hf; omega) (mOr_r (fun s hs => by have := mG6 hs; have := mG7 hf; omega) hf)))))) g2⟩
/-! CELLS BY THEIR PLACES; what a loop's head makes of a heap -/
theorem aSetEl_ne {h : aHe} {c k c' : Nat} {v : aV} (hne : c' ≠ c) : hget (aSetEl h c k v) c' = hget h c' := by
  unfold aSetEl
  split
  · rw [hget_set, if_neg (fun z => hne z.1)]
  · rw [hget_set, if_neg (fun z => hne z.1)]
  · rfl
theorem aSetEl_1 {h : aHe} {c k : Nat} {v : aV} : (aSetEl h c k v).1 = h.1 := by
  unfold aSetEl
  split
  · rw [hset_1]
  · rw [hset_1]
  · rfl
theorem aSetEls_ne {c' : Nat} : ∀ (ks : List (Nat × Nat × Int × Int)) (j : Nat) (h : aHe), (∀ q ∈ ks, q.1 ≠ c') → hget (aSetEls h j ks) c' = hget h c' := by
  intro ks
  induction ks with
  | nil => intro j h _; rfl
  | cons p ks ih =>
    intro j h hk
    obtain ⟨c, k, lo, hi⟩ := p
    unfold aSetEls
    rw [ih _ _ (fun q hq => hk q (List.mem_cons_of_mem _ hq)), aSetEl_ne (fun z => hk _ List.mem_cons_self z.symm)]
theorem aSetEls_1 : ∀ (ks : List (Nat × Nat × Int × Int)) (j : Nat) (h : aHe), (aSetEls h j ks).1 = h.1 := by
  intro ks
  induction ks with
  | nil => intro j h; rfl
  | cons p ks ih =>
    intro j h
    obtain ⟨c, k, lo, hi⟩ := p
    unfold aSetEls
    rw [ih, aSetEl_1]
theorem aSetRows_ne {cs : aC} {lv : List (Nat × aV)} {c' : Nat} : ∀ (ps : List ((Nat × Nat) × Int × Int)) (h h1 : aHe), aSetRows cs lv h ps = some h1 → (∀ q ∈ ps, aRef lv q.1 ≠ some c') → hget h1 c' = hget h c' ∧ h1.1 = h.1 := by
  intro ps
  induction ps with
  | nil => intro h h1 hr _; cases hr; exact ⟨rfl, rfl⟩
  | cons p ps ih =>
    intro h h1 hr hk
    obtain ⟨p, lo, hi⟩ := p
    unfold aSetRows at hr
    split at hr
    · cases hr
    · next c hc =>
      split at hr
      · cases hr
      · next n hn =>
        have h2 := ih _ _ hr (fun q hq => hk q (List.mem_cons_of_mem _ hq))
        refine ⟨h2.1.trans ?_, h2.2.trans (hset_1 _ _ _)⟩
        rw [hget_set, if_neg]
        intro z
        exact hk _ List.mem_cons_self (by rw [z.1]; exact hc)
theorem aSetRows_1 {cs : aC} {lv : List (Nat × aV)} : ∀ (ps : List ((Nat × Nat) × Int × Int)) (h h1 : aHe), aSetRows cs lv h ps = some h1 → h1.1 = h.1 := by
  intro ps
  induction ps with
  | nil => intro h h1 hr; cases hr; rfl
  | cons p ps ih =>
    intro h h1 hr
    obtain ⟨p, lo, hi⟩ := p
    unfold aSetRows at hr
    split at hr
    · cases hr
    · split at hr
      · cases hr
      · exact (ih _ _ hr).trans (hset_1 _ _ _)
/-- a number at a place of a cell -/
def mElem (M : mHe) (c k : Nat) : Option Value := match M[c]? with
  | some (.inl (n, f)) => bif Nat.blt k n then some (.int (f k)) else none
  | some (.inr (_, fs)) => fs[k]?
  | none => none
def aShp (c : aCe) : Nat × Nat × Nat := match c with
  | .inl a => (0, a.1, 0)
  | .inr (ci, fs) => (1, ci, fs.length)
def mShp (m : mCe) : Nat × Nat × Nat := match m with
  | .inl (n, _) => (0, n, 0)
  | .inr (ci, fs) => (1, ci, fs.length)
theorem blt_iff (a b : Nat) : Nat.blt a b = true ↔ a < b := by
  unfold Nat.blt
  rw [Nat.ble_eq]
  omega
theorem xS_iff {E : List Int} : ∀ {l : List aV} {m : List Value}, xS E l m ↔ l.length = m.length ∧ ∀ (k : Nat) (a : aV), l[k]? = some a → ∃ v, m[k]? = some v ∧ xV E a v := by
  intro l
  induction l with
  | nil =>
    intro m
    constructor
    · intro h; rw [xS_nil h]; exact ⟨rfl, fun k a z => by simp at z⟩
    · intro h
      cases m with
      | nil => trivial
      | cons v m => exact absurd h.1 (by simp)
  | cons a l ih =>
    intro m
    constructor
    · intro h; exact ⟨xS_len h, fun k b hk => xS_get h hk⟩
    · intro h
      cases m with
      | nil => exact absurd h.1 (by simp)
      | cons v m =>
        refine ⟨?_, ih.mpr ⟨by simpa using h.1, fun k b hk => ?_⟩⟩
        · obtain ⟨v', h1, h2⟩ := h.2 0 a rfl
          simp only [List.getElem?_cons_zero, Option.some.injEq] at h1
          rw [h1]; exact h2
        · obtain ⟨v', h1, h2⟩ := h.2 (k + 1) b (by simpa using hk)
          exact ⟨v', by simpa using h1, h2⟩
theorem xH_elem {E : List Int} {h : aHe} {M : mHe} {c k : Nat} {a : aV} (hh : xH E h M) (ha : aElem h c k = some a) : ∃ v, mElem M c k = some v ∧ xV E a v := by
  unfold aElem at ha
  split at ha
  · next x hx =>
    obtain ⟨m, h1, h2⟩ := hh.2 c _ hx
    obtain ⟨n, f, rfl, h3⟩ := xC_arr h2
    cases hb : Nat.blt k x.1
    · rw [hb] at ha; cases ha
    · rw [hb, cond_true] at ha
      cases ha
      have hb2 := hb
      rw [h3.1] at hb2
      refine ⟨_, ?_, h3.2 k ((blt_iff _ _).mp hb2)⟩
      unfold mElem
      rw [h1]
      simp only
      rw [hb2]; rfl
  · next ci fs hx =>
    obtain ⟨m, h1, h2⟩ := hh.2 c _ hx
    obtain ⟨fs', rfl, h3⟩ := xC_obj h2
    obtain ⟨v, h4, h5⟩ := xS_get h3 ha
    refine ⟨v, ?_, h5⟩
    unfold mElem
    rw [h1]; exact h4
  · cases ha
theorem xH_shp {E : List Int} {h : aHe} {M : mHe} {c : Nat} {x : aCe} (hh : xH E h M) (hx : hget h c = some x) : ∃ m, M[c]? = some m ∧ aShp x = mShp m := by
  obtain ⟨m, h1, h2⟩ := hh.2 c _ hx
  refine ⟨m, h1, ?_⟩
  cases x with
  | inl a =>
    obtain ⟨n, f, rfl, h3⟩ := xC_arr h2
    have h4 := h3.1
    simp only [aShp, mShp, h4]
  | inr p =>
    obtain ⟨ci, fs⟩ := p
    obtain ⟨fs', rfl, h3⟩ := xC_obj h2
    unfold aShp mShp
    simp only
    rw [xS_len h3]
/-- a heap by its places -/
theorem xH_mk {E : List Int} {h : aHe} {M : mHe} (h0 : h.1 = M.length) (h1 : ∀ c x, hget h c = some x → ∃ m, M[c]? = some m ∧ aShp x = mShp m) (h2 : ∀ c k a, aElem h c k = some a → ∃ v, mElem M c k = some v ∧ xV E a v) : xH E h M := by
  refine ⟨h0, fun c x hx => ?_⟩
  obtain ⟨m, g1, g2⟩ := h1 c x hx
  refine ⟨m, g1, ?_⟩
  cases x with
  | inl a =>
    cases m with
    | inr p => obtain ⟨ci, fs⟩ := p; unfold aShp mShp at g2; cases g2
    | inl p =>
      obtain ⟨n, f⟩ := p
      unfold aShp mShp at g2
      simp only [Prod.mk.injEq, and_true, true_and] at g2
      refine ⟨g2, fun j hj => ?_⟩
      have hb : Nat.blt j n = true := (blt_iff _ _).mpr hj
      obtain ⟨v, g3, g4⟩ := h2 c j (aGetA a j) (by
        unfold aElem
        rw [hx]
        simp only
        rw [g2, hb]; rfl)
      unfold mElem at g3
      rw [g1] at g3
      simp only at g3
      rw [hb, cond_true] at g3
      cases g3
      exact g4
  | inr p =>
    obtain ⟨ci, fs⟩ := p
    cases m with
    | inl p => obtain ⟨n, f⟩ := p; unfold aShp mShp at g2; cases g2
    | inr p =>
      obtain ⟨ci', fs'⟩ := p
      unfold aShp mShp at g2
      simp only [Prod.mk.injEq, true_and] at g2
      refine ⟨g2.1, xS_iff.mpr ⟨g2.2, fun k a hk => ?_⟩⟩
      obtain ⟨v, g3, g4⟩ := h2 c k a (by
        unfold aElem
        rw [hx]; exact hk)
      unfold mElem at g3
      rw [g1] at g3
      exact ⟨v, g3, g4⟩
theorem aElem_congr {h h' : aHe} {c k : Nat} (e : hget h c = hget h' c) : aElem h c k = aElem h' c k := by
  unfold aElem; rw [e]
theorem aElem_set {h : aHe} {c k c' k' : Nat} {v : aV} : aElem (aSetEl h c k v) c' k' = if c' = c ∧ k' = k ∧ (aElem h c k).isSome then some v else aElem h c' k' := by
  by_cases hc : c' = c
  · subst hc
    unfold aSetEl
    split
    · next a ha =>
      have e1 : hget (hset h c' (.inl (aSetA a k v))) c' = some (.inl (aSetA a k v)) := by rw [hget_set, if_pos ⟨rfl, by rw [ha]; rfl⟩]
      unfold aElem
      rw [e1, ha]
      simp only
      rw [aSetA_1]
      by_cases hk : k' = k
      · subst hk
        cases hb : Nat.blt k' a.1
        · simp
        · rw [aGetA_set]; simp
      · rw [aGetA_set, if_neg hk, if_neg (fun z => hk z.2.1)]
    · next ci fs ha =>
      have e1 : hget (hset h c' (.inr (ci, fs.set k v))) c' = some (.inr (ci, fs.set k v)) := by rw [hget_set, if_pos ⟨rfl, by rw [ha]; rfl⟩]
      unfold aElem
      rw [e1, ha]
      simp only
      by_cases hk : k' = k
      · subst hk
        cases hf : fs[k']? with
        | none => rw [List.getElem?_set]; simp; exact List.getElem?_eq_none_iff.mp hf
        | some a =>
          have := (List.getElem?_eq_some_iff.mp hf).1
          rw [List.getElem?_set_self this]; simp
      · rw [List.getElem?_set_ne (Ne.symm hk), if_neg (fun z => hk z.2.1)]
    · next ha =>
      have : aElem h c' k = none := by unfold aElem; rw [ha]
      rw [this]; simp
  · rw [aElem_congr (aSetEl_ne hc), if_neg (fun z => hc z.1)]
theorem aSetEl_shp {h : aHe} {c k c' : Nat} {v : aV} : (hget (aSetEl h c k v) c').map aShp = (hget h c').map aShp := by
  by_cases hc : c' = c
  · subst hc
    unfold aSetEl
    split
    · next a ha =>
      rw [hget_set, if_pos ⟨rfl, by rw [ha]; rfl⟩, ha]
      simp only [Option.map_some, aShp, aSetA_1]
    · next ci fs ha =>
      rw [hget_set, if_pos ⟨rfl, by rw [ha]; rfl⟩, ha]
      simp only [Option.map_some, aShp, List.length_set]
    · rfl
  · rw [aSetEl_ne hc]
theorem aSetEls_shp {c' : Nat} : ∀ (ks : List (Nat × Nat × Int × Int)) (j : Nat) (h : aHe), (hget (aSetEls h j ks) c').map aShp = (hget h c').map aShp := by
  intro ks
  induction ks with
  | nil => intro j h; rfl
  | cons p ks ih =>
    intro j h
    obtain ⟨c, k, lo, hi⟩ := p
    unfold aSetEls
    rw [ih, aSetEl_shp]
/-- a place after the new numbers are set: a new number, or as before -/
theorem aSetEls_at {c k : Nat} {a : aV} : ∀ (ks : List (Nat × Nat × Int × Int)) (j : Nat) (h : aHe), aElem (aSetEls h j ks) c k = some a → (∃ i lo hi, ks[i]? = some (c, k, lo, hi) ∧ a = (4, j + i, 0, 0)) ∨ ((∀ lo hi, (c, k, lo, hi) ∉ ks) ∧ aElem h c k = some a) := by
  intro ks
  induction ks with
  | nil => intro j h ha; exact Or.inr ⟨fun _ _ z => (by cases z), ha⟩
  | cons p ks ih =>
    intro j h ha
    obtain ⟨c1, k1, lo1, hi1⟩ := p
    unfold aSetEls at ha
    rcases ih _ _ ha with ⟨i, lo, hi, h1, h2⟩ | ⟨h1, h2⟩
    · exact Or.inl ⟨i + 1, lo, hi, by simpa using h1, by rw [h2, show j + 1 + i = j + (i + 1) by omega]⟩
    · rw [aElem_set] at h2
      by_cases hq : c = c1 ∧ k = k1 ∧ (aElem h c1 k1).isSome
      · rw [if_pos hq] at h2
        cases h2
        exact Or.inl ⟨0, lo1, hi1, by rw [hq.1, hq.2.1]; rfl, rfl⟩
      · rw [if_neg hq] at h2
        refine Or.inr ⟨fun lo hi z => ?_, h2⟩
        rcases List.mem_cons.mp z with z | z
        · cases z
          exact hq ⟨rfl, rfl, by rw [h2]; rfl⟩
        · exact h1 lo hi z

/-! A LOOP'S NEW NUMBERS -/
theorem aWithin_ok {E : List Int} {cs : aC} {a : aV} {v : Value} {lo hi : Int} (hE : xE E cs) (hv : xV E a v) (hw : aWithin cs a lo hi = true) : ∃ x : Int32, v = .int x ∧ lo ≤ x.toInt ∧ x.toInt ≤ hi := by
  unfold aWithin at hw
  rw [Bool.and_eq_true] at hw
  obtain ⟨x, rfl⟩ := xV_int hw.1 hv
  have h1 := aBd_N hE (xN_int hv)
  have h2 := hw.2
  generalize aBd cs a = p at h1 h2
  obtain ⟨l, u⟩ := p
  simp only at h1 h2
  rw [Bool.and_eq_true, ile_iff, ile_iff] at h2
  exact ⟨x, rfl, by omega, by omega⟩
theorem aImp_ok {E : List Int} {cs : aC} {a b : aV} {m n d : Int} (hE : xE E cs) (ha : xN E a m) (hb : xN E b n) (hi : aImp cs a b d = true) : m - n ≤ d := by
  unfold aImp at hi
  by_cases hd : m - n ≤ d
  · exact hd
  · exfalso
    obtain ⟨c, h1, -⟩ := aLe_ok (d := -d - 1) hE hb ha (by omega)
    split at hi
    · next e => rw [e] at h1; cases h1
    · cases hi
theorem list_set_self {α : Type} {l : List α} {k : Nat} {m : α} (h : l[k]? = some m) : l.set k m = l := by
  apply List.ext_getElem?
  intro i
  rw [List.getElem?_set]
  by_cases hk : k = i
  · subst hk
    rw [if_pos rfl, h]
    have := (List.getElem?_eq_some_iff.mp h).1
    simp [this]
  · rw [if_neg hk]
theorem aGetA_in {cs : aC} {a : Nat × aV × List (Nat × aV)} {lo hi : Int} (h : (aWithin cs a.2.1 lo hi && a.2.2.all (fun q => aWithin cs q.2 lo hi)) = true) (j : Nat) : aWithin cs (aGetA a j) lo hi = true := by
  rw [Bool.and_eq_true] at h
  unfold aGetA
  split
  · next v hv => exact List.all_eq_true.mp h.2 _ (aFound_mem hv)
  · exact h.1
theorem aSetRows_ok {E : List Int} {cs : aC} {lv : List (Nat × aV)} {M : mHe} (hE : xE E cs) : ∀ (ps : List ((Nat × Nat) × Int × Int)) (h h1 : aHe), aSetRows cs lv h ps = some h1 → xH E h M → xH E h1 M := by
  intro ps
  induction ps with
  | nil => intro h h1 hr hh; cases hr; exact hh
  | cons p ps ih =>
    intro h h1 hr hh
    obtain ⟨p, lo, hi⟩ := p
    unfold aSetRows at hr
    split at hr
    · cases hr
    · next c hc =>
      split at hr
      · cases hr
      · next n hn =>
        refine ih _ _ hr ?_
        unfold aRowIn at hn
        split at hn
        · next a ha =>
          have hw := bif_none hn
          cases hb : (aWithin cs a.2.1 lo hi && a.2.2.all (fun q => aWithin cs q.2 lo hi))
          · rw [hb] at hn; cases hn
          · cases hw
            obtain ⟨m, g1, g2⟩ := hh.2 c _ ha
            obtain ⟨n, f, rfl, g3⟩ := xC_arr g2
            rw [← list_set_self g1]
            refine xH_set hh ⟨g3.1, fun j hj => ?_⟩
            obtain ⟨x, g4, g5, g6⟩ := aWithin_ok hE (g3.2 j hj) (aGetA_in hb j)
            cases g4
            exact ⟨_, rfl, g5, g6⟩
        · cases hn
theorem aVals_ok {E : List Int} {cs : aC} {lv : List (Nat × aV)} {clv : List (Nat × Value)} (hE : xE E cs) (hL : xL E lv clv) : ∀ (ls : List (Nat × Int × Int)) (v1 : List aV), aVals cs lv ls = some v1 → ∃ V : List Int, V.length = ls.length ∧ v1.length = ls.length ∧ (∀ e ∈ V, -2147483648 ≤ e ∧ e ≤ 2147483647) ∧ (∀ (j k : Nat) (lo hi : Int), ls[j]? = some (k, lo, hi) → ∃ x : Int32, mlg k clv = some (.int x) ∧ V[j]? = some x.toInt ∧ lo ≤ x.toInt ∧ x.toInt ≤ hi) ∧ (∀ (j : Nat) (a : aV), v1[j]? = some a → ∃ x : Int32, V[j]? = some x.toInt ∧ xV E a (.int x)) := by
  intro ls
  induction ls with
  | nil =>
    intro v1 hr
    cases hr
    exact ⟨[], rfl, rfl, fun e z => (by cases z), fun j k lo hi z => by simp at z, fun j a z => by simp at z⟩
  | cons p ls ih =>
    intro v1 hr
    obtain ⟨k, lo, hi⟩ := p
    unfold aVals at hr
    split at hr
    · next v r hv hrr =>
      cases hb : aWithin cs v lo hi
      · rw [hb] at hr; cases hr
      · rw [hb, cond_true] at hr
        cases hr
        obtain ⟨V, h1, h2, h3, h4, h5⟩ := ih r hrr
        obtain ⟨c, g1, g2⟩ := hL k v hv
        obtain ⟨x, rfl, g3, g4⟩ := aWithin_ok hE g2 hb
        refine ⟨x.toInt :: V, by simp [h1], by simp [h2], fun e he => ?_, fun j k' lo' hi' hj => ?_, fun j a hj => ?_⟩
        · rcases List.mem_cons.mp he with rfl | he
          · exact ⟨i32_lo x, i32_hi x⟩
          · exact h3 e he
        · cases j with
          | zero => simp only [List.getElem?_cons_zero, Option.some.injEq] at hj; cases hj; exact ⟨x, g1, rfl, g3, g4⟩
          | succ j =>
            obtain ⟨y, h6, h7, h8⟩ := h4 j k' lo' hi' (by simpa using hj)
            exact ⟨y, h6, by simpa using h7, h8⟩
        · cases j with
          | zero => simp only [List.getElem?_cons_zero, Option.some.injEq] at hj; cases hj; exact ⟨x, rfl, g2⟩
          | succ j =>
            obtain ⟨y, h6, h7⟩ := h5 j a (by simpa using hj)
            exact ⟨y, by simpa using h6, h7⟩
    · cases hr
theorem aElems_ok {E : List Int} {cs : aC} {h : aHe} {M : mHe} (hE : xE E cs) (hH : xH E h M) : ∀ (ls : List (Nat × Nat × Int × Int)) (v1 : List aV), aElems cs h ls = some v1 → ∃ V : List Int, V.length = ls.length ∧ v1.length = ls.length ∧ (∀ e ∈ V, -2147483648 ≤ e ∧ e ≤ 2147483647) ∧ (∀ (j c k : Nat) (lo hi : Int), ls[j]? = some (c, k, lo, hi) → ∃ x : Int32, mElem M c k = some (.int x) ∧ V[j]? = some x.toInt ∧ lo ≤ x.toInt ∧ x.toInt ≤ hi) ∧ (∀ (j : Nat) (a : aV), v1[j]? = some a → ∃ x : Int32, V[j]? = some x.toInt ∧ xV E a (.int x)) := by
  intro ls
  induction ls with
  | nil =>
    intro v1 hr
    cases hr
    exact ⟨[], rfl, rfl, fun e z => (by cases z), fun j c k lo hi z => by simp at z, fun j a z => by simp at z⟩
  | cons p ls ih =>
    intro v1 hr
    obtain ⟨c, k, lo, hi⟩ := p
    unfold aElems at hr
    split at hr
    · next v r hv hrr =>
      cases hb : aWithin cs v lo hi
      · rw [hb] at hr; cases hr
      · rw [hb, cond_true] at hr
        cases hr
        obtain ⟨V, h1, h2, h3, h4, h5⟩ := ih r hrr
        obtain ⟨w, g1, g2⟩ := xH_elem hH hv
        obtain ⟨x, rfl, g3, g4⟩ := aWithin_ok hE g2 hb
        refine ⟨x.toInt :: V, by simp [h1], by simp [h2], fun e he => ?_, fun j c' k' lo' hi' hj => ?_, fun j a hj => ?_⟩
        · rcases List.mem_cons.mp he with rfl | he
          · exact ⟨i32_lo x, i32_hi x⟩
          · exact h3 e he
        · cases j with
          | zero => simp only [List.getElem?_cons_zero, Option.some.injEq] at hj; cases hj; exact ⟨x, g1, rfl, g3, g4⟩
          | succ j =>
            obtain ⟨y, h6, h7, h8⟩ := h4 j c' k' lo' hi' (by simpa using hj)
            exact ⟨y, h6, by simpa using h7, h8⟩
        · cases j with
          | zero => simp only [List.getElem?_cons_zero, Option.some.injEq] at hj; cases hj; exact ⟨x, rfl, g2⟩
          | succ j =>
            obtain ⟨y, h6, h7⟩ := h5 j a (by simpa using hj)
            exact ⟨y, by simpa using h6, h7⟩
    · cases hr
/-- a side of a difference: its number -/
def nVal (V : List Int) (clv : List (Nat × Value)) (p : Nat × Nat) : Option Int := match p with
  | (0, j) => V[j]?
  | (_, k) => match mlg k clv with
    | some (.int x) => some x.toInt
    | _ => none
def aSdOk (lv : List (Nat × aV)) (p : Nat × Nat) : Prop := match p with
  | (0, _) => True
  | (_, k) => ∃ i z, alg k lv = some (4, i, 0, z)
theorem aNth_ok {E : List Int} {lv : List (Nat × aV)} {clv : List (Nat × Value)} {vs : List aV} {V : List Int} {p : Nat × Nat} {a : aV} (hL : xL E lv clv) (hV : ∀ (j : Nat) (a : aV), vs[j]? = some a → ∃ x : Int32, V[j]? = some x.toInt ∧ xV E a (.int x)) (hs : aSdOk lv p) (ha : aNth vs lv p = some a) : ∃ n, nVal V clv p = some n ∧ xN E a n := by
  obtain ⟨t, k⟩ := p
  cases t with
  | zero =>
    obtain ⟨x, h1, h2⟩ := hV k a ha
    exact ⟨_, h1, xN_int h2⟩
  | succ t =>
    obtain ⟨i, z, h1⟩ := hs
    have ha : alg k lv = some a := ha
    rw [h1] at ha
    cases ha
    obtain ⟨c, h2, h3⟩ := hL k _ h1
    have h4 := h3
    obtain ⟨x, e, rfl, -, -⟩ := h4
    refine ⟨x.toInt, ?_, xN_int h3⟩
    simp only [nVal, h2]
theorem aDiffs_ok {E : List Int} {cs : aC} {lv : List (Nat × aV)} {clv : List (Nat × Value)} {vs : List aV} {V : List Int} (hE : xE E cs) (hL : xL E lv clv) (hV : ∀ (j : Nat) (a : aV), vs[j]? = some a → ∃ x : Int32, V[j]? = some x.toInt ∧ xV E a (.int x)) : ∀ (ds : List ((Nat × Nat) × (Nat × Nat) × Int)), aDiffs cs vs lv ds = true → (∀ t ∈ ds, aSdOk lv t.1 ∧ aSdOk lv t.2.1) → ∀ t ∈ ds, ∃ m n, nVal V clv t.1 = some m ∧ nVal V clv t.2.1 = some n ∧ m - n ≤ t.2.2 := by
  intro ds
  induction ds with
  | nil => intro _ _ t ht; cases ht
  | cons p ds ih =>
    intro hr hs t ht
    obtain ⟨p, q, d⟩ := p
    unfold aDiffs at hr
    rw [Bool.and_eq_true] at hr
    rcases List.mem_cons.mp ht with rfl | ht
    · have h1 := hr.1
      split at h1
      · next x y hx hy =>
        obtain ⟨s1, s2⟩ := hs _ List.mem_cons_self
        obtain ⟨m, g1, g2⟩ := aNth_ok hL hV s1 hx
        obtain ⟨n, g3, g4⟩ := aNth_ok hL hV s2 hy
        exact ⟨m, n, g1, g3, aImp_ok hE g2 g4 h1⟩
      · cases h1
    · exact ih hr.2 (fun t ht => hs t (List.mem_cons_of_mem _ ht)) t ht
theorem aDcs_mem {base : Nat} {lv : List (Nat × aV)} : ∀ (ds : List ((Nat × Nat) × (Nat × Nat) × Int)) (dcs : List (Nat × Nat × Int)), aDcs base lv ds = some dcs → (∀ t ∈ dcs, ∃ s ∈ ds, aAtom base lv s.1 = some t.1 ∧ aAtom base lv s.2.1 = some t.2.1 ∧ s.2.2 = t.2.2) ∧ ∀ s ∈ ds, (aAtom base lv s.1).isSome ∧ (aAtom base lv s.2.1).isSome := by
  intro ds
  induction ds with
  | nil => intro dcs hr; cases hr; exact ⟨fun t ht => (by cases ht), fun s hs => (by cases hs)⟩
  | cons p ds ih =>
    intro dcs hr
    obtain ⟨p, q, d⟩ := p
    unfold aDcs at hr
    split at hr
    · next i j r hi hj hrr =>
      cases hr
      obtain ⟨h1, h2⟩ := ih r hrr
      refine ⟨fun t ht => ?_, fun s hs => ?_⟩
      · rcases List.mem_cons.mp ht with rfl | ht
        · exact ⟨_, List.mem_cons_self, hi, hj, rfl⟩
        · obtain ⟨s, g1, g2⟩ := h1 t ht
          exact ⟨s, List.mem_cons_of_mem _ g1, g2⟩
      · rcases List.mem_cons.mp hs with rfl | hs
        · exact ⟨by rw [hi]; rfl, by rw [hj]; rfl⟩
        · exact h2 s hs
    · cases hr
theorem aAtom_sd {base : Nat} {lv : List (Nat × aV)} {p : Nat × Nat} (h : (aAtom base lv p).isSome) : aSdOk lv p := by
  obtain ⟨t, k⟩ := p
  cases t with
  | zero => trivial
  | succ t =>
    unfold aAtom at h
    simp only at h
    unfold aSdOk
    simp only
    split at h
    · next i z hz => exact ⟨i, z, hz⟩
    · cases h
theorem aKeep_at {lv : List (Nat × aV)} {k : Nat} : ∀ (kp : List Nat) (kept : List (Nat × aV)), aKeep lv kp = some kept → (∀ v, alg k kept = some v → k ∈ kp ∧ alg k lv = some v) ∧ (k ∈ kp → alg k kept = alg k lv) := by
  intro kp
  induction kp with
  | nil => intro kept hr; cases hr; exact ⟨fun v z => (by cases z), fun z => (by cases z)⟩
  | cons j kp ih =>
    intro kept hr
    unfold aKeep at hr
    split at hr
    · next v r hv hrr =>
      cases hr
      obtain ⟨h1, h2⟩ := ih r hrr
      have e : alg k ((j, v) :: r) = bif Nat.beq j k then some v else alg k r := rfl
      rw [e]
      cases hb : Nat.beq j k
      · rw [cond_false]
        refine ⟨fun w hw => ⟨List.mem_cons_of_mem _ (h1 w hw).1, (h1 w hw).2⟩, fun hk => ?_⟩
        rcases List.mem_cons.mp hk with rfl | hk
        · rw [Nat.beq_refl] at hb; cases hb
        · exact h2 hk
      · have := Nat.eq_of_beq_eq_true hb
        subst this
        rw [cond_true]
        exact ⟨fun w hw => by cases hw; exact ⟨List.mem_cons_self, hv⟩, fun _ => hv.symm⟩
    · cases hr
theorem alg_app_a {k : Nat} {b : List (Nat × aV)} : ∀ (a : List (Nat × aV)), alg k (a ++ b) = match alg k a with
    | some v => some v
    | none => alg k b := by
  intro a
  induction a with
  | nil => rfl
  | cons p a ih =>
    obtain ⟨j, v⟩ := p
    have e : ∀ l, alg k ((j, v) :: l) = bif Nat.beq j k then some v else alg k l := fun _ => rfl
    rw [List.cons_append, e, e]
    cases Nat.beq j k
    · rw [cond_false, cond_false, ih]
    · rfl
theorem aNewL_at {k : Nat} {v : aV} : ∀ (ls : List (Nat × Int × Int)) (j : Nat), alg k (aNewL j ls) = some v → ∃ i lo hi, ls[i]? = some (k, lo, hi) ∧ v = (4, j + i, 0, 0) := by
  intro ls
  induction ls with
  | nil => intro j h; cases h
  | cons p ls ih =>
    intro j h
    obtain ⟨k1, lo1, hi1⟩ := p
    unfold aNewL alg at h
    cases hb : Nat.beq k1 k
    · rw [hb, cond_false] at h
      obtain ⟨i, lo, hi, h1, h2⟩ := ih _ h
      exact ⟨i + 1, lo, hi, by simpa using h1, by rw [h2, show j + 1 + i = j + (i + 1) by omega]⟩
    · rw [hb, cond_true] at h
      cases h
      have := Nat.eq_of_beq_eq_true hb
      subst this
      exact ⟨0, lo1, hi1, rfl, rfl⟩

/-! A LOOP'S HEAD, first and again -/
def xStb (F : List Int) (a : aV) : Prop := ∃ v, xV F a v
theorem xV_tr {F Y X : List Int} {a : aV} {v : Value} (hs : xStb F a) (h : xV (F ++ Y) a v) : xV (F ++ X) a v := by
  obtain ⟨w, hw⟩ := hs
  have ap : ∀ {i : Nat} {e0 e : Int}, F[i]? = some e0 → (F ++ Y)[i]? = some e → (F ++ X)[i]? = some e := by
    intro i e0 e h0 h1
    have hl := (List.getElem?_eq_some_iff.mp h0).1
    rw [List.getElem?_append_left hl] at h1 ⊢
    exact h1
  unfold xV at h hw ⊢
  split at h
  · exact h
  · exact h
  · exact h
  · exact h
  · obtain ⟨x, e, h1, h2, h3⟩ := h
    obtain ⟨x0, e0, -, g2, -⟩ := hw
    exact ⟨x, e, h1, ap g2 h2, h3⟩
  · obtain ⟨x, e, h1, h2, h3⟩ := h
    obtain ⟨x0, e0, -, g2, -⟩ := hw
    exact ⟨x, e, h1, ap g2 h2, h3⟩
  · obtain ⟨x, e, h1, h2, h3⟩ := h
    obtain ⟨x0, e0, -, g2, -⟩ := hw
    exact ⟨x, e, h1, ap g2 h2, h3⟩
  · exact h
  · exact h.elim
theorem aSameL_eq : ∀ {a b : List (Nat × aV)}, aSameL a b = true → a = b := by
  intro a
  induction a with
  | nil => intro b h; cases b with
    | nil => rfl
    | cons q b => cases h
  | cons p a ih =>
    intro b h
    cases b with
    | nil => obtain ⟨j, v⟩ := p; cases h
    | cons q b =>
      obtain ⟨j, v⟩ := p
      obtain ⟨k, w⟩ := q
      unfold aSameL at h
      rw [Bool.and_eq_true, Bool.and_eq_true] at h
      rw [Nat.eq_of_beq_eq_true h.1.1, aSame_eq h.1.2, ih h.2]
theorem aSameV_eq : ∀ {a b : List aV}, aSameV a b = true → a = b := by
  intro a
  induction a with
  | nil => intro b h; cases b with
    | nil => rfl
    | cons q b => cases h
  | cons p a ih =>
    intro b h
    cases b with
    | nil => cases h
    | cons q b =>
      unfold aSameV at h
      rw [Bool.and_eq_true] at h
      rw [aSame_eq h.1, ih h.2]
theorem aSameC_eq {a b : Option aCe} (h : aSameC a b = true) : a = b := by
  unfold aSameC at h
  split at h
  · next x y =>
    rw [Bool.and_eq_true, Bool.and_eq_true] at h
    obtain ⟨x1, x2, x3⟩ := x
    obtain ⟨y1, y2, y3⟩ := y
    simp only at h
    rw [Nat.eq_of_beq_eq_true h.1.1, aSame_eq h.1.2, aSameL_eq h.2]
  · next x y =>
    rw [Bool.and_eq_true] at h
    obtain ⟨x1, x2⟩ := x
    obtain ⟨y1, y2⟩ := y
    simp only at h
    rw [Nat.eq_of_beq_eq_true h.1, aSameV_eq h.2]
  · cases h
def aSt (F V : List Int) (L : aLp) (clv : List (Nat × Value)) (M : mHe) : Prop := xE (F ++ V) L.2.2.2.2.2.2.2 ∧ xL (F ++ V) L.2.2.2.2.1 clv ∧ xH (F ++ V) L.2.2.2.2.2.2.1 M
def aLess (up : Bool) (e e' : Int) : Prop := bif up then e < e' else e' < e
/-- back at the head: the head's state holds again, and what grows has grown -/
def aLpOk (F : List Int) (L : aLp) : Prop := ∀ (Y : List Int) (cs : aC) (lv : List (Nat × aV)) (h : aHe) (clv : List (Nat × Value)) (M : mHe), aBack L lv h cs = true → xE (F ++ Y) cs → xL (F ++ Y) lv clv → xH (F ++ Y) h M → (∀ k, k ∉ L.2.2.2.2.2.1 → hget h k = hget L.2.2.2.2.2.2.1 k) → h.1 = L.2.2.2.2.2.2.1.1 → ∃ V, aSt F V L clv M ∧ ∃ e', V[L.2.2.1.2.2.2.2.2.2.1]? = some e' ∧ ∀ e, (F ++ Y)[F.length + L.2.2.1.2.2.2.2.2.2.1]? = some e → aLess L.2.2.1.2.2.2.2.2.2.2 e e'
theorem get_l {F X : List Int} {i : Nat} {e : Int} (h : F[i]? = some e) : (F ++ X)[i]? = some e := by
  rw [List.getElem?_append_left (List.getElem?_eq_some_iff.mp h).1]; exact h
theorem get_r_a {F X : List Int} {j : Nat} : (F ++ X)[F.length + j]? = X[j]? := by
  rw [List.getElem?_append_right (by omega)]
  congr 1
  omega
theorem aSide_sd {kp : List Nat} {p : Nat × Nat} (h : aSide kp p = true) : p.1 = 0 ∨ p.2 ∈ kp := by
  obtain ⟨t, k⟩ := p
  cases t with
  | zero => exact Or.inl rfl
  | succ t =>
    right
    obtain ⟨z, hz, hzk⟩ := List.any_eq_true.mp h
    have := Nat.eq_of_beq_eq_true hzk
    subst this
    exact hz
section HEAD
variable {F Y : List Int} {cs csF : aC} {lv lvh : List (Nat × aV)} {clv : List (Nat × Value)} {h h1 : aHe} {M : mHe} {kp : List Nat} {ls : List (Nat × Int × Int)} {els : List (Nat × Nat × Int × Int)} {rows : List ((Nat × Nat) × Int × Int)} {ds : List ((Nat × Nat) × (Nat × Nat) × Int)} {dcs : List (Nat × Nat × Int)} {v1 v2 : List aV} {kept : List (Nat × aV)} {V : List Int}
/-- a side's number is the atom's -/
theorem aSide_ok {p : Nat × Nat} {i : Nat} {n : Int} (hL : xL (F ++ Y) lv clv) (hk : ∀ k ∈ kp, alg k lv = alg k lvh) (hst : ∀ k a, alg k lvh = some a → xStb F a) (hs : aSide kp p = true) (hi : aAtom F.length lvh p = some i) (hn : nVal V clv p = some n) : (F ++ V)[i]? = some n := by
  obtain ⟨t, k⟩ := p
  cases t with
  | zero =>
    cases hi
    rw [get_r_a]; exact hn
  | succ t =>
    have hkk : k ∈ kp := (aSide_sd hs).resolve_left (by simp)
    unfold aAtom at hi
    simp only at hi
    split at hi
    · next i' z hz =>
      cases hi
      obtain ⟨c, g1, g2⟩ := hL k _ (by rw [hk k hkk]; exact hz)
      have g3 := xV_tr (X := V) (hst k _ hz) g2
      obtain ⟨x, e, rfl, g4, g5⟩ := g3
      simp only [nVal, g1] at hn
      cases hn
      rw [g4, g5]
      simp
    · cases hi
theorem aMk (hF : xE F csF) (hE : xE (F ++ Y) cs) (hL : xL (F ++ Y) lv clv) (hH : xH (F ++ Y) h M) (hk : ∀ k ∈ kp, alg k lv = alg k lvh) (hst : ∀ k a, alg k lvh = some a → xStb F a) (hsd : (ds.all (fun q => aSide kp q.1 && aSide kp q.2.1)) = true) (e1 : aVals cs lv ls = some v1) (e2 : aElems cs h els = some v2) (e3 : aDiffs cs (v1 ++ v2) lv ds = true) (e4 : aDcs F.length lvh ds = some dcs) :
    ∃ V : List Int, xE (F ++ V) (csF.1 ++ ls.map (fun q => (q.2.1, q.2.2)) ++ els.map (fun q => (q.2.2.1, q.2.2.2)), dcs ++ csF.2) ∧ (∀ (j k : Nat) (lo hi : Int), ls[j]? = some (k, lo, hi) → ∃ x : Int32, mlg k clv = some (.int x) ∧ V[j]? = some x.toInt) ∧ (∀ (j c k : Nat) (lo hi : Int), els[j]? = some (c, k, lo, hi) → ∃ x : Int32, mElem M c k = some (.int x) ∧ V[ls.length + j]? = some x.toInt) ∧ (∀ (j : Nat) (a : aV), (v1 ++ v2)[j]? = some a → ∃ x : Int32, V[j]? = some x.toInt ∧ xV (F ++ Y) a (.int x)) := by
  obtain ⟨V1, a1, a2, a3, a4, a5⟩ := aVals_ok hE hL ls v1 e1
  obtain ⟨V2, b1, b2, b3, b4, b5⟩ := aElems_ok hE hH els v2 e2
  have hr : ∀ j, (V1 ++ V2)[ls.length + j]? = V2[j]? := fun j => by rw [← a1]; exact get_r_a
  have hV : ∀ (j : Nat) (a : aV), (v1 ++ v2)[j]? = some a → ∃ x : Int32, (V1 ++ V2)[j]? = some x.toInt ∧ xV (F ++ Y) a (.int x) := by
    intro j a hj
    by_cases hjl : j < v1.length
    · rw [List.getElem?_append_left hjl] at hj
      obtain ⟨x, c1, c2⟩ := a5 j a hj
      exact ⟨x, get_l c1, c2⟩
    · rw [List.getElem?_append_right (by omega)] at hj
      obtain ⟨x, c1, c2⟩ := b5 _ a hj
      refine ⟨x, ?_, c2⟩
      rw [List.getElem?_append_right (by omega), show j - V1.length = j - v1.length by omega]
      exact c1
  have hdc := aDcs_mem ds dcs e4
  have hsd2 : ∀ t ∈ ds, aSide kp t.1 = true ∧ aSide kp t.2.1 = true := fun t ht => by
    have := List.all_eq_true.mp hsd t ht
    rwa [Bool.and_eq_true] at this
  have sdk : ∀ p : Nat × Nat, aSide kp p = true → aSdOk lvh p → aSdOk lv p := by
    intro p hp hq
    obtain ⟨t, k⟩ := p
    cases t with
    | zero => trivial
    | succ t =>
      have hkk : k ∈ kp := (aSide_sd hp).resolve_left (by simp)
      obtain ⟨i, z, hz⟩ := hq
      exact ⟨i, z, by rw [hk k hkk]; exact hz⟩
  have hdf := aDiffs_ok hE hL hV ds e3 (fun t ht => ⟨sdk _ (hsd2 t ht).1 (aAtom_sd (hdc.2 t ht).1), sdk _ (hsd2 t ht).2 (aAtom_sd (hdc.2 t ht).2)⟩)
  refine ⟨V1 ++ V2, ⟨?_, ?_, ?_, ?_⟩, ?_, ?_, hV⟩
  · simp only [List.length_append, List.length_map]
    have := hF.1
    omega
  · intro i e he
    rcases List.mem_append.mp (List.mem_of_getElem? he) with hm | hm
    · obtain ⟨k, hk1⟩ := List.mem_iff_getElem?.mp hm
      exact hF.2.1 k e hk1
    · rcases List.mem_append.mp hm with hm | hm
      · exact a3 e hm
      · exact b3 e hm
  · intro i l u e hi he
    simp only at hi
    by_cases h1 : i < F.length
    · rw [List.getElem?_append_left h1] at he
      rw [List.append_assoc, List.getElem?_append_left (by rw [← hF.1]; exact h1)] at hi
      exact hF.2.2.1 i l u e hi he
    · rw [List.getElem?_append_right (by omega)] at he
      rw [List.append_assoc, List.getElem?_append_right (by rw [← hF.1]; omega), ← hF.1] at hi
      generalize i - F.length = j at he hi
      by_cases h2 : j < ls.length
      · rw [List.getElem?_append_left (by omega)] at he
        rw [List.getElem?_append_left (by simpa using h2), List.getElem?_map] at hi
        cases hl : ls[j]? with
        | none => rw [hl] at hi; cases hi
        | some q =>
          rw [hl] at hi
          obtain ⟨k, lo, hi'⟩ := q
          simp only [Option.map_some, Option.some.injEq, Prod.mk.injEq] at hi
          obtain ⟨x, c1, c2, c3, c4⟩ := a4 j k lo hi' hl
          rw [he] at c2
          cases c2
          omega
      · rw [List.getElem?_append_right (by omega)] at he
        rw [List.getElem?_append_right (by simp; omega), List.getElem?_map, List.length_map] at hi
        rw [a1] at he
        cases hl : els[j - ls.length]? with
        | none => rw [hl] at hi; cases hi
        | some q =>
          rw [hl] at hi
          obtain ⟨c, k, lo, hi'⟩ := q
          simp only [Option.map_some, Option.some.injEq, Prod.mk.injEq] at hi
          obtain ⟨x, c1, c2, c3, c4⟩ := b4 _ c k lo hi' hl
          rw [he] at c2
          cases c2
          omega
  · intro t ht
    rcases List.mem_append.mp ht with ht | ht
    · obtain ⟨s, c1, c2, c3, c4⟩ := hdc.1 t ht
      obtain ⟨m, n, g1, g2, g3⟩ := hdf s c1
      exact ⟨m, n, aSide_ok hL hk hst (hsd2 s c1).1 c2 g1, aSide_ok hL hk hst (hsd2 s c1).2 c3 g2, by rw [← c4]; exact g3⟩
    · obtain ⟨x, y, c1, c2, c3⟩ := hF.2.2.2 t ht
      exact ⟨x, y, get_l c1, get_l c2, c3⟩
  · intro j k lo hi hj
    obtain ⟨x, c1, c2, -⟩ := a4 j k lo hi hj
    exact ⟨x, c1, get_l c2⟩
  · intro j c k lo hi hj
    obtain ⟨x, c1, c2, -⟩ := b4 j c k lo hi hj
    exact ⟨x, c1, by rw [hr]; exact c2⟩
theorem aMkL (hL : xL (F ++ Y) lv clv) (hk : ∀ k ∈ kp, alg k lv = alg k lvh) (hst : ∀ k a, alg k lvh = some a → xStb F a) (hkp : aKeep lv kp = some kept) (hV : ∀ (j k : Nat) (lo hi : Int), ls[j]? = some (k, lo, hi) → ∃ x : Int32, mlg k clv = some (.int x) ∧ V[j]? = some x.toInt) : xL (F ++ V) (aNewL F.length ls ++ kept) clv := by
  intro k v hv
  rw [alg_app_a] at hv
  split at hv
  · next w hw =>
    cases hv
    obtain ⟨i, lo, hi, c1, c2⟩ := aNewL_at _ _ hw
    obtain ⟨x, c3, c4⟩ := hV i k lo hi c1
    subst c2
    exact ⟨_, c3, x, x.toInt, rfl, by rw [get_r_a]; exact c4, by omega⟩
  · obtain ⟨c1, c2⟩ := (aKeep_at (k := k) kp kept hkp).1 v hv
    obtain ⟨c, c3, c4⟩ := hL k v c2
    exact ⟨c, c3, xV_tr (hst k v (by rw [← hk k c1]; exact c2)) c4⟩
/-- places outside the new numbers keep to the atoms of before -/
def hStb (F : List Int) (els : List (Nat × Nat × Int × Int)) (h0 : aHe) : Prop := ∀ c k a, aElem h0 c k = some a → (∀ lo hi, (c, k, lo, hi) ∉ els) → xStb F a
theorem aMkE {h0 : aHe} {c k : Nat} {a : aV} (hH : xH (F ++ Y) h1 M) (hst : hStb F els h0) (hV : ∀ (j c k : Nat) (lo hi : Int), els[j]? = some (c, k, lo, hi) → ∃ x : Int32, mElem M c k = some (.int x) ∧ V[ls.length + j]? = some x.toInt) (h0e : aElem h0 c k = some a) (ha : aElem (aSetEls h1 (F.length + ls.length) els) c k = some a) : ∃ v, mElem M c k = some v ∧ xV (F ++ V) a v := by
  rcases aSetEls_at _ _ _ ha with ⟨i, lo, hi, c1, c2⟩ | ⟨c1, c2⟩
  · obtain ⟨x, c3, c4⟩ := hV i c k lo hi c1
    subst c2
    exact ⟨_, c3, x, x.toInt, rfl, by rw [Nat.add_assoc, get_r_a]; exact c4, by omega⟩
  · obtain ⟨v, c3, c4⟩ := xH_elem hH c2
    exact ⟨v, c3, xV_tr (hst c k a h0e c1) c4⟩
theorem shp_of {x : aCe} {c : Nat} {h0 : aHe} (e : (hget h0 c).map aShp = (hget h1 c).map aShp) (hH : xH (F ++ Y) h1 M) (hx : hget h0 c = some x) : ∃ m, M[c]? = some m ∧ aShp x = mShp m := by
  rw [hx] at e
  cases hc : hget h1 c with
  | none => rw [hc] at e; cases e
  | some z =>
    rw [hc] at e
    simp only [Option.map_some, Option.some.injEq] at e
    obtain ⟨m, c1, c2⟩ := xH_shp hH hc
    exact ⟨m, c1, e.trans c2⟩
end HEAD

/-! A LOOP'S HEAD holds, and its back -/
theorem any_mem {l : List Nat} {c : Nat} (h : l.any (fun j => Nat.beq j c) = true) : c ∈ l := by
  obtain ⟨z, hz, hzk⟩ := List.any_eq_true.mp h
  have := Nat.eq_of_beq_eq_true hzk
  subst this
  exact hz
set_option maxHeartbeats 1000000 in
theorem aHead_ok {E : List Int} {cs : aC} {an : aAn} {y pc : Nat} {lv : List (Nat × aV)} {h : aHe} {clv : List (Nat × Value)} {M : mHe} {L : aLp} (hr : aHead an y pc lv h cs = some L) (hE : xE E cs) (hL : xL E lv clv) (hH : xH E h M) : (∃ V, aSt E V L clv M) ∧ aLpOk E L ∧ L.1 = y ∧ L.2.1 = pc ∧ L.2.2.2.1 = E.length := by
  obtain ⟨kp, ls, md, els, rows, ds, me, up⟩ := an
  unfold aHead at hr
  simp only at hr
  split at hr
  · next kept v1 ids v2 hkp hv1 hids hv2 =>
    split at hr
    · next h1 dcs hh1 hdcs =>
      have hr2 := bif_none hr
      have hb := bif_true hr
      · cases hr2
        rw [Bool.and_eq_true, Bool.and_eq_true, Bool.and_eq_true] at hb
        obtain ⟨⟨⟨b1, b2⟩, b3⟩, b4⟩ := hb
        have hEl : E.length = cs.1.length := hE.1
        have nil : E = E ++ [] := by simp
        have hst : ∀ k a, alg k lv = some a → xStb E a := fun k a hk => by
          obtain ⟨c, -, c2⟩ := hL k a hk
          exact ⟨c, c2⟩
        have hE0 : xE (E ++ []) cs := by rw [← nil]; exact hE
        have hL0 : xL (E ++ []) lv clv := by rw [← nil]; exact hL
        have hH0 : xH (E ++ []) h M := by rw [← nil]; exact hH
        have hH1 : xH E h1 M := aSetRows_ok hE _ _ _ hh1 hH
        have hH1' : xH (E ++ []) h1 M := by rw [← nil]; exact hH1
        have hstb : hStb E els (aSetEls h1 (E.length + ls.length) els) := by
          intro c k a ha hn
          rcases aSetEls_at _ _ _ ha with ⟨i, lo, hi, c1, c2⟩ | ⟨c1, c2⟩
          · exact absurd (List.mem_of_getElem? c1) (hn lo hi)
          · obtain ⟨v, -, c3⟩ := xH_elem hH1 c2
            exact ⟨v, c3⟩
        refine ⟨?_, ?_, rfl, rfl, hEl.symm⟩
        · rw [← hEl] at hdcs
          obtain ⟨V, g1, g2, g3, g4⟩ := aMk (F := E) (Y := []) hE hE0 hL0 hH0 (fun _ _ => rfl) hst b4 hv1 hv2 b1 hdcs
          refine ⟨V, ?_, ?_, ?_⟩
          · exact g1
          · rw [← hEl]
            exact aMkL hL0 (fun _ _ => rfl) hst hkp g2
          · simp only
            rw [← hEl]
            refine xH_mk ?_ (fun c x hx => shp_of (aSetEls_shp _ _ _) hH1' hx) (fun c k a ha => aMkE hH1' hstb g3 ha ha)
            rw [aSetEls_1]; exact hH1.1
        · intro Y cs' lv' h' clv' M' hbk hE' hL' hH' hg h1eq
          unfold aBack at hbk
          simp only at hbk hg h1eq
          split at hbk
          · next kept' v1' v2' hkp' hv1' hv2' =>
            split at hbk
            · next h1' hh1' =>
              rw [Bool.and_eq_true, Bool.and_eq_true, Bool.and_eq_true] at hbk
              obtain ⟨⟨⟨d1, d2⟩, d3⟩, d4⟩ := hbk
              have hkk : kept' = kept := List.append_cancel_left (aSameL_eq d1)
              have hk : ∀ k ∈ kp, alg k lv' = alg k lv := fun k hk => by
                rw [← (aKeep_at kp kept' hkp').2 hk, ← (aKeep_at kp kept hkp).2 hk, hkk]
              rw [← hEl] at hdcs
              obtain ⟨V, g1, g2, g3, g4⟩ := aMk (F := E) (Y := Y) hE hE' hL' hH' hk hst b4 hv1' hv2' d3 hdcs
              have hH1y : xH (E ++ Y) h1' M' := aSetRows_ok hE' _ _ _ hh1' hH'
              refine ⟨V, ⟨g1, ?_, ?_⟩, ?_⟩
              · simp only
                rw [← hEl, ← hkk]
                exact aMkL hL' hk hst hkp' g2
              · simp only
                rw [← hEl]
                rw [← hEl] at h1eq hg d2
                refine xH_mk (by rw [← h1eq]; exact hH'.1) (fun c x hx => ?_) (fun c k a ha => ?_)
                · by_cases hc : c ∈ ids
                  · have e := aSameC_eq (List.all_eq_true.mp d2 c hc)
                    exact shp_of (by rw [← e, aSetEls_shp]) hH1y hx
                  · rw [← hg c hc] at hx
                    exact xH_shp hH' hx
                · by_cases hc : c ∈ ids
                  · have e := aSameC_eq (List.all_eq_true.mp d2 c hc)
                    exact aMkE hH1y hstb g3 ha (by rw [aElem_congr e]; exact ha)
                  · have ha2 := ha
                    rw [← aElem_congr (hg c hc)] at ha2
                    obtain ⟨v, c3, c4⟩ := xH_elem hH' ha2
                    refine ⟨v, c3, xV_tr (hstb c k a ha (fun lo hi z => hc ?_)) c4⟩
                    exact any_mem (List.all_eq_true.mp b2 _ z)
              · split at d4
                · next x hx =>
                  obtain ⟨w, c1, c2⟩ := g4 me x hx
                  refine ⟨w.toInt, c1, fun e he => ?_⟩
                  have hat : xN (E ++ Y) (4, cs.1.length + me, 0, 0) e := ⟨e, by rw [← hEl]; exact he, by omega⟩
                  unfold aLess
                  simp only
                  revert d4
                  cases up
                  · simp only [cond_false]
                    intro d4
                    have := aImp_ok hE' (xN_int c2) hat d4
                    omega
                  · simp only [cond_true]
                    intro d4
                    have := aImp_ok hE' hat (xN_int c2) d4
                    omega
                · cases d4
            · cases hbk
          · cases hbk
    · cases hr
  · cases hr
/-- what a loop's head leaves as it was -/
theorem aHead_g {cs : aC} {an : aAn} {y pc : Nat} {lv : List (Nat × aV)} {h : aHe} {L : aLp} (hr : aHead an y pc lv h cs = some L) : (∀ k, k ∉ L.2.2.2.2.2.1 → hget L.2.2.2.2.2.2.1 k = hget h k) ∧ L.2.2.2.2.2.2.1.1 = h.1 := by
  obtain ⟨kp, ls, md, els, rows, ds, me, up⟩ := an
  unfold aHead at hr
  simp only at hr
  split at hr
  · next kept v1 ids v2 hkp hv1 hids hv2 =>
    split at hr
    · next h1 dcs hh1 hdcs =>
      have hr2 := bif_none hr
      have hb := bif_true hr
      · cases hr2
        rw [Bool.and_eq_true, Bool.and_eq_true, Bool.and_eq_true] at hb
        obtain ⟨⟨⟨b1, b2⟩, b3⟩, b4⟩ := hb
        refine ⟨fun k hk => ?_, ?_⟩
        · simp only at hk ⊢
          rw [aSetEls_ne _ _ _ (fun q hq z => hk (by rw [← z]; exact any_mem (List.all_eq_true.mp b2 q hq)))]
          refine (aSetRows_ne _ _ _ hh1 (fun q hq z => hk ?_)).1
          have := List.all_eq_true.mp b3 q hq
          rw [z] at this
          exact any_mem this
        · simp only
          rw [aSetEls_1]
          exact aSetRows_1 _ _ _ hh1
    · cases hr
  · cases hr

/-! AN ABSTRACT RUN HOLDS WHAT THE SMALL MACHINE'S RUN ENDS WITH; and it ends -/
theorem aColl_mem {α β : Type} {f : α → Option (List β)} : ∀ {l : List α} {r : List β}, aColl f l = some r → ∀ b ∈ l, ∃ x, f b = some x ∧ ∀ y ∈ x, y ∈ r := by
  intro l
  induction l with
  | nil => intro r _ b hb; cases hb
  | cons a l ih =>
    intro r hr b hb
    unfold aColl at hr
    split at hr
    · next x z hx hz =>
      cases hr
      rcases List.mem_cons.mp hb with rfl | hb
      · exact ⟨x, hx, fun y hy => List.mem_append_left _ hy⟩
      · obtain ⟨x', h1, h2⟩ := ih hz b hb
        exact ⟨x', h1, fun y hy => List.mem_append_right _ (h2 y hy)⟩
    · cases hr
theorem aColl_from {α β : Type} {f : α → Option (List β)} : ∀ {l : List α} {r : List β}, aColl f l = some r → ∀ y ∈ r, ∃ b ∈ l, ∃ x, f b = some x ∧ y ∈ x := by
  intro l
  induction l with
  | nil => intro r hr y hy; cases hr; cases hy
  | cons a l ih =>
    intro r hr y hy
    unfold aColl at hr
    split at hr
    · next x z hx hz =>
      cases hr
      rcases List.mem_append.mp hy with hy | hy
      · exact ⟨a, List.mem_cons_self, x, hx, hy⟩
      · obtain ⟨b, h1, h2⟩ := ih hz y hy
        exact ⟨b, List.mem_cons_of_mem _ h1, h2⟩
    · cases hr
theorem hGd_sub {A B : List (List Nat)} {h h' : aHe} (hs : ∀ l ∈ B, l ∈ A) (hg : hGd A h h') : hGd B h h' := ⟨fun l hl => hg.1 l (hs l hl), fun hn => hg.2 (fun z => hn (List.eq_nil_iff_forall_not_mem.mpr (fun l hl => by have := hs l hl; rw [z] at this; cases this)))⟩
def recG (rec : aRec) : Prop := ∀ (sa : aSc) (d : Nat) (G : List (List Nat)) (act : List aLp) (fr : aFr) (h : aHe) (cs : aC) (lfs : List aLf), rec sa d G act fr h cs = some lfs → ∀ lf ∈ lfs, hGd (aIds act ++ G) h lf.2.1
theorem aGn_g {rec : aRec} (hrec : recG rec) {sa : aSc} {d y pc : Nat} {G : List (List Nat)} {act : List aLp} {q : mMd} {lv : List (Nat × aV)} {st : List aV} {h : aHe} {cs : aC} {lfs : List aLf} (hr : aGn rec sa d G act q y pc lv st h cs = some lfs) : ∀ lf ∈ lfs, hGd (aIds act ++ G) h lf.2.1 := by
  intro lf hlf
  unfold aGn at hr
  split at hr
  · cases hr
  · next brs hbrs =>
    have hg := aStep_h hbrs
    obtain ⟨b, hb, x, hx, hlx⟩ := aColl_from hr lf hlf
    unfold aNx at hx
    split at hx
    · next fr' h' e => exact hGd_tr (hg b hb _ e) (hrec _ _ _ _ _ _ _ _ hx lf hlx)
    · split at hx
      · cases hx
      · split at hx
        · cases hx
        · next lfs1 hl1 =>
          obtain ⟨lf1, h1, x1, hx1, hlx1⟩ := aColl_from hx lf hlx
          exact hGd_tr (hrec _ _ _ _ _ _ _ _ hl1 lf1 h1) (hrec _ _ _ _ _ _ _ _ hx1 lf hlx1)
    · cases hx
      rw [List.mem_singleton.mp hlx]
      exact hGd_rf _ _
theorem aHead_hGd {cs : aC} {an : aAn} {y pc : Nat} {lv : List (Nat × aV)} {h : aHe} {L : aLp} {G : List (List Nat)} (hr : aHead an y pc lv h cs = some L) (hk : L.2.2.2.2.2.1.all (fun c => aOkW G c) = true) : hGd G h L.2.2.2.2.2.2.1 := by
  obtain ⟨h1, h2⟩ := aHead_g hr
  refine ⟨fun l hl k hkl => h1 k (fun z => hkl ?_), fun _ => h2⟩
  exact any_mem (List.all_eq_true.mp (List.all_eq_true.mp hk k z) l hl)
theorem aRun_g {ann : Nat → Nat → Option aAn} : ∀ n, recG (aRun ann n) := by
  intro n
  induction n with
  | zero => intro sa d G act fr h cs lfs hr; cases hr
  | succ n ih =>
    intro sa d G act fr h cs lfs hr
    unfold aRun at hr
    split at hr
    · cases hr
    · split at hr
      · exact aGn_g ih hr
      · split at hr
        · split at hr
          · have := bif_none hr
            cases this
            intro lf hlf; cases hlf
          · split at hr
            · cases hr
            · next L hL =>
              intro lf hlf
              have hk := bif_true hr
              exact hGd_tr (aHead_hGd hL hk) (hGd_sub (fun l hl => List.mem_cons_of_mem _ hl) (aGn_g ih (bif_none hr) lf hlf))
        · cases hr
def aEnd (sc : Option (Nat × (Nat → Int32))) (d : Nat) (E : List Int) (fr : mFr) (M : mHe) (lfs : List aLf) : Prop := ∃ lf ∈ lfs, ∃ X N r M', xE (E ++ X) lf.2.2 ∧ mRun sc N d fr M = some (r, M') ∧ xO (E ++ X) lf.1 r ∧ xH (E ++ X) lf.2.1 M'
def aAgn (sc : Option (Nat × (Nat → Int32))) (d : Nat) (E : List Int) (fr : mFr) (M : mHe) (L : aLp) : Prop := ∃ V clv M', mTo sc d fr M (L.1, L.2.1, clv, []) M' ∧ aSt (E.take L.2.2.2.1) V L clv M' ∧ ∃ e', V[L.2.2.1.2.2.2.2.2.2.1]? = some e' ∧ ∀ e, E[L.2.2.2.1 + L.2.2.1.2.2.2.2.2.2.1]? = some e → aLess L.2.2.1.2.2.2.2.2.2.2 e e'
def aCnc (sc : Option (Nat × (Nat → Int32))) (d : Nat) (E : List Int) (act : List aLp) (fr : mFr) (M : mHe) (lfs : List aLf) : Prop := aEnd sc d E fr M lfs ∨ ∃ L ∈ act, aAgn sc d E fr M L
def aActOk (E : List Int) (h : aHe) (L : aLp) : Prop := L.2.2.2.1 ≤ E.length ∧ aLpOk (E.take L.2.2.2.1) L ∧ (∀ k, k ∉ L.2.2.2.2.2.1 → hget h k = hget L.2.2.2.2.2.2.1 k) ∧ h.1 = L.2.2.2.2.2.2.1.1
theorem aCnc_to {sc : Option (Nat × (Nat → Int32))} {d : Nat} {E : List Int} {act : List aLp} {fr fr' : mFr} {M M' : mHe} {lfs : List aLf} (ht : mTo sc d fr M fr' M') (h : aCnc sc d E act fr' M' lfs) : aCnc sc d E act fr M lfs := by
  rcases h with ⟨lf, h1, X, N, r, M2, h2, h3, h4⟩ | ⟨L, h1, V, clv, M2, h2, h3⟩
  · obtain ⟨N', h5⟩ := ht N _ h3
    exact Or.inl ⟨lf, h1, X, N', r, M2, h2, h5, h4⟩
  · exact Or.inr ⟨L, h1, V, clv, M2, mTo_tr ht h2, h3⟩
theorem aCnc_sub {sc : Option (Nat × (Nat → Int32))} {d : Nat} {E : List Int} {act : List aLp} {fr : mFr} {M : mHe} {x lfs : List aLf} (hs : ∀ y ∈ x, y ∈ lfs) (h : aCnc sc d E act fr M x) : aCnc sc d E act fr M lfs := by
  rcases h with ⟨lf, h1, h2⟩ | h1
  · exact Or.inl ⟨lf, hs lf h1, h2⟩
  · exact Or.inr h1
theorem aAgn_app {sc : Option (Nat × (Nat → Int32))} {d : Nat} {E X : List Int} {fr : mFr} {M : mHe} {L : aLp} (hb : L.2.2.2.1 ≤ E.length) (h : aAgn sc d (E ++ X) fr M L) : aAgn sc d E fr M L := by
  obtain ⟨V, clv, M2, h2, h3, e', h4, h5⟩ := h
  rw [List.take_append_of_le_length hb] at h3
  exact ⟨V, clv, M2, h2, h3, e', h4, fun e he => h5 e (get_l he)⟩
theorem aEnd_app {sc : Option (Nat × (Nat → Int32))} {d : Nat} {E X : List Int} {fr : mFr} {M : mHe} {lfs : List aLf} (h : aEnd sc d (E ++ X) fr M lfs) : aEnd sc d E fr M lfs := by
  obtain ⟨lf, h1, X2, N, r, M2, h2⟩ := h
  rw [List.append_assoc] at h2
  exact ⟨lf, h1, X ++ X2, N, r, M2, h2⟩
theorem aCnc_app {sc : Option (Nat × (Nat → Int32))} {d : Nat} {E X : List Int} {act : List aLp} {fr : mFr} {M : mHe} {lfs : List aLf} (hb : ∀ L ∈ act, L.2.2.2.1 ≤ E.length) (h : aCnc sc d (E ++ X) act fr M lfs) : aCnc sc d E act fr M lfs := by
  rcases h with h | ⟨L, h1, h2⟩
  · exact Or.inl (aEnd_app h)
  · exact Or.inr ⟨L, h1, aAgn_app (hb L h1) h2⟩
theorem aActOk_app {E X : List Int} {h : aHe} {L : aLp} (ha : aActOk E h L) : aActOk (E ++ X) h L := by
  obtain ⟨h1, h2, h3⟩ := ha
  refine ⟨by rw [List.length_append]; omega, ?_, h3⟩
  rw [List.take_append_of_le_length h1]; exact h2
theorem aActOk_g {E : List Int} {h h' : aHe} {act : List aLp} {G : List (List Nat)} (hg : hGd (aIds act ++ G) h h') (ha : ∀ L ∈ act, aActOk E h L) : ∀ L ∈ act, aActOk E h' L := by
  intro L hL
  obtain ⟨h1, h2, h3, h4⟩ := ha L hL
  have hm : L.2.2.2.2.2.1 ∈ aIds act ++ G := List.mem_append_left _ (List.mem_map.mpr ⟨L, hL, rfl⟩)
  exact ⟨h1, h2, fun k hk => (hg.1 _ hm k hk).trans (h3 k hk), (hg.2 (fun z => by rw [z] at hm; cases hm)).trans h4⟩
def recOk (rec : aRec) : Prop := ∀ (sa : aSc) (sc : Option (Nat × (Nat → Int32))) (d : Nat) (G : List (List Nat)) (act : List aLp) (fr : aFr) (h : aHe) (cs : aC) (lfs : List aLf) (E : List Int) (clv : List (Nat × Value)) (cst : List Value) (M : mHe), rec sa d G act fr h cs = some lfs → xE E cs → xL E fr.2.2.1 clv → xS E fr.2.2.2 cst → xH E h M → xSc E sa sc → (∀ L ∈ act, aActOk E h L) → aCnc sc d E act (fr.1, fr.2.1, clv, cst) M lfs
theorem aEnt_ok {E : List Int} : ∀ (avs : List aV) (vs : List Value) (i : Nat), xS E avs vs → xL E (aEnt i avs) (lv_args i vs) := by
  intro avs
  induction avs with
  | nil => intro vs i _ k v hk; cases hk
  | cons a avs ih =>
    intro vs i h k v hk
    obtain ⟨w, vs', rfl, h1, h2⟩ := xS_cons h
    have ec : (if w.category = 2 then i + 2 else i + 1) = i + aCat a := by
      rw [xV_cat h1]
      unfold aCat
      cases aIsL a <;> rfl
    unfold lv_args
    rw [ec]
    unfold aEnt alg at hk
    unfold mlg
    rw [List.find?_cons]
    cases hb : Nat.beq i k
    · rw [hb, cond_false] at hk
      obtain ⟨c, h3, h4⟩ := ih vs' _ h2 k v hk
      have hik : (i == k) = false := by
        have : i ≠ k := fun z => by rw [z, Nat.beq_refl] at hb; cases hb
        simpa using this
      rw [hik]
      exact ⟨c, h3, h4⟩
    · rw [hb, cond_true] at hk
      cases hk
      have := Nat.eq_of_beq_eq_true hb
      subst this
      exact ⟨w, by simp, h1⟩
theorem xO_S {E : List Int} {a : Option aV} {r : Option Value} {ast : List aV} {st : List Value} (h : xO E a r) (hs : xS E ast st) : xS E (a.toList ++ ast) (r.toList ++ st) := by
  cases a with
  | none => cases r with
    | none => exact hs
    | some v => exact h.elim
  | some x => cases r with
    | none => exact h.elim
    | some v => exact ⟨h, hs⟩
set_option maxHeartbeats 1000000 in
theorem aGn_ok (hT : aTabOk) {rec : aRec} (hrec : recOk rec) (hrg : recG rec) {sa : aSc} {sc : Option (Nat × (Nat → Int32))} {d y pc : Nat} {G : List (List Nat)} {act : List aLp} {q : mMd} {lv : List (Nat × aV)} {st : List aV} {h : aHe} {cs : aC} {lfs : List aLf} {E : List Int} {clv : List (Nat × Value)} {cst : List Value} {M : mHe} (hr : aGn rec sa d G act q y pc lv st h cs = some lfs) (hq : mjM y = some q) (hE : xE E cs) (hL : xL E lv clv) (hS : xS E st cst) (hH : xH E h M) (hsc : xSc E sa sc) (hA : ∀ L ∈ act, aActOk E h L) : aCnc sc d E act (y, pc, clv, cst) M lfs := by
  unfold aGn at hr
  split at hr
  · cases hr
  · next brs hbrs =>
    have hg := aStep_h hbrs
    obtain ⟨b, hb, g1, g2⟩ := aStep_ok hT hq hE hL hS hH hsc hbrs
    obtain ⟨x, hx, hsub⟩ := aColl_mem hr b hb
    refine aCnc_sub hsub ?_
    unfold aNx at hx
    unfold xR at g2
    split at hx
    · next fr' h' e =>
      rw [e] at g2
      obtain ⟨lv', st', M', k1, k2, k3, k4⟩ := g2
      have hc := hrec sa sc d G act fr' h' b.1 x E lv' st' M' hx g1 k2 k3 k4 hsc (aActOk_g (hg b hb _ e) hA)
      rcases k1 with k1 | ⟨k1, rfl⟩
      · exact aCnc_to (mTo_step k1) hc
      · rw [k1]; exact hc
    · next y2 avs fr' e =>
      rw [e] at g2
      obtain ⟨vs, lv1, st1, k1, k2, k3, k4⟩ := g2
      cases d with
      | zero => cases hx
      | succ d =>
        simp only at hx
        split at hx
        · cases hx
        · next lfs1 hl1 =>
          have hc1 := hrec none none d (aIds act ++ G) [] (y2, 0, aEnt 0 avs, []) h b.1 lfs1 E (lv_args 0 vs) [] M hl1 g1 (aEnt_ok _ _ _ k2) trivial hH (fun n a z => by cases z) (fun L z => by cases z)
          rcases hc1 with ⟨lf, m1, X, N, r, M1, m2, m3, m4, m5⟩ | ⟨L, z, -⟩
          · obtain ⟨x1, hx1, hsub1⟩ := aColl_mem hx lf m1
            have hgd : hGd (aIds act ++ G) h lf.2.1 := hrg _ _ _ _ _ _ _ _ hl1 lf m1
            have hc := hrec sa sc (d + 1) G act (fr'.1, fr'.2.1, fr'.2.2.1, lf.1.toList ++ fr'.2.2.2) lf.2.1 lf.2.2 x1 (E ++ X) lv1 (r.toList ++ st1) M1 hx1 m2 (xL_app k3) (xO_S m4 (xS_app k4)) m5 (xSc_app hsc) (fun L hL => aActOk_app (aActOk_g hgd hA L hL))
            exact aCnc_sub hsub1 (aCnc_to (mTo_call k1 m3) (aCnc_app (fun L hL => (hA L hL).1) hc))
          · cases z
    · next r e =>
      rw [e] at g2
      obtain ⟨r', k1, k2⟩ := g2
      cases hx
      refine Or.inl ⟨_, List.mem_cons_self, [], 1, r', M, ?_, ?_, ?_, ?_⟩
      · simpa using g1
      · unfold mRun
        rw [k1]
      · simpa using k2
      · simpa using hH
theorem aFindL_ok {y pc : Nat} {L : aLp} : ∀ {act : List aLp}, aFindL act y pc = some L → L ∈ act ∧ L.1 = y ∧ L.2.1 = pc := by
  intro act
  induction act with
  | nil => intro h; cases h
  | cons A act ih =>
    intro h
    unfold aFindL at h
    cases hb : (Nat.beq A.1 y && Nat.beq A.2.1 pc)
    · rw [hb, cond_false] at h
      obtain ⟨h1, h2⟩ := ih h
      exact ⟨List.mem_cons_of_mem _ h1, h2⟩
    · rw [hb, cond_true] at h
      cases h
      rw [Bool.and_eq_true] at hb
      exact ⟨List.mem_cons_self, Nat.eq_of_beq_eq_true hb.1, Nat.eq_of_beq_eq_true hb.2⟩
/-- how far what grows (or falls) is from its end -/
def aMu (up : Bool) (o : Option Int) : Nat := match o with
  | none => 5000000000
  | some e => bif up then (2147483648 - e).toNat else (e + 2147483648).toNat
set_option maxHeartbeats 1000000 in
theorem aRun_ok (hT : aTabOk) {ann : Nat → Nat → Option aAn} : ∀ n, recOk (aRun ann n) := by
  intro n
  induction n with
  | zero => intro sa sc d G act fr h cs lfs E clv cst M hr; cases hr
  | succ n ih =>
    intro sa sc d G act fr h cs lfs E clv cst M hr hE hL hS hH hsc hA
    unfold aRun at hr
    split at hr
    · cases hr
    · next q hq =>
      split at hr
      · exact aGn_ok hT ih (aRun_g n) hr hq hE hL hS hH hsc hA
      · split at hr
        · next est =>
          rw [est] at hS
          have hcst := xS_nil hS
          subst hcst
          split at hr
          · next L hf =>
            have hbk := bif_true hr
            obtain ⟨hm, e1, e2⟩ := aFindL_ok hf
            obtain ⟨a1, a2, a3, a4⟩ := hA L hm
            have eE : E = E.take L.2.2.2.1 ++ E.drop L.2.2.2.1 := (List.take_append_drop _ _).symm
            have hlen : (E.take L.2.2.2.1).length = L.2.2.2.1 := by rw [List.length_take]; omega
            obtain ⟨V, b1, e', b2, b3⟩ := a2 (E.drop L.2.2.2.1) cs fr.2.2.1 h clv M hbk (by rw [← eE]; exact hE) (by rw [← eE]; exact hL) (by rw [← eE]; exact hH) a3 a4
            rw [← eE, hlen] at b3
            refine Or.inr ⟨L, hm, V, clv, M, ?_, b1, e', b2, b3⟩
            rw [e1, e2]
            exact mTo_rf
          · split at hr
            · cases hr
            · next L hh =>
              have hk := bif_true hr
              have hgo := bif_none hr
              obtain ⟨⟨V0, hV0⟩, hLp, e1, e2, e3⟩ := aHead_ok hh hE hL hH
              have hg := aHead_hGd hh hk
              have hA' := aActOk_g hg hA
              have main : ∀ (m : Nat) (V : List Int) (clv : List (Nat × Value)) (M : mHe), aMu L.2.2.1.2.2.2.2.2.2.2 V[L.2.2.1.2.2.2.2.2.2.1]? ≤ m → aSt E V L clv M → aCnc sc d E act (fr.1, fr.2.1, clv, []) M lfs := by
                intro m
                induction m using Nat.strongRecOn with
                | ind m ihm =>
                  intro V clv M hmu hst
                  obtain ⟨s1, s2, s3⟩ := hst
                  have hc := aGn_ok hT ih (aRun_g n) hgo hq s1 s2 (cst := []) trivial s3 (xSc_app hsc) (E := E ++ V) (fun A hAm => by
                    rcases List.mem_cons.mp hAm with rfl | hAm
                    · refine ⟨by rw [e3, List.length_append]; omega, ?_, fun _ _ => rfl, rfl⟩
                      rw [e3, List.take_append_of_le_length (Nat.le_refl _), List.take_length]
                      exact hLp
                    · exact aActOk_app (hA' A hAm))
                  rcases hc with hc | ⟨A, hAm, hag⟩
                  · exact Or.inl (aEnd_app hc)
                  · rcases List.mem_cons.mp hAm with rfl | hAm
                    · obtain ⟨V', clv', M', t1, t2, e', t3, t4⟩ := hag
                      rw [e3, List.take_append_of_le_length (Nat.le_refl _), List.take_length] at t2
                      rw [e1, e2] at t1
                      rw [e3] at t4
                      have hb' := t2.1.2.1 (E.length + A.2.2.1.2.2.2.2.2.2.1) e' (by rw [get_r_a]; exact t3)
                      have hlt : aMu A.2.2.1.2.2.2.2.2.2.2 V'[A.2.2.1.2.2.2.2.2.2.1]? < m := by
                        rw [t3]
                        refine Nat.lt_of_lt_of_le ?_ hmu
                        cases hv : V[A.2.2.1.2.2.2.2.2.2.1]? with
                        | none =>
                          unfold aMu
                          simp only
                          cases A.2.2.1.2.2.2.2.2.2.2 <;> simp only [cond_false, cond_true] <;> omega
                        | some e =>
                          have t5 := t4 e (by rw [get_r_a]; exact hv)
                          have hb := s1.2.1 (E.length + A.2.2.1.2.2.2.2.2.2.1) e (by rw [get_r_a]; exact hv)
                          revert t5
                          unfold aMu aLess
                          simp only
                          cases A.2.2.1.2.2.2.2.2.2.2 <;> simp only [cond_false, cond_true] <;> intro t5 <;> omega
                      exact aCnc_to t1 (ihm _ hlt V' clv' M' (Nat.le_refl _) t2)
                    · exact Or.inr ⟨A, hAm, aAgn_app (hA A hAm).1 hag⟩
              exact main _ V0 clv M (Nat.le_refl _) hV0
        · cases hr

