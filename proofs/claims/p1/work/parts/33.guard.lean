/-! WHAT A STEP LEAVES AS IT WAS -/
def hSame (h : aHe) (brs : List (aC × aRs)) : Prop := ∀ b ∈ brs, ∀ x, b.2 = .inl x → x.2 = h
def hGd (G : List (List Nat)) (h h' : aHe) : Prop := (∀ l ∈ G, ∀ k, k ∉ l → hget h' k = hget h k) ∧ (G ≠ [] → h'.1 = h.1)
theorem hGd_rf (G : List (List Nat)) (h : aHe) : hGd G h h := ⟨fun _ _ _ _ => rfl, fun _ => rfl⟩
theorem hGd_tr {G : List (List Nat)} {h h' h2 : aHe} (a : hGd G h h') (b : hGd G h' h2) : hGd G h h2 := ⟨fun l hl k hk => (b.1 l hl k hk).trans (a.1 l hl k hk), fun hn => (b.2 hn).trans (a.2 hn)⟩
def hGs (G : List (List Nat)) (h : aHe) (brs : List (aC × aRs)) : Prop := ∀ b ∈ brs, ∀ x, b.2 = .inl x → hGd G h x.2
theorem hGs_of {G : List (List Nat)} {h : aHe} {brs : List (aC × aRs)} (hs : hSame h brs) : hGs G h brs := fun b hb x hx => by rw [hs b hb x hx]; exact hGd_rf G h
section GRD
variable {cs : aC} {own nL y pc d : Nat} {al : List (Nat × aV)} {ast : List aV} {h : aHe} {e : aIn} {brs : List (aC × aRs)} {G : List (List Nat)} {ini : Bool} {sa : aSc}
theorem aGo_h {y' pc' : Nat} {al' : List (Nat × aV)} {ast' : List aV} (hr : aGo cs y' pc' al' ast' h = some brs) : hSame h brs := by
  unfold aGo at hr
  cases hr
  intro b hb x hx
  rw [List.mem_singleton.mp hb] at hx
  cases hx; rfl
theorem aTo_h {l : List aC} {y' pc' : Nat} {al' : List (Nat × aV)} {ast' : List aV} : hSame h (aTo l y' pc' al' ast' h) := by
  intro b hb x hx
  obtain ⟨c, -, rfl⟩ := List.mem_map.mp hb
  cases hx; rfl
theorem hSame_app {a b : List (aC × aRs)} (ha : hSame h a) (hb : hSame h b) : hSame h (a ++ b) := fun c hc x hx => (List.mem_append.mp hc).elim (fun z => ha c z x hx) (fun z => hb c z x hx)
theorem aSplit_h {v : aV} (hr : aSplit cs y pc al ast h v = some brs) : hSame h brs := by
  unfold aSplit at hr
  split at hr
  · split at hr
    · cases hr
    · next l u hi =>
      cases hb : (ilt l u && ilt (u - l) 300)
      · rw [hb] at hr; cases hr
      · rw [hb, cond_true] at hr
        cases hr
        intro b hb x hx
        obtain ⟨c, -, rfl⟩ := List.mem_map.mp hb
        cases hx; rfl
  · cases hr
theorem aSgl_h {y' pc' : Nat} {v : Option aV} {al' : List (Nat × aV)} {ast' : List aV} (hr : aSgl cs y' pc' al' v ast' h = some brs) : hSame h brs := by
  unfold aSgl at hr
  split at hr
  · cases hr
  · exact aGo_h hr
theorem aBr_h {off : Int} {al' : List (Nat × aV)} {ast' : List aV} (hr : aBr cs y pc off al' ast' h = some brs) : hSame h brs := by
  unfold aBr at hr
  split at hr
  · cases hr
  · exact aGo_h hr
theorem aTbl_h {a : aV} : ∀ (offs : List Int) (k : Int) (brs : List (aC × aRs)), aTbl cs a y pc al ast h k offs = some brs → hSame h brs := by
  intro offs
  induction offs with
  | nil => intro k brs hr; cases hr; intro b hb; cases hb
  | cons o offs ih =>
    intro k brs hr
    unfold aTbl at hr
    split at hr
    · next r t h1 h2 =>
      cases hr
      exact hSame_app aTo_h (ih _ _ h1)
    · cases hr
theorem bif_none {α : Type} {b : Bool} {x : Option α} {r : α} (h : (bif b then x else none) = some r) : x = some r := by
  cases b
  · cases h
  · exact h
theorem aOp1_h (hr : aOp1 e cs y pc al ast h = some brs) : hSame h brs := by
  unfold aOp1 at hr
  split at hr <;> (try split at hr) <;> first | exact aGo_h (bif_none hr) | exact aGo_h hr | cases hr
theorem aOp2_h (hr : aOp2 nL e cs y pc al ast h = some brs) : hSame h brs := by
  unfold aOp2 at hr
  split at hr <;> (try split at hr) <;> first | exact aGo_h (bif_none hr) | exact aGo_h hr | cases hr
theorem aOp3_h (hr : aOp3 e cs y pc al ast h = some brs) : hSame h brs := by
  unfold aOp3 at hr
  split at hr
  all_goals first
    | exact aGo_h (bif_none hr)
    | exact aSgl_h (bif_none hr)
    | (have h2 := bif_none hr
       revert h2
       cases aMod cs _ _
       · exact aSgl_h
       · exact aSplit_h)
    | (have h2 := bif_none hr
       cases h2
       exact hSame_app (hSame_app aTo_h aTo_h) aTo_h)
    | cases hr
theorem aOp4_h (hr : aOp4 e cs y pc al ast h = some brs) : hSame h brs := by
  unfold aOp4 at hr
  split at hr
  · exact aBr_h hr
  · have h2 := bif_none hr
    split at h2
    · cases h2
    · cases h2
      exact hSame_app aTo_h aTo_h
  · have h2 := bif_none hr
    split at h2
    · cases h2
    · cases h2
      exact hSame_app aTo_h aTo_h
  · have h2 := bif_none hr
    split at h2
    · next k hk =>
      revert h2
      cases (ilt k _ || ilt _ k)
      · simp only [cond_false]
        intro h2
        split at h2
        · exact aBr_h h2
        · cases h2
      · exact aBr_h
    · split at h2
      · next r t h3 h4 =>
        cases h2
        exact hSame_app (aTbl_h _ _ _ h3) aTo_h
      · cases h2
  · have h2 := bif_none hr
    split at h2
    · exact aBr_h h2
    · exact aSplit_h h2
  · cases hr
theorem aCall_h {rest vs : List aV} (hr : aCall e cs y pc al rest vs = some brs) : hSame h brs := by
  unfold aCall at hr
  have h2 := bif_none hr
  cases h2
  intro b hb x hx
  rw [List.mem_singleton.mp hb] at hx
  cases hx
theorem aOp6_h (hr : aOp6 d e cs y pc al ast h = some brs) : hSame h brs := by
  unfold aOp6 at hr
  split at hr <;> (try split at hr) <;> first
    | exact aCall_h (bif_none hr)
    | exact aGo_h (bif_none hr)
    | (have h2 := bif_none hr
       cases h2
       exact hSame_app aTo_h aTo_h)
    | (have h2 := bif_none hr
       split at h2 <;> first | exact aCall_h (bif_none h2) | exact aGo_h h2 | cases h2)
    | cases hr
theorem aOp7_h {rt : Option FieldType} (hr : aOp7 rt e cs ast = some brs) : hSame h brs := by
  have key : ∀ r : Option aV, hSame h [(cs, .inr (.inr r))] := by
    intro r b hb x hx
    rw [List.mem_singleton.mp hb] at hx
    cases hx
  unfold aOp7 at hr
  split at hr <;> first
    | (have h2 := bif_none hr
       cases h2
       exact key _)
    | (cases hr; exact key _)
    | cases hr
theorem hGd_set {k : Nat} {c : aCe} (hk : aOkW G k = true) : hGd G h (hset h k c) := by
  refine ⟨fun l hl j hj => ?_, fun _ => hset_1 h k c⟩
  rw [hget_set]
  have h1 := List.all_eq_true.mp hk l hl
  obtain ⟨z, hz, hzk⟩ := List.any_eq_true.mp h1
  have := Nat.eq_of_beq_eq_true hzk
  subst this
  rw [if_neg (fun q => hj (by rw [q.1]; exact hz))]
theorem aGo_g {y' pc' : Nat} {al' : List (Nat × aV)} {ast' : List aV} {h' : aHe} (hr : aGo cs y' pc' al' ast' h' = some brs) (hg : hGd G h h') : hGs G h brs := by
  unfold aGo at hr
  cases hr
  intro b hb x hx
  rw [List.mem_singleton.mp hb] at hx
  cases hx; exact hg
set_option maxHeartbeats 1000000 in
theorem aOp5_h (hr : aOp5 sa ini own G e cs y pc al ast h = some brs) : hGs G h brs := by
  unfold aOp5 at hr
  split at hr
  · split at hr
    · have h2 := bif_none hr
      split at h2
      · have h3 := bif_none h2
        split at h3
        · exact hGs_of (aGo_h h3)
        · cases h3
      · cases h2
    · cases hr
  · split at hr
    · next v r b1 b2 ast' =>
      cases hb : (Nat.ble 9 r && aOkW G (r - 9))
      · rw [hb] at hr; cases hr
      · rw [hb, cond_true] at hr
        rw [Bool.and_eq_true] at hb
        split at hr
        · exact aGo_g (bif_none hr) (hGd_set hb.2)
        · cases hr
    · cases hr
  · split at hr
    · next i r b1 b2 ast' =>
      have h2 := bif_none hr
      revert h2
      cases Nat.beq r 0
      · simp only [cond_false]
        intro h2
        have h3 := bif_none h2
        split at h3
        · have h4 := bif_none h3
          split at h4
          · exact hGs_of (aGo_h h4)
          · split at h4
            · exact hGs_of (aGo_h h4)
            · split at h4
              · next hsp => cases h4; exact hGs_of (aSplit_h hsp)
              · exact hGs_of (aGo_h h4)
        · cases h3
      · simp only [cond_true]
        intro h2
        split at h2
        · cases h2
        · split at h2
          · cases h2
          · exact hGs_of (aGo_h (bif_none h2))
    · cases hr
  · split at hr
    · next xa i r b1 b2 ast' =>
      cases hb : (aIsI i && aIsI xa && Nat.ble 9 r && aOkW G (r - 9))
      · rw [hb] at hr; cases hr
      · rw [hb, cond_true] at hr
        rw [Bool.and_eq_true] at hb
        split at hr
        · next a hg =>
          have h2 := bif_none hr
          split at h2
          · exact aGo_g h2 (hGd_set hb.2)
          · generalize aBd cs i = p at h2
            obtain ⟨l, u⟩ := p
            simp only at h2
            revert h2
            cases (aSame xa a.2.1 && a.2.2.all (fun q => ilt (Int.ofNat q.1) l || ilt u (Int.ofNat q.1)))
            · simp only [cond_false]
              intro h2
              split at h2
              · next hsp => cases h2; exact hGs_of (aSplit_h (bif_none hsp))
              · exact aGo_g h2 (hGd_set hb.2)
            · simp only [cond_true]
              intro h2
              exact hGs_of (aGo_h h2)
        · cases hr
    · cases hr
  · split at hr
    · next r b1 b2 ast' =>
      revert hr
      cases Nat.beq r 0
      · simp only [cond_false]
        intro hr
        have h2 := bif_none hr
        split at h2
        · exact hGs_of (aGo_h (bif_none h2))
        · cases h2
      · simp only [cond_true]
        intro hr
        split at hr
        · cases hr
        · exact hGs_of (aGo_h hr)
    · cases hr
  · split at hr
    · have h2 := bif_none hr
      split at h2
      · cases h2
      · have h3 := bif_none h2
        split at h3
        · exact aGo_g h3 ⟨fun l hl => (by cases hl), fun hn => absurd rfl hn⟩
        · cases h3
    · cases hr
  · split at hr
    · next q ty hq hty =>
      revert hr
      cases (List.range q.2.2).any (fun j => Nat.beq (aDef (ty j)).1 99)
      · simp only [cond_false]
        intro hr
        split at hr
        · exact aGo_g hr ⟨fun l hl => (by cases hl), fun hn => absurd rfl hn⟩
        · cases hr
      · intro hr; cases hr
    · cases hr
  · cases hr
theorem aOr_or {a b : Option (List (aC × aRs))} {x : List (aC × aRs)} (h : aOr a b = some x) : a = some x ∨ b = some x := by
  unfold aOr at h
  split at h
  · exact Or.inl h
  · exact Or.inr h
theorem aStep_h {q : mMd} (hr : aStep sa G d q y pc al ast h cs = some brs) : hGs G h brs := by
  unfold aStep at hr
  split at hr
  · cases hr
  · rcases aOr_or hr with hr | hr
    · exact hGs_of (aOp1_h hr)
    rcases aOr_or hr with hr | hr
    · exact hGs_of (aOp2_h hr)
    rcases aOr_or hr with hr | hr
    · exact hGs_of (aOp3_h hr)
    rcases aOr_or hr with hr | hr
    · exact hGs_of (aOp4_h hr)
    rcases aOr_or hr with hr | hr
    · exact aOp5_h hr
    rcases aOr_or hr with hr | hr
    · exact hGs_of (aOp6_h hr)
    · exact hGs_of (aOp7_h hr)
end GRD
