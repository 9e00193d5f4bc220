/-! RUNS THAT END WHERE A STOP IS FIRST REACHED -/
def mPathS (S : Nat → Nat → Bool) (sc : Option (Nat × (Nat → Int32))) (d : Nat) : Nat → mFr → mHe → mFr → mHe → Prop
  | 0, fr, M, fr', M' => fr = fr' ∧ M = M'
  | k + 1, fr, M, fr', M' => S fr.1 fr.2.1 = false ∧ ∃ fr1 M1, mS1 sc d fr M fr1 M1 ∧ mPathS S sc d k fr1 M1 fr' M'
def mToS (S : Nat → Nat → Bool) (sc : Option (Nat × (Nat → Int32))) (d : Nat) (fr : mFr) (M : mHe) (fr' : mFr) (M' : mHe) : Prop := ∃ k, mPathS S sc d k fr M fr' M'
section MTS
variable {S : Nat → Nat → Bool} {sc : Option (Nat × (Nat → Int32))} {d : Nat}
theorem mPathS_tr : ∀ (k : Nat) {k2 : Nat} {fr f1 f2 : mFr} {M M1 M2 : mHe}, mPathS S sc d k fr M f1 M1 → mPathS S sc d k2 f1 M1 f2 M2 → mPathS S sc d (k + k2) fr M f2 M2 := by
  intro k
  induction k with
  | zero => intro k2 fr f1 f2 M M1 M2 a b; obtain ⟨rfl, rfl⟩ := a; rw [Nat.zero_add]; exact b
  | succ k ih =>
    intro k2 fr f1 f2 M M1 M2 a b
    obtain ⟨hs, g1, G1, a1, a2⟩ := a
    rw [show k + 1 + k2 = (k + k2) + 1 by omega]
    exact ⟨hs, g1, G1, a1, ih a2 b⟩
theorem mToS_rf {fr : mFr} {M : mHe} : mToS S sc d fr M fr M := ⟨0, rfl, rfl⟩
theorem mToS_tr {fr fr1 fr2 : mFr} {M M1 M2 : mHe} (a : mToS S sc d fr M fr1 M1) (b : mToS S sc d fr1 M1 fr2 M2) : mToS S sc d fr M fr2 M2 := by
  obtain ⟨k, a⟩ := a
  obtain ⟨k2, b⟩ := b
  exact ⟨k + k2, mPathS_tr k a b⟩
theorem mToS_step {fr fr' : mFr} {M M' : mHe} (hs : S fr.1 fr.2.1 = false) (h : mStep sc d fr M = some (.inl (fr', M'))) : mToS S sc d fr M fr' M' := ⟨1, hs, fr', M', Or.inl h, rfl, rfl⟩
theorem mToS_call {y N1 : Nat} {vs : List Value} {fr fr' : mFr} {M M1 : mHe} {r : Option Value} (hs : S fr.1 fr.2.1 = false) (h : mStep sc (d + 1) fr M = some (.inr (.inl (y, vs, fr')))) (hc : mRun none N1 d (y, 0, lv_args 0 vs, []) M = some (r, M1)) : mToS S sc (d + 1) fr M (fr'.1, fr'.2.1, fr'.2.2.1, r.toList ++ fr'.2.2.2) M1 := ⟨1, hs, _, M1, Or.inr ⟨d, y, vs, fr', N1, r, rfl, h, hc, rfl⟩, rfl, rfl⟩
theorem mPathS_to : ∀ (k : Nat) {fr fr' : mFr} {M M' : mHe}, mPathS S sc d k fr M fr' M' → mPath sc d k fr M fr' M' := by
  intro k
  induction k with
  | zero => intro fr fr' M M' a; exact a
  | succ k ih => intro fr fr' M M' a; obtain ⟨-, g, G, a1, a2⟩ := a; exact ⟨g, G, a1, ih a2⟩
theorem mToS_to {fr fr' : mFr} {M M' : mHe} (a : mToS S sc d fr M fr' M') : mTo sc d fr M fr' M' := by
  obtain ⟨k, a⟩ := a
  exact mPath_run k (mPathS_to k a)
theorem mToS_run {fr fr' : mFr} {M M' : mHe} (a : mToS S sc d fr M fr' M') : ∀ (N : Nat) (x : Option Value × mHe), mRun sc N d fr' M' = some x → ∃ N', mRun sc N' d fr M = some x := mTo_run (mToS_to a)
/-- the first stop is one -/
theorem mPathS_uniq : ∀ (k k2 : Nat) {fr f1 f2 : mFr} {M M1 M2 : mHe}, mPathS S sc d k fr M f1 M1 → mPathS S sc d k2 fr M f2 M2 → S f1.1 f1.2.1 = true → S f2.1 f2.2.1 = true → f1 = f2 ∧ M1 = M2 := by
  intro k
  induction k with
  | zero =>
    intro k2 fr f1 f2 M M1 M2 a b s1 s2
    obtain ⟨rfl, rfl⟩ := a
    cases k2 with
    | zero => exact b
    | succ k2 => rw [b.1] at s1; cases s1
  | succ k ih =>
    intro k2 fr f1 f2 M M1 M2 a b s1 s2
    obtain ⟨hs, g, G, a1, a2⟩ := a
    cases k2 with
    | zero =>
      obtain ⟨rfl, rfl⟩ := b
      rw [hs] at s2; cases s2
    | succ k2 =>
      obtain ⟨-, g', G', b1, b2⟩ := b
      obtain ⟨rfl, rfl⟩ := mS1_det a1 b1
      exact ih k2 a2 b2 s1 s2
theorem mToS_uniq {fr f1 f2 : mFr} {M M1 M2 : mHe} (a : mToS S sc d fr M f1 M1) (b : mToS S sc d fr M f2 M2) (s1 : S f1.1 f1.2.1 = true) (s2 : S f2.1 f2.2.1 = true) : f1 = f2 ∧ M1 = M2 := by
  obtain ⟨k, a⟩ := a
  obtain ⟨k2, b⟩ := b
  exact mPathS_uniq k k2 a b s1 s2
/-- fr runs to its method's end, and no stop is passed -/
def mRetS (S : Nat → Nat → Bool) (sc : Option (Nat × (Nat → Int32))) (d : Nat) (fr : mFr) (M : mHe) : Prop := ∃ fr1 M1 r1, mToS S sc d fr M fr1 M1 ∧ S fr1.1 fr1.2.1 = false ∧ mStep sc d fr1 M1 = some (.inr (.inr r1))
theorem mS1_noret {sc : Option (Nat × (Nat → Int32))} {d : Nat} {fr f1 : mFr} {M M1 : mHe} {r : Option Value} (a : mS1 sc d fr M f1 M1) (h : mStep sc d fr M = some (.inr (.inr r))) : False := by
  rcases a with a | ⟨d1, y1, vs1, fc1, N1, r1, e1, s1, c1, g1⟩
  · rw [a] at h; cases h
  · rw [s1] at h; cases h
theorem mPathS_noret : ∀ (k k2 : Nat) {fr f1 f2 : mFr} {M M1 M2 : mHe} {r : Option Value}, mPathS S sc d k fr M f1 M1 → S f1.1 f1.2.1 = true → mPathS S sc d k2 fr M f2 M2 → S f2.1 f2.2.1 = false → mStep sc d f2 M2 = some (.inr (.inr r)) → False := by
  intro k
  induction k with
  | zero =>
    intro k2 fr f1 f2 M M1 M2 r a s1 b s2 h
    obtain ⟨rfl, rfl⟩ := a
    cases k2 with
    | zero =>
      obtain ⟨rfl, rfl⟩ := b
      rw [s1] at s2; cases s2
    | succ k2 =>
      have := b.1
      rw [s1] at this; cases this
  | succ k ih =>
    intro k2 fr f1 f2 M M1 M2 r a s1 b s2 h
    obtain ⟨hs, g, G, a1, a2⟩ := a
    cases k2 with
    | zero =>
      obtain ⟨rfl, rfl⟩ := b
      exact mS1_noret a1 h
    | succ k2 =>
      obtain ⟨-, g', G', b1, b2⟩ := b
      obtain ⟨rfl, rfl⟩ := mS1_det a1 b1
      exact ih k2 a2 s1 b2 s2 h
/-- what comes to a stop has no end ahead of it -/
theorem mRetS_no {fr f1 : mFr} {M M1 : mHe} (a : mToS S sc d fr M f1 M1) (s1 : S f1.1 f1.2.1 = true) (h : mRetS S sc d fr M) : False := by
  obtain ⟨k, a⟩ := a
  obtain ⟨f2, M2, r, ⟨k2, b⟩, s2, h⟩ := h
  exact mPathS_noret k k2 a s1 b s2 h
end MTS
/-- where a run is stopped -/
def sP (K : tKt) (y pc : Nat) : Bool := match K.1 y pc with
  | some (.inr none) => true
  | _ => false
/-- what a list of ends says -/
def sEnd1 (S : Nat → Nat → Bool) (xs : tXs) (sc : Option (Nat × (Nat → Int32))) (d : Nat) (E : List Int) (Ws : List (List tG)) (fr : mFr) (M : mHe) (lf : tLf_) : Prop := ∃ X, xE (E ++ X) lf.2.2 ∧ (match lf.1 with
  | .inr r => ∃ N r' M', mRun sc N d fr M = some (r', M') ∧ yO (E ++ X) r r' ∧ yH xs (E ++ X) lf.2.1 M' ∧ (∀ W ∈ Ws, yFr W M M') ∧ mRetS S sc d fr M
  | .inl afr => ∃ lv' st' M', mToS S sc d fr M (afr.1, afr.2.1, lv', st') M' ∧ yLv (E ++ X) afr.2.2.1 lv' ∧ yS (E ++ X) afr.2.2.2 st' ∧ yH xs (E ++ X) lf.2.1 M' ∧ ∀ W ∈ Ws, yFr W M M')
def sEnd (S : Nat → Nat → Bool) (xs : tXs) (sc : Option (Nat × (Nat → Int32))) (d : Nat) (E : List Int) (Ws : List (List tG)) (fr : mFr) (M : mHe) (lfs : List tLf_) : Prop := ∃ lf ∈ lfs, sEnd1 S xs sc d E Ws fr M lf
/-- again at the head of one of the loops -/
def sAgn (S : Nat → Nat → Bool) (xs : tXs) (sc : Option (Nat × (Nat → Int32))) (d : Nat) (E : List Int) (Ws : List (List tG)) (fr : mFr) (M : mHe) : List tLp → Prop
  | [] => False
  | L :: post => (∃ V clv M', mToS S sc d fr M (L.1, L.2.1, clv, []) M' ∧ tSt xs (E.take L.2.2.2.1) V L clv M' ∧ (∃ e', V[L.2.2.1.2.2.2.2.1]? = some e' ∧ ∀ e, E[L.2.2.2.1 + L.2.2.1.2.2.2.2.1]? = some e → tLess L.2.2.1.2.2.2.2.2.1 e e') ∧ ∀ W ∈ L.2.2.1.2.2.2.2.2.2.2 :: (tWs post ++ Ws), yFr W M M') ∨ sAgn S xs sc d E Ws fr M post
def sCnc (S : Nat → Nat → Bool) (xs : tXs) (sc : Option (Nat × (Nat → Int32))) (d : Nat) (E : List Int) (Ws : List (List tG)) (act : List tLp) (fr : mFr) (M : mHe) (lfs : List tLf_) : Prop := sEnd S xs sc d E Ws fr M lfs ∨ sAgn S xs sc d E Ws fr M act
def sRecOk (S : Nat → Nat → Bool) (xs : tXs) (rec : tRec) : Prop := ∀ (sb : Bool) (sc : Option (Nat × (Nat → Int32))) (d : Nat) (Ws : List (List tG)) (act : List tLp) (fr : aFr) (h : tF) (cs : aC) (lfs : List tLf_) (E : List Int) (clv : List (Nat × Value)) (cst : List Value) (M : mHe), rec sb d Ws act fr h cs = some lfs → xE E cs → yLv E fr.2.2.1 clv → yS E fr.2.2.2 cst → yH xs E h M → ySc xs E sb sc → (∀ L ∈ act, tActOk xs E L) → sCnc S xs sc d E Ws act (fr.1, fr.2.1, clv, cst) M lfs
section STRN
variable {S : Nat → Nat → Bool} {xs : tXs} {sc : Option (Nat × (Nat → Int32))} {d : Nat} {E X : List Int} {Ws : List (List tG)} {fr fr' : mFr} {M M' : mHe} {lfs : List tLf_}
theorem sEnd1_to {lf : tLf_} (ht : mToS S sc d fr M fr' M') (hW : ∀ W ∈ Ws, yFr W M M') (h : sEnd1 S xs sc d E Ws fr' M' lf) : sEnd1 S xs sc d E Ws fr M lf := by
  obtain ⟨X, h0, h⟩ := h
  refine ⟨X, h0, ?_⟩
  split at h
  · obtain ⟨N, r, M2, h1, h2, h3, h4, f2, G2, r2, g1, g2, g3⟩ := h
    obtain ⟨N', h5⟩ := mToS_run ht N _ h1
    exact ⟨N', r, M2, h5, h2, h3, fun W hw => yFr_tr (hW W hw) (h4 W hw), f2, G2, r2, mToS_tr ht g1, g2, g3⟩
  · obtain ⟨lv', st', M2, h1, h2, h3, h4, h5⟩ := h
    exact ⟨lv', st', M2, mToS_tr ht h1, h2, h3, h4, fun W hw => yFr_tr (hW W hw) (h5 W hw)⟩
theorem sAgn_to (ht : mToS S sc d fr M fr' M') : ∀ (act : List tLp), (∀ W ∈ tWs act ++ Ws, yFr W M M') → sAgn S xs sc d E Ws fr' M' act → sAgn S xs sc d E Ws fr M act := by
  intro act
  induction act with
  | nil => intro _ h; exact h
  | cons L act ih =>
    intro hW h
    rcases h with ⟨V, clv, M2, h2, h3, h4, h5⟩ | h
    · exact Or.inl ⟨V, clv, M2, mToS_tr ht h2, h3, h4, fun W hw => yFr_tr (hW W (by simpa [tWs] using hw)) (h5 W hw)⟩
    · exact Or.inr (ih (fun W hw => hW W (by
        rw [tWs, List.map_cons, List.cons_append]
        exact List.mem_cons_of_mem _ hw)) h)
theorem sCnc_to {act : List tLp} (ht : mToS S sc d fr M fr' M') (hW : ∀ W ∈ tWs act ++ Ws, yFr W M M') (h : sCnc S xs sc d E Ws act fr' M' lfs) : sCnc S xs sc d E Ws act fr M lfs := by
  rcases h with ⟨lf, h1, h2⟩ | h
  · exact Or.inl ⟨lf, h1, sEnd1_to ht (fun W hw => hW W (List.mem_append_right _ hw)) h2⟩
  · exact Or.inr (sAgn_to ht act hW h)
theorem sCnc_sub {act : List tLp} {x : List tLf_} (hs : ∀ y ∈ x, y ∈ lfs) (h : sCnc S xs sc d E Ws act fr M x) : sCnc S xs sc d E Ws act fr M lfs := by
  rcases h with ⟨lf, h1, h2⟩ | h1
  · exact Or.inl ⟨lf, hs lf h1, h2⟩
  · exact Or.inr h1
theorem sEnd1_app {lf : tLf_} (h : sEnd1 S xs sc d (E ++ X) Ws fr M lf) : sEnd1 S xs sc d E Ws fr M lf := by
  obtain ⟨X2, h0, h⟩ := h
  rw [List.append_assoc] at h0
  exact ⟨X ++ X2, h0, by simpa only [List.append_assoc] using h⟩
theorem sAgn_app : ∀ (act : List tLp), (∀ L ∈ act, L.2.2.2.1 ≤ E.length) → sAgn S xs sc d (E ++ X) Ws fr M act → sAgn S xs sc d E Ws fr M act := by
  intro act
  induction act with
  | nil => intro _ h; exact h
  | cons L act ih =>
    intro hb h
    rcases h with ⟨V, clv, M2, h2, h3, ⟨e', h4, h5⟩, h6⟩ | h
    · rw [List.take_append_of_le_length (hb L List.mem_cons_self)] at h3
      exact Or.inl ⟨V, clv, M2, h2, h3, ⟨e', h4, fun e he => h5 e (get_app he)⟩, h6⟩
    · exact Or.inr (ih (fun L hL => hb L (List.mem_cons_of_mem _ hL)) h)
theorem sCnc_app {act : List tLp} (hb : ∀ L ∈ act, L.2.2.2.1 ≤ E.length) (h : sCnc S xs sc d (E ++ X) Ws act fr M lfs) : sCnc S xs sc d E Ws act fr M lfs := by
  rcases h with ⟨lf, h1, h2⟩ | h
  · exact Or.inl ⟨lf, h1, sEnd1_app h2⟩
  · exact Or.inr (sAgn_app act hb h)
set_option maxHeartbeats 1000000 in
theorem sGn_ok (hT : aTabOk) {K : tKt} (hK : ∀ ct ∈ K.2, tCtOk ct) {rec : tRec} (hrec : sRecOk S xs rec) {sb : Bool} {act : List tLp} {q : mMd} {y pc : Nat} {al : List (Nat × aV)} {ast : List aV} {h : tF} {cs : aC} {clv : List (Nat × Value)} {cst : List Value} (hr : tGn K rec sb d Ws act q y pc al ast h cs = some lfs) (hq : mjM y = some q) (hns : S y pc = false)
    (hE : xE E cs) (hL : yLv E al clv) (hS : yS E ast cst) (hH : yH xs E h M) (hsc : ySc xs E sb sc) (hA : ∀ L ∈ act, tActOk xs E L) : sCnc S xs sc d E Ws act (y, pc, clv, cst) M lfs := by
  unfold tGn at hr
  split at hr
  · cases hr
  · next brs hbrs =>
    obtain ⟨b, hb, X, hX, hR⟩ := tStep_ok (sc := sc) hT hq hE hL hS hH hsc hbrs
    obtain ⟨x, hx, hsub⟩ := tColl_mem hr b hb
    refine sCnc_sub hsub (sCnc_app (X := X) (fun L hL => (hA L hL).1) ?_)
    have hA' : ∀ L ∈ act, tActOk xs (E ++ X) L := fun L hL => tActOk_app (hA L hL)
    have hb' : ∀ L ∈ act, L.2.2.2.1 ≤ (E ++ X).length := fun L hL => (hA' L hL).1
    obtain ⟨c, res⟩ := b
    unfold tNx at hx
    simp only at hx hX hR
    split at hx
    · next fr' h' =>
      obtain ⟨lv', st', M', r1, r2, r3, r4, r5⟩ := hR
      exact sCnc_to (mToS_step hns r1) r5 (hrec sb sc d Ws act fr' h' c x (E ++ X) lv' st' M' hx hX r2 r3 r4 (ySc_app hsc) hA')
    · next y' vs fr' =>
      obtain ⟨cvs, lv1, st1, r1, r2, r3, r4⟩ := hR
      have hH' := yH_app (X := X) hH
      have after : ∀ {d' N1 : Nat} {r : Option Value} {M1 : mHe} {l : List (Option aV × tF × aC)} {lf : Option aV × tF × aC} {X2 : List Int}, d = d' + 1 → mRun none N1 d' (y', 0, lv_args 0 cvs, []) M = some (r, M1) → tColl (tAft rec sb (d' + 1) Ws act fr') l = some x → lf ∈ l → xE (E ++ X ++ X2) lf.2.2 → yO (E ++ X ++ X2) lf.1 r → yH xs (E ++ X ++ X2) lf.2.1 M1 → (∀ W ∈ tWs act ++ Ws, yFr W M M1) → sCnc S xs sc d (E ++ X) Ws act (y, pc, clv, cst) M x := by
        intro d' N1 r M1 l lf X2 hd hrun hcl hlf g1 g2 g3 g4
        subst hd
        obtain ⟨x1, hx1, hsub1⟩ := tColl_mem hcl lf hlf
        refine sCnc_sub hsub1 (sCnc_app (X := X2) hb' ?_)
        refine sCnc_to (mToS_call hns r1 hrun) g4 ?_
        exact hrec sb sc (d' + 1) Ws act (fr'.1, fr'.2.1, fr'.2.2.1, lf.1.toList ++ fr'.2.2.2) lf.2.1 lf.2.2 x1 (E ++ X ++ X2) lv1 (r.toList ++ st1) M1 hx1 g1 (yLv_app r3) (yO_S g2 (yS_app r4)) g3 (ySc_app (ySc_app hsc)) (fun L hL => tActOk_app (hA' L hL))
      split at hx
      · cases hx
      · next d' =>
        split at hx
        · next ct hct =>
          obtain ⟨c1, c2⟩ := tFc_mem hct
          split at hx
          · cases hx
          · next l hl =>
            obtain ⟨N, r, M', m1, lf, m2, X2, m3, m4, m5, m6⟩ := tApp_ok (hK ct c1) hX r2 hH' hl
            rw [c2] at m1
            exact after rfl m1 hx m2 m3 m4 m5 m6
        · have hent := tEnt_ok vs cvs c (E ++ X) 0 hX r2
          generalize tEnt c 0 vs = ent at hx hent
          obtain ⟨elv, ecs⟩ := ent
          simp only at hx hent
          obtain ⟨X2, e1, e2⟩ := hent
          split at hx
          · cases hx
          · next lfs1 hl1 =>
            split at hx
            · cases hx
            · next l hl =>
              have := hrec false none d' (tWs act ++ Ws) [] (y', 0, elv, []) h ecs lfs1 (E ++ X ++ X2) (lv_args 0 cvs) [] M hl1 e1 e2 trivial (yH_app hH') (fun z => by cases z) (fun L hL => by cases hL)
              rcases this with ⟨lf, f1, X3, f2, f3⟩ | z
              · obtain ⟨r, h2, cs2, g1, g2⟩ := tEnds_ok hl lf f1
                subst g1
                obtain ⟨N, r', M1, k1, k2, k3, k4, -⟩ := f3
                refine after (X2 := X2 ++ X3) rfl k1 hx g2 ?_ ?_ ?_ k4
                · rw [← List.append_assoc]; exact f2
                · rw [← List.append_assoc]; exact k2
                · rw [← List.append_assoc]; exact k3
              · exact z.elim
    · next r =>
      obtain ⟨r', k1, k2⟩ := hR
      cases hx
      refine Or.inl ⟨_, List.mem_cons_self, [], by simpa using hX, 1, r', M, ?_, ?_, ?_, fun W _ => yFr_rf W M, _, _, _, mToS_rf, hns, k1⟩
      · unfold mRun
        rw [k1]
      · simpa using k2
      · exact yH_app (X := []) (yH_app hH)
theorem sAgn_pre {post : List tLp} : ∀ (pre : List tLp), sAgn S xs sc d E Ws fr M post → sAgn S xs sc d E Ws fr M (pre ++ post) := by
  intro pre h
  induction pre with
  | nil => exact h
  | cons A pre ih => exact Or.inr ih
set_option maxHeartbeats 1000000 in
theorem sRun_ok (hT : aTabOk) {K : tKt} (hK : ∀ ct ∈ K.2, tCtOk ct) : ∀ n, sRecOk (sP K) xs (tRun K n) := by
  intro n
  induction n with
  | zero => intro sb sc d Ws act fr h cs lfs E clv cst M hr; cases hr
  | succ n ih =>
    intro sb sc d Ws act0 fr h cs lfs E clv cst M hr hE hL hS hH hsc hA0
    obtain ⟨pre0, hpre0⟩ := tDrop_pre fr.2.1 act0
    unfold tRun at hr
    split at hr
    · cases hr
    next q hq =>
    generalize tDrop act0 fr.2.1 = act at hr hpre0
    have hA : ∀ L ∈ act, tActOk xs E L := fun L hL => hA0 L (by rw [hpre0]; exact List.mem_append_right _ hL)
    have up : sCnc (sP K) xs sc d E Ws act (fr.1, fr.2.1, clv, cst) M lfs → sCnc (sP K) xs sc d E Ws act0 (fr.1, fr.2.1, clv, cst) M lfs := by
      intro h
      rcases h with h | h
      · exact Or.inl h
      · refine Or.inr ?_
        rw [hpre0]
        exact sAgn_pre pre0 h
    · refine up ?_
      clear up
      unfold tRunA at hr
      split at hr
      · exact sGn_ok hT hK ih hr hq (by unfold sP; simp_all) hE hL hS hH hsc hA
      · cases hr
        exact Or.inl ⟨_, List.mem_cons_self, [], by simpa using hE, clv, cst, M, mToS_rf, by simpa using hL, by simpa using hS, yH_app (X := []) hH, fun W _ => yFr_rf W M⟩
      · next k _ =>
        unfold tSpl at hr
        split at hr
        · next i c z ha =>
          split at hr
          · next l u hi =>
            cases hb : (ilt l u && ilt (u - l) 60)
            · rw [hb, cond_false] at hr
              exact sGn_ok hT hK ih hr hq (by unfold sP; simp_all) hE hL hS hH hsc hA
            · rw [hb, cond_true] at hr
              obtain ⟨w, w1, w2⟩ := hL k _ ha
              obtain ⟨e, he⟩ : ∃ e, E[i]? = some e := by
                have : i < E.length := by rw [hE.1]; exact (List.getElem?_eq_some_iff.mp hi).1
                exact ⟨E[i], List.getElem?_eq_getElem this⟩
              have hlu := hE.2.2.1 _ _ _ _ hi he
              obtain ⟨x1, hx1, hs1⟩ := tColl_mem hr (e - l).toNat (List.mem_range.mpr (by omega))
              have hE1 : xE E (cs.1.set i (l + Int.ofNat (e - l).toNat, l + Int.ofNat (e - l).toNat), cs.2) := by
                refine xE_of hE (bOK_set (xE_b hE) (fun e' he' => ?_))
                rw [he] at he'
                cases he'
                have h9 : (Int.ofNat (e - l).toNat : Int) = ((e - l).toNat : Int) := rfl
                omega
              obtain ⟨c', hc1, hc2⟩ := aFeas_ok hE1
              obtain ⟨x2, hx2, hs2⟩ := tColl_mem hx1 c' hc1
              exact sCnc_sub (fun y hy => hs1 y (hs2 y hy)) (ih sb sc d Ws act fr h c' x2 E clv cst M hx2 hc2 hL hS hH hsc hA)
          · exact sGn_ok hT hK ih hr hq (by unfold sP; simp_all) hE hL hS hH hsc hA
        · exact sGn_ok hT hK ih hr hq (by unfold sP; simp_all) hE hL hS hH hsc hA
      · next an _ =>
        split at hr
        · next est =>
          rw [est] at hS
          have hcst := yS_nil hS
          subst hcst
          split at hr
          · next L hf =>
            have hbk := bif_true hr
            obtain ⟨pre, post, hm, e1, e2⟩ := tFindL_ok hf
            obtain ⟨a1, a2⟩ := hA L (by rw [hm]; simp)
            have eE : E = E.take L.2.2.2.1 ++ E.drop L.2.2.2.1 := (List.take_append_drop _ _).symm
            obtain ⟨V, b1, e', b2, b3⟩ := a2 (E.drop L.2.2.2.1) cs fr.2.2.1 h clv M hbk (by rw [← eE]; exact hE) (by rw [← eE]; exact hL) (by rw [← eE]; exact hH)
            rw [← eE] at b3
            refine Or.inr ?_
            rw [hm]
            refine sAgn_pre pre (Or.inl ⟨V, clv, M, ?_, b1, ⟨e', b2, b3⟩, fun W _ => yFr_rf W M⟩)
            rw [e1, e2]
            exact mToS_rf
          · split at hr
            · cases hr
            · next L hh =>
              obtain ⟨⟨V0, hV0⟩, hLp, e1, e2, e3, hf, hf1, hf2⟩ := tHead_ok hh hE hL hH
              have main : ∀ (m : Nat) (V : List Int) (clv : List (Nat × Value)) (M1 : mHe), tMu L.2.2.1.2.2.2.2.2.1 V[L.2.2.1.2.2.2.2.1]? ≤ m → tSt xs E V L clv M1 → yFr L.2.2.1.2.2.2.2.2.2.2 M M1 → sCnc (sP K) xs sc d E Ws act (fr.1, fr.2.1, clv, []) M1 lfs := by
                intro m
                induction m using Nat.strongRecOn with
                | ind m ihm =>
                  intro V clv M1 hmu hst hfr
                  obtain ⟨s1, s2, s3, s4⟩ := hst
                  have s5 : yH xs (E ++ V) L.2.2.2.2.2.1 M1 := by
                    refine ⟨s3, ?_⟩
                    rw [hf1]
                    intro q hq
                    rcases List.mem_append.mp hq with hq | hq
                    · rw [e3] at s4
                      exact s4 q hq
                    · obtain ⟨⟨k, k1, w, k2, k3⟩, k4⟩ := hf2 q hq
                      exact yF1_app ⟨k, k1, w, by rw [hfr xs q.1.1 k (k4 k k1)]; exact k2, k3⟩
                  have hc := sGn_ok hT hK ih hr hq (by unfold sP; simp_all) s1 s2 (cst := []) trivial s5 (ySc_app hsc) (E := E ++ V) (fun A hAm => by
                    rcases List.mem_cons.mp hAm with rfl | hAm
                    · refine ⟨by rw [e3, List.length_append]; omega, ?_⟩
                      rw [e3, List.take_append_of_le_length (Nat.le_refl _), List.take_length]
                      exact hLp
                    · exact tActOk_app (hA A hAm))
                  rcases hc with ⟨lf, hc1, hc2⟩ | hag
                  · exact Or.inl ⟨lf, hc1, sEnd1_app hc2⟩
                  · rcases hag with ⟨V', clv', M', t1, t2, ⟨e', t3, t4⟩, t5⟩ | hag
                    · rw [e3, List.take_append_of_le_length (Nat.le_refl _), List.take_length] at t2
                      rw [e1, e2] at t1
                      rw [e3] at t4
                      have hb' := t2.1.2.1 (E.length + L.2.2.1.2.2.2.2.1) e' (by rw [get_r]; exact t3)
                      have hlt : tMu L.2.2.1.2.2.2.2.2.1 V'[L.2.2.1.2.2.2.2.1]? < m := by
                        rw [t3]
                        refine Nat.lt_of_lt_of_le ?_ hmu
                        cases hv : V[L.2.2.1.2.2.2.2.1]? with
                        | none =>
                          unfold tMu
                          simp only
                          cases L.2.2.1.2.2.2.2.2.1 <;> simp only [cond_false, cond_true] <;> omega
                        | some e =>
                          have t6 := t4 e (by rw [get_r]; exact hv)
                          have hb := s1.2.1 (E.length + L.2.2.1.2.2.2.2.1) e (by rw [get_r]; exact hv)
                          revert t6
                          unfold tMu tLess
                          simp only
                          cases L.2.2.1.2.2.2.2.2.1 <;> simp only [cond_false, cond_true] <;> intro t6 <;> omega
                      have t6 := t5 _ List.mem_cons_self
                      exact sCnc_to t1 (fun W hW => t5 W (List.mem_cons_of_mem _ hW)) (ihm _ hlt V' clv' M' (Nat.le_refl _) t2 (yFr_tr hfr t6))
                    · exact Or.inr (sAgn_app act (fun A hAm => (hA A hAm).1) hag)
              exact main _ V0 clv M (Nat.le_refl _) hV0 (yFr_rf _ M)
        · cases hr
end STRN
