/-! AN ABSTRACT RUN HOLDS WHAT THE SMALL MACHINE'S RUN ENDS WITH; and it ends -/
theorem aColl_mem {α β : Type} {f : α → Option (List β)} : ∀ {l : List α} {r : List β}, aColl f l = some r → ∀ b ∈ l, ∃ x, f b = some x ∧ ∀ y ∈ x, y ∈ r := by
  intro l
  induction l with
  | nil => intro r _ b hb; cases hb
  | cons a l ih =>
    intro r hr b hb
    unfold aColl at hr
    split at hr
    · next x z hx hz =>
      cases hr
      rcases List.mem_cons.mp hb with rfl | hb
      · exact ⟨x, hx, fun y hy => List.mem_append_left _ hy⟩
      · obtain ⟨x', h1, h2⟩ := ih hz b hb
        exact ⟨x', h1, fun y hy => List.mem_append_right _ (h2 y hy)⟩
    · cases hr
theorem aColl_from {α β : Type} {f : α → Option (List β)} : ∀ {l : List α} {r : List β}, aColl f l = some r → ∀ y ∈ r, ∃ b ∈ l, ∃ x, f b = some x ∧ y ∈ x := by
  intro l
  induction l with
  | nil => intro r hr y hy; cases hr; cases hy
  | cons a l ih =>
    intro r hr y hy
    unfold aColl at hr
    split at hr
    · next x z hx hz =>
      cases hr
      rcases List.mem_append.mp hy with hy | hy
      · exact ⟨a, List.mem_cons_self, x, hx, hy⟩
      · obtain ⟨b, h1, h2⟩ := ih hz y hy
        exact ⟨b, List.mem_cons_of_mem _ h1, h2⟩
    · cases hr
theorem hGd_sub {A B : List (List Nat)} {h h' : aHe} (hs : ∀ l ∈ B, l ∈ A) (hg : hGd A h h') : hGd B h h' := ⟨fun l hl => hg.1 l (hs l hl), fun hn => hg.2 (fun z => hn (List.eq_nil_iff_forall_not_mem.mpr (fun l hl => by have := hs l hl; rw [z] at this; cases this)))⟩
def recG (rec : aRec) : Prop := ∀ (sa : aSc) (d : Nat) (G : List (List Nat)) (act : List aLp) (fr : aFr) (h : aHe) (cs : aC) (lfs : List aLf), rec sa d G act fr h cs = some lfs → ∀ lf ∈ lfs, hGd (aIds act ++ G) h lf.2.1
theorem aGn_g {rec : aRec} (hrec : recG rec) {sa : aSc} {d y pc : Nat} {G : List (List Nat)} {act : List aLp} {q : mMd} {lv : List (Nat × aV)} {st : List aV} {h : aHe} {cs : aC} {lfs : List aLf} (hr : aGn rec sa d G act q y pc lv st h cs = some lfs) : ∀ lf ∈ lfs, hGd (aIds act ++ G) h lf.2.1 := by
  intro lf hlf
  unfold aGn at hr
  split at hr
  · cases hr
  · next brs hbrs =>
    have hg := aStep_h hbrs
    obtain ⟨b, hb, x, hx, hlx⟩ := aColl_from hr lf hlf
    unfold aNx at hx
    split at hx
    · next fr' h' e => exact hGd_tr (hg b hb _ e) (hrec _ _ _ _ _ _ _ _ hx lf hlx)
    · split at hx
      · cases hx
      · split at hx
        · cases hx
        · next lfs1 hl1 =>
          obtain ⟨lf1, h1, x1, hx1, hlx1⟩ := aColl_from hx lf hlx
          exact hGd_tr (hrec _ _ _ _ _ _ _ _ hl1 lf1 h1) (hrec _ _ _ _ _ _ _ _ hx1 lf hlx1)
    · cases hx
      rw [List.mem_singleton.mp hlx]
      exact hGd_rf _ _
theorem aHead_hGd {cs : aC} {an : aAn} {y pc : Nat} {lv : List (Nat × aV)} {h : aHe} {L : aLp} {G : List (List Nat)} (hr : aHead an y pc lv h cs = some L) (hk : L.2.2.2.2.2.1.all (fun c => aOkW G c) = true) : hGd G h L.2.2.2.2.2.2.1 := by
  obtain ⟨h1, h2⟩ := aHead_g hr
  refine ⟨fun l hl k hkl => h1 k (fun z => hkl ?_), fun _ => h2⟩
  exact any_mem (List.all_eq_true.mp (List.all_eq_true.mp hk k z) l hl)
theorem aRun_g {ann : Nat → Nat → Option aAn} : ∀ n, recG (aRun ann n) := by
  intro n
  induction n with
  | zero => intro sa d G act fr h cs lfs hr; cases hr
  | succ n ih =>
    intro sa d G act fr h cs lfs hr
    unfold aRun at hr
    split at hr
    · cases hr
    · split at hr
      · exact aGn_g ih hr
      · split at hr
        · split at hr
          · have := bif_none hr
            cases this
            intro lf hlf; cases hlf
          · split at hr
            · cases hr
            · next L hL =>
              intro lf hlf
              have hk := bif_true hr
              exact hGd_tr (aHead_hGd hL hk) (hGd_sub (fun l hl => List.mem_cons_of_mem _ hl) (aGn_g ih (bif_none hr) lf hlf))
        · cases hr
def aEnd (sc : Option (Nat × (Nat → Int32))) (d : Nat) (E : List Int) (fr : mFr) (M : mHe) (lfs : List aLf) : Prop := ∃ lf ∈ lfs, ∃ X N r M', xE (E ++ X) lf.2.2 ∧ mRun sc N d fr M = some (r, M') ∧ xO (E ++ X) lf.1 r ∧ xH (E ++ X) lf.2.1 M'
def aAgn (sc : Option (Nat × (Nat → Int32))) (d : Nat) (E : List Int) (fr : mFr) (M : mHe) (L : aLp) : Prop := ∃ V clv M', mTo sc d fr M (L.1, L.2.1, clv, []) M' ∧ aSt (E.take L.2.2.2.1) V L clv M' ∧ ∃ e', V[L.2.2.1.2.2.2.2.2.2.1]? = some e' ∧ ∀ e, E[L.2.2.2.1 + L.2.2.1.2.2.2.2.2.2.1]? = some e → aLess L.2.2.1.2.2.2.2.2.2.2 e e'
def aCnc (sc : Option (Nat × (Nat → Int32))) (d : Nat) (E : List Int) (act : List aLp) (fr : mFr) (M : mHe) (lfs : List aLf) : Prop := aEnd sc d E fr M lfs ∨ ∃ L ∈ act, aAgn sc d E fr M L
def aActOk (E : List Int) (h : aHe) (L : aLp) : Prop := L.2.2.2.1 ≤ E.length ∧ aLpOk (E.take L.2.2.2.1) L ∧ (∀ k, k ∉ L.2.2.2.2.2.1 → hget h k = hget L.2.2.2.2.2.2.1 k) ∧ h.1 = L.2.2.2.2.2.2.1.1
theorem aCnc_to {sc : Option (Nat × (Nat → Int32))} {d : Nat} {E : List Int} {act : List aLp} {fr fr' : mFr} {M M' : mHe} {lfs : List aLf} (ht : mTo sc d fr M fr' M') (h : aCnc sc d E act fr' M' lfs) : aCnc sc d E act fr M lfs := by
  rcases h with ⟨lf, h1, X, N, r, M2, h2, h3, h4⟩ | ⟨L, h1, V, clv, M2, h2, h3⟩
  · obtain ⟨N', h5⟩ := ht N _ h3
    exact Or.inl ⟨lf, h1, X, N', r, M2, h2, h5, h4⟩
  · exact Or.inr ⟨L, h1, V, clv, M2, mTo_tr ht h2, h3⟩
theorem aCnc_sub {sc : Option (Nat × (Nat → Int32))} {d : Nat} {E : List Int} {act : List aLp} {fr : mFr} {M : mHe} {x lfs : List aLf} (hs : ∀ y ∈ x, y ∈ lfs) (h : aCnc sc d E act fr M x) : aCnc sc d E act fr M lfs := by
  rcases h with ⟨lf, h1, h2⟩ | h1
  · exact Or.inl ⟨lf, hs lf h1, h2⟩
  · exact Or.inr h1
theorem aAgn_app {sc : Option (Nat × (Nat → Int32))} {d : Nat} {E X : List Int} {fr : mFr} {M : mHe} {L : aLp} (hb : L.2.2.2.1 ≤ E.length) (h : aAgn sc d (E ++ X) fr M L) : aAgn sc d E fr M L := by
  obtain ⟨V, clv, M2, h2, h3, e', h4, h5⟩ := h
  rw [List.take_append_of_le_length hb] at h3
  exact ⟨V, clv, M2, h2, h3, e', h4, fun e he => h5 e (get_l he)⟩
theorem aEnd_app {sc : Option (Nat × (Nat → Int32))} {d : Nat} {E X : List Int} {fr : mFr} {M : mHe} {lfs : List aLf} (h : aEnd sc d (E ++ X) fr M lfs) : aEnd sc d E fr M lfs := by
  obtain ⟨lf, h1, X2, N, r, M2, h2⟩ := h
  rw [List.append_assoc] at h2
  exact ⟨lf, h1, X ++ X2, N, r, M2, h2⟩
theorem aCnc_app {sc : Option (Nat × (Nat → Int32))} {d : Nat} {E X : List Int} {act : List aLp} {fr : mFr} {M : mHe} {lfs : List aLf} (hb : ∀ L ∈ act, L.2.2.2.1 ≤ E.length) (h : aCnc sc d (E ++ X) act fr M lfs) : aCnc sc d E act fr M lfs := by
  rcases h with h | ⟨L, h1, h2⟩
  · exact Or.inl (aEnd_app h)
  · exact Or.inr ⟨L, h1, aAgn_app (hb L h1) h2⟩
theorem aActOk_app {E X : List Int} {h : aHe} {L : aLp} (ha : aActOk E h L) : aActOk (E ++ X) h L := by
  obtain ⟨h1, h2, h3⟩ := ha
  refine ⟨by rw [List.length_append]; omega, ?_, h3⟩
  rw [List.take_append_of_le_length h1]; exact h2
theorem aActOk_g {E : List Int} {h h' : aHe} {act : List aLp} {G : List (List Nat)} (hg : hGd (aIds act ++ G) h h') (ha : ∀ L ∈ act, aActOk E h L) : ∀ L ∈ act, aActOk E h' L := by
  intro L hL
  obtain ⟨h1, h2, h3, h4⟩ := ha L hL
  have hm : L.2.2.2.2.2.1 ∈ aIds act ++ G := List.mem_append_left _ (List.mem_map.mpr ⟨L, hL, rfl⟩)
  exact ⟨h1, h2, fun k hk => (hg.1 _ hm k hk).trans (h3 k hk), (hg.2 (fun z => by rw [z] at hm; cases hm)).trans h4⟩
def recOk (rec : aRec) : Prop := ∀ (sa : aSc) (sc : Option (Nat × (Nat → Int32))) (d : Nat) (G : List (List Nat)) (act : List aLp) (fr : aFr) (h : aHe) (cs : aC) (lfs : List aLf) (E : List Int) (clv : List (Nat × Value)) (cst : List Value) (M : mHe), rec sa d G act fr h cs = some lfs → xE E cs → xL E fr.2.2.1 clv → xS E fr.2.2.2 cst → xH E h M → xSc E sa sc → (∀ L ∈ act, aActOk E h L) → aCnc sc d E act (fr.1, fr.2.1, clv, cst) M lfs
theorem aEnt_ok {E : List Int} : ∀ (avs : List aV) (vs : List Value) (i : Nat), xS E avs vs → xL E (aEnt i avs) (lv_args i vs) := by
  intro avs
  induction avs with
  | nil => intro vs i _ k v hk; cases hk
  | cons a avs ih =>
    intro vs i h k v hk
    obtain ⟨w, vs', rfl, h1, h2⟩ := xS_cons h
    have ec : (if w.category = 2 then i + 2 else i + 1) = i + aCat a := by
      rw [xV_cat h1]
      unfold aCat
      cases aIsL a <;> rfl
    unfold lv_args
    rw [ec]
    unfold aEnt alg at hk
    unfold mlg
    rw [List.find?_cons]
    cases hb : Nat.beq i k
    · rw [hb, cond_false] at hk
      obtain ⟨c, h3, h4⟩ := ih vs' _ h2 k v hk
      have hik : (i == k) = false := by
        have : i ≠ k := fun z => by rw [z, Nat.beq_refl] at hb; cases hb
        simpa using this
      rw [hik]
      exact ⟨c, h3, h4⟩
    · rw [hb, cond_true] at hk
      cases hk
      have := Nat.eq_of_beq_eq_true hb
      subst this
      exact ⟨w, by simp, h1⟩
theorem xO_S {E : List Int} {a : Option aV} {r : Option Value} {ast : List aV} {st : List Value} (h : xO E a r) (hs : xS E ast st) : xS E (a.toList ++ ast) (r.toList ++ st) := by
  cases a with
  | none => cases r with
    | none => exact hs
    | some v => exact h.elim
  | some x => cases r with
    | none => exact h.elim
    | some v => exact ⟨h, hs⟩
set_option maxHeartbeats 1000000 in
theorem aGn_ok (hT : aTabOk) {rec : aRec} (hrec : recOk rec) (hrg : recG rec) {sa : aSc} {sc : Option (Nat × (Nat → Int32))} {d y pc : Nat} {G : List (List Nat)} {act : List aLp} {q : mMd} {lv : List (Nat × aV)} {st : List aV} {h : aHe} {cs : aC} {lfs : List aLf} {E : List Int} {clv : List (Nat × Value)} {cst : List Value} {M : mHe} (hr : aGn rec sa d G act q y pc lv st h cs = some lfs) (hq : mjM y = some q) (hE : xE E cs) (hL : xL E lv clv) (hS : xS E st cst) (hH : xH E h M) (hsc : xSc E sa sc) (hA : ∀ L ∈ act, aActOk E h L) : aCnc sc d E act (y, pc, clv, cst) M lfs := by
  unfold aGn at hr
  split at hr
  · cases hr
  · next brs hbrs =>
    have hg := aStep_h hbrs
    obtain ⟨b, hb, g1, g2⟩ := aStep_ok hT hq hE hL hS hH hsc hbrs
    obtain ⟨x, hx, hsub⟩ := aColl_mem hr b hb
    refine aCnc_sub hsub ?_
    unfold aNx at hx
    unfold xR at g2
    split at hx
    · next fr' h' e =>
      rw [e] at g2
      obtain ⟨lv', st', M', k1, k2, k3, k4⟩ := g2
      have hc := hrec sa sc d G act fr' h' b.1 x E lv' st' M' hx g1 k2 k3 k4 hsc (aActOk_g (hg b hb _ e) hA)
      rcases k1 with k1 | ⟨k1, rfl⟩
      · exact aCnc_to (mTo_step k1) hc
      · rw [k1]; exact hc
    · next y2 avs fr' e =>
      rw [e] at g2
      obtain ⟨vs, lv1, st1, k1, k2, k3, k4⟩ := g2
      cases d with
      | zero => cases hx
      | succ d =>
        simp only at hx
        split at hx
        · cases hx
        · next lfs1 hl1 =>
          have hc1 := hrec none none d (aIds act ++ G) [] (y2, 0, aEnt 0 avs, []) h b.1 lfs1 E (lv_args 0 vs) [] M hl1 g1 (aEnt_ok _ _ _ k2) trivial hH (fun n a z => by cases z) (fun L z => by cases z)
          rcases hc1 with ⟨lf, m1, X, N, r, M1, m2, m3, m4, m5⟩ | ⟨L, z, -⟩
          · obtain ⟨x1, hx1, hsub1⟩ := aColl_mem hx lf m1
            have hgd : hGd (aIds act ++ G) h lf.2.1 := hrg _ _ _ _ _ _ _ _ hl1 lf m1
            have hc := hrec sa sc (d + 1) G act (fr'.1, fr'.2.1, fr'.2.2.1, lf.1.toList ++ fr'.2.2.2) lf.2.1 lf.2.2 x1 (E ++ X) lv1 (r.toList ++ st1) M1 hx1 m2 (xL_app k3) (xO_S m4 (xS_app k4)) m5 (xSc_app hsc) (fun L hL => aActOk_app (aActOk_g hgd hA L hL))
            exact aCnc_sub hsub1 (aCnc_to (mTo_call k1 m3) (aCnc_app (fun L hL => (hA L hL).1) hc))
          · cases z
    · next r e =>
      rw [e] at g2
      obtain ⟨r', k1, k2⟩ := g2
      cases hx
      refine Or.inl ⟨_, List.mem_cons_self, [], 1, r', M, ?_, ?_, ?_, ?_⟩
      · simpa using g1
      · unfold mRun
        rw [k1]
      · simpa using k2
      · simpa using hH
theorem aFindL_ok {y pc : Nat} {L : aLp} : ∀ {act : List aLp}, aFindL act y pc = some L → L ∈ act ∧ L.1 = y ∧ L.2.1 = pc := by
  intro act
  induction act with
  | nil => intro h; cases h
  | cons A act ih =>
    intro h
    unfold aFindL at h
    cases hb : (Nat.beq A.1 y && Nat.beq A.2.1 pc)
    · rw [hb, cond_false] at h
      obtain ⟨h1, h2⟩ := ih h
      exact ⟨List.mem_cons_of_mem _ h1, h2⟩
    · rw [hb, cond_true] at h
      cases h
      rw [Bool.and_eq_true] at hb
      exact ⟨List.mem_cons_self, Nat.eq_of_beq_eq_true hb.1, Nat.eq_of_beq_eq_true hb.2⟩
/-- how far what grows (or falls) is from its end -/
def aMu (up : Bool) (o : Option Int) : Nat := match o with
  | none => 5000000000
  | some e => bif up then (2147483648 - e).toNat else (e + 2147483648).toNat
set_option maxHeartbeats 1000000 in
theorem aRun_ok (hT : aTabOk) {ann : Nat → Nat → Option aAn} : ∀ n, recOk (aRun ann n) := by
  intro n
  induction n with
  | zero => intro sa sc d G act fr h cs lfs E clv cst M hr; cases hr
  | succ n ih =>
    intro sa sc d G act fr h cs lfs E clv cst M hr hE hL hS hH hsc hA
    unfold aRun at hr
    split at hr
    · cases hr
    · next q hq =>
      split at hr
      · exact aGn_ok hT ih (aRun_g n) hr hq hE hL hS hH hsc hA
      · split at hr
        · next est =>
          rw [est] at hS
          have hcst := xS_nil hS
          subst hcst
          split at hr
          · next L hf =>
            have hbk := bif_true hr
            obtain ⟨hm, e1, e2⟩ := aFindL_ok hf
            obtain ⟨a1, a2, a3, a4⟩ := hA L hm
            have eE : E = E.take L.2.2.2.1 ++ E.drop L.2.2.2.1 := (List.take_append_drop _ _).symm
            have hlen : (E.take L.2.2.2.1).length = L.2.2.2.1 := by rw [List.length_take]; omega
            obtain ⟨V, b1, e', b2, b3⟩ := a2 (E.drop L.2.2.2.1) cs fr.2.2.1 h clv M hbk (by rw [← eE]; exact hE) (by rw [← eE]; exact hL) (by rw [← eE]; exact hH) a3 a4
            rw [← eE, hlen] at b3
            refine Or.inr ⟨L, hm, V, clv, M, ?_, b1, e', b2, b3⟩
            rw [e1, e2]
            exact mTo_rf
          · split at hr
            · cases hr
            · next L hh =>
              have hk := bif_true hr
              have hgo := bif_none hr
              obtain ⟨⟨V0, hV0⟩, hLp, e1, e2, e3⟩ := aHead_ok hh hE hL hH
              have hg := aHead_hGd hh hk
              have hA' := aActOk_g hg hA
              have main : ∀ (m : Nat) (V : List Int) (clv : List (Nat × Value)) (M : mHe), aMu L.2.2.1.2.2.2.2.2.2.2 V[L.2.2.1.2.2.2.2.2.2.1]? ≤ m → aSt E V L clv M → aCnc sc d E act (fr.1, fr.2.1, clv, []) M lfs := by
                intro m
                induction m using Nat.strongRecOn with
                | ind m ihm =>
                  intro V clv M hmu hst
                  obtain ⟨s1, s2, s3⟩ := hst
                  have hc := aGn_ok hT ih (aRun_g n) hgo hq s1 s2 (cst := []) trivial s3 (xSc_app hsc) (E := E ++ V) (fun A hAm => by
                    rcases List.mem_cons.mp hAm with rfl | hAm
                    · refine ⟨by rw [e3, List.length_append]; omega, ?_, fun _ _ => rfl, rfl⟩
                      rw [e3, List.take_append_of_le_length (Nat.le_refl _), List.take_length]
                      exact hLp
                    · exact aActOk_app (hA' A hAm))
                  rcases hc with hc | ⟨A, hAm, hag⟩
                  · exact Or.inl (aEnd_app hc)
                  · rcases List.mem_cons.mp hAm with rfl | hAm
                    · obtain ⟨V', clv', M', t1, t2, e', t3, t4⟩ := hag
                      rw [e3, List.take_append_of_le_length (Nat.le_refl _), List.take_length] at t2
                      rw [e1, e2] at t1
                      rw [e3] at t4
                      have hb' := t2.1.2.1 (E.length + A.2.2.1.2.2.2.2.2.2.1) e' (by rw [get_r]; exact t3)
                      have hlt : aMu A.2.2.1.2.2.2.2.2.2.2 V'[A.2.2.1.2.2.2.2.2.2.1]? < m := by
                        rw [t3]
                        refine Nat.lt_of_lt_of_le ?_ hmu
                        cases hv : V[A.2.2.1.2.2.2.2.2.2.1]? with
                        | none =>
                          unfold aMu
                          simp only
                          cases A.2.2.1.2.2.2.2.2.2.2 <;> simp only [cond_false, cond_true] <;> omega
                        | some e =>
                          have t5 := t4 e (by rw [get_r]; exact hv)
                          have hb := s1.2.1 (E.length + A.2.2.1.2.2.2.2.2.2.1) e (by rw [get_r]; exact hv)
                          revert t5
                          unfold aMu aLess
                          simp only
                          cases A.2.2.1.2.2.2.2.2.2.2 <;> simp only [cond_false, cond_true] <;> intro t5 <;> omega
                      exact aCnc_to t1 (ihm _ hlt V' clv' M' (Nat.le_refl _) t2)
                    · exact Or.inr ⟨A, hAm, aAgn_app (hA A hAm).1 hag⟩
              exact main _ V0 clv M (Nat.le_refl _) hV0
        · cases hr
