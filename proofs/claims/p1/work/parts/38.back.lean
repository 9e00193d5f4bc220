/-! A LOOP'S HEAD holds, and its back -/
theorem bif_true {α : Type} {b : Bool} {x : Option α} {r : α} (h : (bif b then x else none) = some r) : b = true := by
  cases b
  · cases h
  · rfl
theorem any_mem {l : List Nat} {c : Nat} (h : l.any (fun j => Nat.beq j c) = true) : c ∈ l := by
  obtain ⟨z, hz, hzk⟩ := List.any_eq_true.mp h
  have := Nat.eq_of_beq_eq_true hzk
  subst this
  exact hz
set_option maxHeartbeats 1000000 in
theorem aHead_ok {E : List Int} {cs : aC} {an : aAn} {y pc : Nat} {lv : List (Nat × aV)} {h : aHe} {clv : List (Nat × Value)} {M : mHe} {L : aLp} (hr : aHead an y pc lv h cs = some L) (hE : xE E cs) (hL : xL E lv clv) (hH : xH E h M) : (∃ V, aSt E V L clv M) ∧ aLpOk E L ∧ L.1 = y ∧ L.2.1 = pc ∧ L.2.2.2.1 = E.length := by
  obtain ⟨kp, ls, md, els, rows, ds, me, up⟩ := an
  unfold aHead at hr
  simp only at hr
  split at hr
  · next kept v1 ids v2 hkp hv1 hids hv2 =>
    split at hr
    · next h1 dcs hh1 hdcs =>
      have hr2 := bif_none hr
      have hb := bif_true hr
      · cases hr2
        rw [Bool.and_eq_true, Bool.and_eq_true, Bool.and_eq_true] at hb
        obtain ⟨⟨⟨b1, b2⟩, b3⟩, b4⟩ := hb
        have hEl : E.length = cs.1.length := hE.1
        have nil : E = E ++ [] := by simp
        have hst : ∀ k a, alg k lv = some a → xStb E a := fun k a hk => by
          obtain ⟨c, -, c2⟩ := hL k a hk
          exact ⟨c, c2⟩
        have hE0 : xE (E ++ []) cs := by rw [← nil]; exact hE
        have hL0 : xL (E ++ []) lv clv := by rw [← nil]; exact hL
        have hH0 : xH (E ++ []) h M := by rw [← nil]; exact hH
        have hH1 : xH E h1 M := aSetRows_ok hE _ _ _ hh1 hH
        have hH1' : xH (E ++ []) h1 M := by rw [← nil]; exact hH1
        have hstb : hStb E els (aSetEls h1 (E.length + ls.length) els) := by
          intro c k a ha hn
          rcases aSetEls_at _ _ _ ha with ⟨i, lo, hi, c1, c2⟩ | ⟨c1, c2⟩
          · exact absurd (List.mem_of_getElem? c1) (hn lo hi)
          · obtain ⟨v, -, c3⟩ := xH_elem hH1 c2
            exact ⟨v, c3⟩
        refine ⟨?_, ?_, rfl, rfl, hEl.symm⟩
        · rw [← hEl] at hdcs
          obtain ⟨V, g1, g2, g3, g4⟩ := aMk (F := E) (Y := []) hE hE0 hL0 hH0 (fun _ _ => rfl) hst b4 hv1 hv2 b1 hdcs
          refine ⟨V, ?_, ?_, ?_⟩
          · exact g1
          · rw [← hEl]
            exact aMkL hL0 (fun _ _ => rfl) hst hkp g2
          · simp only
            rw [← hEl]
            refine xH_mk ?_ (fun c x hx => shp_of (aSetEls_shp _ _ _) hH1' hx) (fun c k a ha => aMkE hH1' hstb g3 ha ha)
            rw [aSetEls_1]; exact hH1.1
        · intro Y cs' lv' h' clv' M' hbk hE' hL' hH' hg h1eq
          unfold aBack at hbk
          simp only at hbk hg h1eq
          split at hbk
          · next kept' v1' v2' hkp' hv1' hv2' =>
            split at hbk
            · next h1' hh1' =>
              rw [Bool.and_eq_true, Bool.and_eq_true, Bool.and_eq_true] at hbk
              obtain ⟨⟨⟨d1, d2⟩, d3⟩, d4⟩ := hbk
              have hkk : kept' = kept := List.append_cancel_left (aSameL_eq d1)
              have hk : ∀ k ∈ kp, alg k lv' = alg k lv := fun k hk => by
                rw [← (aKeep_at kp kept' hkp').2 hk, ← (aKeep_at kp kept hkp).2 hk, hkk]
              rw [← hEl] at hdcs
              obtain ⟨V, g1, g2, g3, g4⟩ := aMk (F := E) (Y := Y) hE hE' hL' hH' hk hst b4 hv1' hv2' d3 hdcs
              have hH1y : xH (E ++ Y) h1' M' := aSetRows_ok hE' _ _ _ hh1' hH'
              refine ⟨V, ⟨g1, ?_, ?_⟩, ?_⟩
              · simp only
                rw [← hEl, ← hkk]
                exact aMkL hL' hk hst hkp' g2
              · simp only
                rw [← hEl]
                rw [← hEl] at h1eq hg d2
                refine xH_mk (by rw [← h1eq]; exact hH'.1) (fun c x hx => ?_) (fun c k a ha => ?_)
                · by_cases hc : c ∈ ids
                  · have e := aSameC_eq (List.all_eq_true.mp d2 c hc)
                    exact shp_of (by rw [← e, aSetEls_shp]) hH1y hx
                  · rw [← hg c hc] at hx
                    exact xH_shp hH' hx
                · by_cases hc : c ∈ ids
                  · have e := aSameC_eq (List.all_eq_true.mp d2 c hc)
                    exact aMkE hH1y hstb g3 ha (by rw [aElem_congr e]; exact ha)
                  · have ha2 := ha
                    rw [← aElem_congr (hg c hc)] at ha2
                    obtain ⟨v, c3, c4⟩ := xH_elem hH' ha2
                    refine ⟨v, c3, xV_tr (hstb c k a ha (fun lo hi z => hc ?_)) c4⟩
                    exact any_mem (List.all_eq_true.mp b2 _ z)
              · split at d4
                · next x hx =>
                  obtain ⟨w, c1, c2⟩ := g4 me x hx
                  refine ⟨w.toInt, c1, fun e he => ?_⟩
                  have hat : xN (E ++ Y) (4, cs.1.length + me, 0, 0) e := ⟨e, by rw [← hEl]; exact he, by omega⟩
                  unfold aLess
                  simp only
                  revert d4
                  cases up
                  · simp only [cond_false]
                    intro d4
                    have := aImp_ok hE' (xN_int c2) hat d4
                    omega
                  · simp only [cond_true]
                    intro d4
                    have := aImp_ok hE' hat (xN_int c2) d4
                    omega
                · cases d4
            · cases hbk
          · cases hbk
    · cases hr
  · cases hr
/-- what a loop's head leaves as it was -/
theorem aHead_g {cs : aC} {an : aAn} {y pc : Nat} {lv : List (Nat × aV)} {h : aHe} {L : aLp} (hr : aHead an y pc lv h cs = some L) : (∀ k, k ∉ L.2.2.2.2.2.1 → hget L.2.2.2.2.2.2.1 k = hget h k) ∧ L.2.2.2.2.2.2.1.1 = h.1 := by
  obtain ⟨kp, ls, md, els, rows, ds, me, up⟩ := an
  unfold aHead at hr
  simp only at hr
  split at hr
  · next kept v1 ids v2 hkp hv1 hids hv2 =>
    split at hr
    · next h1 dcs hh1 hdcs =>
      have hr2 := bif_none hr
      have hb := bif_true hr
      · cases hr2
        rw [Bool.and_eq_true, Bool.and_eq_true, Bool.and_eq_true] at hb
        obtain ⟨⟨⟨b1, b2⟩, b3⟩, b4⟩ := hb
        refine ⟨fun k hk => ?_, ?_⟩
        · simp only at hk ⊢
          rw [aSetEls_ne _ _ _ (fun q hq z => hk (by rw [← z]; exact any_mem (List.all_eq_true.mp b2 q hq)))]
          refine (aSetRows_ne _ _ _ hh1 (fun q hq z => hk ?_)).1
          have := List.all_eq_true.mp b3 q hq
          rw [z] at this
          exact any_mem this
        · simp only
          rw [aSetEls_1]
          exact aSetRows_1 _ _ _ hh1
    · cases hr
  · cases hr
