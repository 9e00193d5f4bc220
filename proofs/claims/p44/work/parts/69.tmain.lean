/-! THE TYPED MACHINE: what a run gives, the small machine's run ends with; and it ends -/
def yArg : List (Nat × Nat × Int × Int) → List Value → Prop
  | [], [] => True
  | a :: as, v :: vs => yFt a v ∧ yArg as vs
  | _, _ => False
def yRes (res : Option (Int × Int)) (r : Option Value) : Prop := match res with
  | none => r = none
  | some (l, u) => ∃ x : Int32, r = some (.int x) ∧ l ≤ x.toInt ∧ x.toInt ≤ u
/-- a contract holds -/
def tCtOk (ct : tCt) : Prop := ∀ (M : mHe) (vs : List Value) (d : Nat), yTy M → yArg ct.2.1 vs → ct.2.2.2.2.1 ≤ d → (∀ p ∈ ct.2.2.2.2.2.2, ∀ xs : tXs, ∃ x : Int32, yRd xs M p.1 p.2.1 = some (.int x) ∧ p.2.2.1 ≤ x.toInt ∧ x.toInt ≤ p.2.2.2) → ∃ N r M', mRun none N d (ct.1, 0, lv_args 0 vs, []) M = some (r, M') ∧ yTy M' ∧ yFr ct.2.2.2.1 M M' ∧ yRes ct.2.2.1 r ∧ ∀ ab ∈ ct.2.2.2.2.2.1, ∀ (xs : tXs) (k : Nat), yRd xs M' ab.2 k = yRd xs M ab.1 k
theorem tArg_ok {E : List Int} {cs : aC} (hE : xE E cs) : ∀ (as : List (Nat × Nat × Int × Int)) (vs : List aV) (vs' : List Value), yS E vs vs' → tArg cs as vs = true → yArg as vs' := by
  intro as
  induction as with
  | nil =>
    intro vs vs' hS h
    cases vs with
    | nil => rw [yS_nil hS]; trivial
    | cons v vs => cases h
  | cons a as ih =>
    intro vs vs' hS h
    cases vs with
    | nil =>
      exfalso
      obtain ⟨k, r, l, u⟩ := a
      cases k <;> cases h
    | cons v vs =>
      obtain ⟨w, m, rfl, h1, h2⟩ := yS_cons hS
      unfold tArg at h
      split at h
      · next e1 e2 => cases e1
      · next e1 e2 =>
        cases e1; cases e2
        rw [Bool.and_eq_true, Bool.and_eq_true] at h
        obtain ⟨⟨g1, g2⟩, g3⟩ := h
        refine ⟨?_, ih vs m h2 g3⟩
        obtain ⟨k, r', b, c⟩ := v
        have g1' := Nat.eq_of_beq_eq_true g1
        have g2' := Nat.eq_of_beq_eq_true g2
        simp only at g1' g2'
        subst g1'
        have h1 := yV_ref h1
        subst h1
        unfold yFt
        simp only
        exact congrArg Value.ref g2'
      · next hne e1 e2 =>
        cases e1; cases e2
        rw [Bool.and_eq_true] at h
        obtain ⟨x, rfl, x1, x2⟩ := tWi_ok hE h1 h.1
        refine ⟨?_, ih vs m h2 h.2⟩
        unfold yFt
        split
        · next heq => exact (hne (congrArg Prod.fst heq)).elim
        · next heq => cases heq; exact ⟨x, rfl, x1, x2⟩
      · cases h
theorem yFr_sub {W W' : List tG} {M M' : mHe} (hs : ∀ g ∈ W, tSub g W' = true) (h : yFr W M M') : yFr W' M M' := fun xs c k hn => h xs c k (fun g hg hy => by
  obtain ⟨w, w1, w2⟩ := tSub_ok (hs g hg) hy
  exact hn w w1 w2)
/-- facts that a region doesn't meet stay -/
theorem yF_miss {xs : tXs} {E : List Int} {cs : aC} {h : tF} {M M' : mHe} {W : List tG} (hE : xE E cs) (hF : yF xs E h M) (hW : yFr W M M') : yF xs E (h.filter (fun q => tMissW cs W q.1)) M' := by
  intro q hq
  obtain ⟨hq1, hq2⟩ := List.mem_filter.mp hq
  obtain ⟨k, k1, v, k2, k3⟩ := hF q hq1
  refine ⟨k, k1, v, ?_, k3⟩
  rw [hW xs q.1.1 k (fun g hg => tMiss_ok hE k1 rfl (List.all_eq_true.mp hq2 g hg)), k2]
theorem tApp_ok {xs : tXs} {E : List Int} {cs : aC} {ct : tCt} {d : Nat} {Ws : List (List tG)} {vs : List aV} {vs' : List Value} {h : tF} {M : mHe} {l : List (Option aV × tF × aC)} (hct : tCtOk ct) (hE : xE E cs) (hS : yS E vs vs') (hH : yH xs E h M) (hr : tApp ct d Ws vs h cs = some l) :
    ∃ N r M', mRun none N d (ct.1, 0, lv_args 0 vs', []) M = some (r, M') ∧ ∃ lf ∈ l, ∃ X, xE (E ++ X) lf.2.2 ∧ yO (E ++ X) lf.1 r ∧ yH xs (E ++ X) lf.2.1 M' ∧ ∀ W ∈ Ws, yFr W M M' := by
  obtain ⟨y, as, res, W, dn, cp, pre⟩ := ct
  unfold tApp at hr
  simp only at hr
  have hb := bif_true hr
  have hr := bif_none hr
  rw [Bool.and_eq_true, Bool.and_eq_true, Bool.and_eq_true, Bool.and_eq_true, Nat.ble_eq] at hb
  obtain ⟨⟨⟨b1, b2⟩, b4, b5⟩, b3⟩ := hb
  have hpre : ∀ p ∈ pre, ∀ xs' : tXs, ∃ x : Int32, yRd xs' M p.1 p.2.1 = some (.int x) ∧ p.2.2.1 ≤ x.toInt ∧ x.toInt ≤ p.2.2.2 := by
    intro p hp xs'
    obtain ⟨v1, hv1⟩ := Option.isSome_iff_exists.mp b4
    obtain ⟨V, g1, -, -⟩ := tElv_ok hE hH pre v1 hv1
    obtain ⟨j, hj⟩ := List.getElem?_of_mem hp
    obtain ⟨c, k, lo, hi⟩ := p
    obtain ⟨x, x1, -, x2⟩ := g1.2 j c k lo hi hj
    refine ⟨x, ?_, x2⟩
    have hc : c ≠ 9999 := by
      have := List.all_eq_true.mp b5 _ hp
      rw [Nat.blt_eq] at this
      have this : c < 9999 := this
      omega
    unfold yRd at x1 ⊢
    rw [if_neg hc] at x1 ⊢
    exact x1
  obtain ⟨N, r, M', m1, m2, m3, m4, m5⟩ := hct M vs' d hH.1 (tArg_ok hE as vs vs' hS b1) b2 hpre
  simp only at m1 m3 m4 m5
  refine ⟨N, r, M', m1, ?_⟩
  have hWs : ∀ W' ∈ Ws, yFr W' M M' := fun W' hW' => yFr_sub (fun g hg => List.all_eq_true.mp (List.all_eq_true.mp b3 W' hW') g hg) m3
  have hF' : yF xs E (cp.flatMap (fun ab => (h.filter (fun q => Nat.beq q.1.1 ab.1)).map (fun q => ((ab.2, q.1.2), q.2))) ++ h.filter (fun q => tMissW cs W q.1)) M' := by
    intro q hq
    rcases List.mem_append.mp hq with hq | hq
    · obtain ⟨ab, hab, hq⟩ := List.mem_flatMap.mp hq
      obtain ⟨q0, hq0, rfl⟩ := List.mem_map.mp hq
      obtain ⟨hq1, hq2⟩ := List.mem_filter.mp hq0
      obtain ⟨⟨c, i, a, b⟩, v⟩ := q0
      have e1 := Nat.eq_of_beq_eq_true hq2
      simp only at e1
      obtain ⟨k, k1, w, k2, k3⟩ := hH.2 _ hq1
      have k2 : yRd xs M c k = some w := k2
      refine ⟨k, k1, w, ?_, k3⟩
      show yRd xs M' ab.2 k = some w
      rw [m5 ab hab xs k, ← e1]
      exact k2
    · exact yF_miss hE hH.2 m3 q hq
  generalize cp.flatMap (fun ab => (h.filter (fun q => Nat.beq q.1.1 ab.1)).map (fun q => ((ab.2, q.1.2), q.2))) ++ h.filter (fun q => tMissW cs W q.1) = h' at hr hF'
  unfold yRes at m4
  split at hr
  · cases hr
    simp only at m4
    subst m4
    exact ⟨_, List.mem_singleton_self _, [], by simpa using hE, trivial, yH_app ⟨m2, hF'⟩, hWs⟩
  · next lo up _ =>
    simp only at m4
    obtain ⟨x, rfl, x1, x2⟩ := m4
    cases hz : ieq lo up
    · rw [hz, cond_false] at hr
      cases hr
      refine ⟨_, List.mem_singleton_self _, [x.toInt], xE_new hE ⟨i32_lo x, i32_hi x⟩ x1 x2, ⟨rfl, x.toInt, ?_, by omega⟩, yH_app ⟨m2, hF'⟩, hWs⟩
      rw [← hE.1]; exact get_new E _
    · rw [hz, cond_true] at hr
      cases hr
      have := (ieq_iff _ _).mp hz
      exact ⟨_, List.mem_singleton_self _, [], by simpa using hE, yV_kI _ (by omega), yH_app ⟨m2, hF'⟩, hWs⟩
/-- what a list of ends says -/
def tEnd1 (xs : tXs) (sc : Option (Nat × (Nat → Int32))) (d : Nat) (E : List Int) (Ws : List (List tG)) (fr : mFr) (M : mHe) (lf : tLf_) : Prop := ∃ X, xE (E ++ X) lf.2.2 ∧ (match lf.1 with
  | .inr r => ∃ N r' M', mRun sc N d fr M = some (r', M') ∧ yO (E ++ X) r r' ∧ yH xs (E ++ X) lf.2.1 M' ∧ ∀ W ∈ Ws, yFr W M M'
  | .inl afr => ∃ lv' st' M', mTo sc d fr M (afr.1, afr.2.1, lv', st') M' ∧ yLv (E ++ X) afr.2.2.1 lv' ∧ yS (E ++ X) afr.2.2.2 st' ∧ yH xs (E ++ X) lf.2.1 M' ∧ ∀ W ∈ Ws, yFr W M M')
def tEnd (xs : tXs) (sc : Option (Nat × (Nat → Int32))) (d : Nat) (E : List Int) (Ws : List (List tG)) (fr : mFr) (M : mHe) (lfs : List tLf_) : Prop := ∃ lf ∈ lfs, tEnd1 xs sc d E Ws fr M lf
/-- again at the head of one of the loops -/
def tAgn (xs : tXs) (sc : Option (Nat × (Nat → Int32))) (d : Nat) (E : List Int) (Ws : List (List tG)) (fr : mFr) (M : mHe) : List tLp → Prop
  | [] => False
  | L :: post => (∃ V clv M', mTo sc d fr M (L.1, L.2.1, clv, []) M' ∧ tSt xs (E.take L.2.2.2.1) V L clv M' ∧ (∃ e', V[L.2.2.1.2.2.2.2.1]? = some e' ∧ ∀ e, E[L.2.2.2.1 + L.2.2.1.2.2.2.2.1]? = some e → tLess L.2.2.1.2.2.2.2.2.1 e e') ∧ ∀ W ∈ L.2.2.1.2.2.2.2.2.2.2 :: (tWs post ++ Ws), yFr W M M') ∨ tAgn xs sc d E Ws fr M post
def tCnc (xs : tXs) (sc : Option (Nat × (Nat → Int32))) (d : Nat) (E : List Int) (Ws : List (List tG)) (act : List tLp) (fr : mFr) (M : mHe) (lfs : List tLf_) : Prop := tEnd xs sc d E Ws fr M lfs ∨ tAgn xs sc d E Ws fr M act
def tActOk (xs : tXs) (E : List Int) (L : tLp) : Prop := L.2.2.2.1 ≤ E.length ∧ tLpOk xs (E.take L.2.2.2.1) L
def tRecOk (xs : tXs) (rec : tRec) : Prop := ∀ (sb : Bool) (sc : Option (Nat × (Nat → Int32))) (d : Nat) (Ws : List (List tG)) (act : List tLp) (fr : aFr) (h : tF) (cs : aC) (lfs : List tLf_) (E : List Int) (clv : List (Nat × Value)) (cst : List Value) (M : mHe), rec sb d Ws act fr h cs = some lfs → xE E cs → yLv E fr.2.2.1 clv → yS E fr.2.2.2 cst → yH xs E h M → ySc xs E sb sc → (∀ L ∈ act, tActOk xs E L) → tCnc xs sc d E Ws act (fr.1, fr.2.1, clv, cst) M lfs
section TRN
variable {xs : tXs} {sc : Option (Nat × (Nat → Int32))} {d : Nat} {E X : List Int} {Ws : List (List tG)} {fr fr' : mFr} {M M' : mHe} {lfs : List tLf_}
theorem tEnd1_to {lf : tLf_} (ht : mTo sc d fr M fr' M') (hW : ∀ W ∈ Ws, yFr W M M') (h : tEnd1 xs sc d E Ws fr' M' lf) : tEnd1 xs sc d E Ws fr M lf := by
  obtain ⟨X, h0, h⟩ := h
  refine ⟨X, h0, ?_⟩
  split at h
  · obtain ⟨N, r, M2, h1, h2, h3, h4⟩ := h
    obtain ⟨N', h5⟩ := ht N _ h1
    exact ⟨N', r, M2, h5, h2, h3, fun W hw => yFr_tr (hW W hw) (h4 W hw)⟩
  · obtain ⟨lv', st', M2, h1, h2, h3, h4, h5⟩ := h
    exact ⟨lv', st', M2, mTo_tr ht h1, h2, h3, h4, fun W hw => yFr_tr (hW W hw) (h5 W hw)⟩
theorem tAgn_to (ht : mTo sc d fr M fr' M') : ∀ (act : List tLp), (∀ W ∈ tWs act ++ Ws, yFr W M M') → tAgn xs sc d E Ws fr' M' act → tAgn xs sc d E Ws fr M act := by
  intro act
  induction act with
  | nil => intro _ h; exact h
  | cons L act ih =>
    intro hW h
    rcases h with ⟨V, clv, M2, h2, h3, h4, h5⟩ | h
    · exact Or.inl ⟨V, clv, M2, mTo_tr ht h2, h3, h4, fun W hw => yFr_tr (hW W (by simpa [tWs] using hw)) (h5 W hw)⟩
    · exact Or.inr (ih (fun W hw => hW W (by
        rw [tWs, List.map_cons, List.cons_append]
        exact List.mem_cons_of_mem _ hw)) h)
theorem tCnc_to {act : List tLp} (ht : mTo sc d fr M fr' M') (hW : ∀ W ∈ tWs act ++ Ws, yFr W M M') (h : tCnc xs sc d E Ws act fr' M' lfs) : tCnc xs sc d E Ws act fr M lfs := by
  rcases h with ⟨lf, h1, h2⟩ | h
  · exact Or.inl ⟨lf, h1, tEnd1_to ht (fun W hw => hW W (List.mem_append_right _ hw)) h2⟩
  · exact Or.inr (tAgn_to ht act hW h)
theorem tCnc_sub {act : List tLp} {x : List tLf_} (hs : ∀ y ∈ x, y ∈ lfs) (h : tCnc xs sc d E Ws act fr M x) : tCnc xs sc d E Ws act fr M lfs := by
  rcases h with ⟨lf, h1, h2⟩ | h1
  · exact Or.inl ⟨lf, hs lf h1, h2⟩
  · exact Or.inr h1
theorem tEnd1_app {lf : tLf_} (h : tEnd1 xs sc d (E ++ X) Ws fr M lf) : tEnd1 xs sc d E Ws fr M lf := by
  obtain ⟨X2, h0, h⟩ := h
  rw [List.append_assoc] at h0
  exact ⟨X ++ X2, h0, by simpa only [List.append_assoc] using h⟩
theorem tAgn_app : ∀ (act : List tLp), (∀ L ∈ act, L.2.2.2.1 ≤ E.length) → tAgn xs sc d (E ++ X) Ws fr M act → tAgn xs sc d E Ws fr M act := by
  intro act
  induction act with
  | nil => intro _ h; exact h
  | cons L act ih =>
    intro hb h
    rcases h with ⟨V, clv, M2, h2, h3, ⟨e', h4, h5⟩, h6⟩ | h
    · rw [List.take_append_of_le_length (hb L List.mem_cons_self)] at h3
      exact Or.inl ⟨V, clv, M2, h2, h3, ⟨e', h4, fun e he => h5 e (get_app he)⟩, h6⟩
    · exact Or.inr (ih (fun L hL => hb L (List.mem_cons_of_mem _ hL)) h)
theorem tCnc_app {act : List tLp} (hb : ∀ L ∈ act, L.2.2.2.1 ≤ E.length) (h : tCnc xs sc d (E ++ X) Ws act fr M lfs) : tCnc xs sc d E Ws act fr M lfs := by
  rcases h with ⟨lf, h1, h2⟩ | h
  · exact Or.inl ⟨lf, h1, tEnd1_app h2⟩
  · exact Or.inr (tAgn_app act hb h)
theorem tActOk_app {L : tLp} (h : tActOk xs E L) : tActOk xs (E ++ X) L := by
  refine ⟨by rw [List.length_append]; have := h.1; omega, ?_⟩
  rw [List.take_append_of_le_length h.1]
  exact h.2
theorem ySc_app {sb : Bool} (h : ySc xs E sb sc) : ySc xs (E ++ X) sb sc := fun hs => by
  obtain ⟨h1, h2, h3⟩ := h hs
  exact ⟨h1, get_app h2, h3⟩
theorem tColl_mem {α β : Type} {f : α → Option (List β)} : ∀ {l : List α} {r : List β}, tColl f l = some r → ∀ b ∈ l, ∃ x, f b = some x ∧ ∀ y ∈ x, y ∈ r := by
  intro l
  induction l with
  | nil => intro r _ b hb; cases hb
  | cons a l ih =>
    intro r hr b hb
    unfold tColl at hr
    split at hr
    · next x z hx hz =>
      cases hr
      rcases List.mem_cons.mp hb with rfl | hb
      · exact ⟨x, hx, fun y hy => List.mem_append_left _ hy⟩
      · obtain ⟨x', h1, h2⟩ := ih hz b hb
        exact ⟨x', h1, fun y hy => List.mem_append_right _ (h2 y hy)⟩
    · cases hr
theorem tEnds_ok : ∀ {l : List tLf_} {m : List (Option aV × tF × aC)}, tEnds l = some m → ∀ lf ∈ l, ∃ r h cs, lf = (.inr r, h, cs) ∧ (r, h, cs) ∈ m := by
  intro l
  induction l with
  | nil => intro m _ lf hl; cases hl
  | cons a l ih =>
    intro m hm lf hl
    obtain ⟨r, h, cs⟩ := a
    cases r with
    | inl afr => unfold tEnds at hm; cases hm
    | inr r =>
      unfold tEnds at hm
      split at hm
      · next m' hm' =>
        cases hm
        rcases List.mem_cons.mp hl with rfl | hl
        · exact ⟨r, h, cs, rfl, List.mem_cons_self⟩
        · obtain ⟨r', h', cs', e1, e2⟩ := ih hm' lf hl
          exact ⟨r', h', cs', e1, List.mem_cons_of_mem _ e2⟩
      · cases hm
theorem tFc_mem {y : Nat} {vs : List aV} {ct : tCt} : ∀ {cts : List tCt}, tFc cts y vs = some ct → ct ∈ cts ∧ ct.1 = y := by
  intro cts
  induction cts with
  | nil => intro h; cases h
  | cons c cts ih =>
    intro h
    unfold tFc at h
    cases hb : (Nat.beq c.1 y && tRfm c.2.1 vs)
    · rw [hb, cond_false] at h
      exact ⟨List.mem_cons_of_mem _ (ih h).1, (ih h).2⟩
    · rw [hb, cond_true] at h
      cases h
      rw [Bool.and_eq_true] at hb
      exact ⟨List.mem_cons_self, Nat.eq_of_beq_eq_true hb.1⟩
theorem tEnt_ok : ∀ (vs : List aV) (vs' : List Value) (cs : aC) (E : List Int) (i : Nat), xE E cs → yS E vs vs' → ∃ X, xE (E ++ X) (tEnt cs i vs).2 ∧ yLv (E ++ X) (tEnt cs i vs).1 (lv_args i vs') := by
  intro vs
  induction vs with
  | nil =>
    intro vs' cs E i hE hS
    exact ⟨[], by simpa [tEnt] using hE, fun k v hk => by cases hk⟩
  | cons v vs ih =>
    intro vs' cs E i hE hS
    obtain ⟨w, m, rfl, h1, h2⟩ := yS_cons hS
    have cons : ∀ (E2 : List Int) (v1 : aV) (w1 : Value) (al : List (Nat × aV)) (lv : List (Nat × Value)), yV E2 v1 w1 → yLv E2 al lv → yLv E2 ((i, v1) :: al) ((i, w1) :: lv) := by
      intro E2 v1 w1 al lv g1 g2 k a hk
      rw [alg_cons] at hk
      cases hb : Nat.beq i k
      · rw [hb, cond_false] at hk
        obtain ⟨c, c1, c2⟩ := g2 k a hk
        refine ⟨c, ?_, c2⟩
        unfold mlg at c1 ⊢
        rw [List.find?_cons]
        have : (i == k) = false := by
          cases hz : (i == k)
          · rfl
          · have : i = k := by simpa using hz
            rw [this, Nat.beq_refl] at hb; cases hb
        simp only [this]
        exact c1
      · rw [hb, cond_true] at hk
        cases hk
        have := Nat.eq_of_beq_eq_true hb
        subst this
        refine ⟨w1, ?_, g1⟩
        unfold mlg
        rw [List.find?_cons]
        simp
    cases hI : tIsI v
    · have e : tEnt cs i (v :: vs) = ((i, v) :: (tEnt cs (i + aCat v) vs).1, (tEnt cs (i + aCat v) vs).2) := by
        show (bif tIsI v then _ else _) = _
        rw [hI]; rfl
      obtain ⟨X, x1, x2⟩ := ih m cs E (i + aCat v) hE h2
      rw [e]
      refine ⟨X, x1, ?_⟩
      rw [lv_args, yV_cat h1]
      have h9 : (if aCat v = 2 then i + 2 else i + 1) = i + aCat v := by unfold aCat; cases aIsL v <;> rfl
      rw [h9]
      exact cons _ _ _ _ _ (yV_app h1) x2
    · have e : tEnt cs i (v :: vs) = ((i, (tAtm cs v).1) :: (tEnt (tAtm cs v).2 (i + 1) vs).1, (tEnt (tAtm cs v).2 (i + 1) vs).2) := by
        show (bif tIsI v then _ else _) = _
        rw [hI]; rfl
      obtain ⟨x, rfl⟩ := yV_int2 hI h1
      obtain ⟨X, x1, x2⟩ := tAtm_ok hE h1
      obtain ⟨X2, z1, z2⟩ := ih m (tAtm cs v).2 (E ++ X) (i + 1) x1 (yS_app h2)
      rw [e]
      rw [List.append_assoc] at z1 z2
      refine ⟨X ++ X2, z1, ?_⟩
      rw [lv_args]
      refine cons _ _ _ _ _ ?_ z2
      rw [← List.append_assoc]
      exact yV_app x2
theorem yO_S {a : Option aV} {r : Option Value} {ast : List aV} {st : List Value} (h : yO E a r) (hS : yS E ast st) : yS E (a.toList ++ ast) (r.toList ++ st) := by
  cases a <;> cases r <;> first | exact hS | exact h.elim | exact ⟨h, hS⟩
set_option maxHeartbeats 1000000 in
theorem tGn_ok (hT : aTabOk) {K : tKt} (hK : ∀ ct ∈ K.2, tCtOk ct) {rec : tRec} (hrec : tRecOk xs rec) {sb : Bool} {act : List tLp} {q : mMd} {y pc : Nat} {al : List (Nat × aV)} {ast : List aV} {h : tF} {cs : aC} {clv : List (Nat × Value)} {cst : List Value} (hr : tGn K rec sb d Ws act q y pc al ast h cs = some lfs) (hq : mjM y = some q)
    (hE : xE E cs) (hL : yLv E al clv) (hS : yS E ast cst) (hH : yH xs E h M) (hsc : ySc xs E sb sc) (hA : ∀ L ∈ act, tActOk xs E L) : tCnc xs sc d E Ws act (y, pc, clv, cst) M lfs := by
  unfold tGn at hr
  split at hr
  · cases hr
  · next brs hbrs =>
    obtain ⟨b, hb, X, hX, hR⟩ := tStep_ok (sc := sc) hT hq hE hL hS hH hsc hbrs
    obtain ⟨x, hx, hsub⟩ := tColl_mem hr b hb
    refine tCnc_sub hsub (tCnc_app (X := X) (fun L hL => (hA L hL).1) ?_)
    have hA' : ∀ L ∈ act, tActOk xs (E ++ X) L := fun L hL => tActOk_app (hA L hL)
    have hb' : ∀ L ∈ act, L.2.2.2.1 ≤ (E ++ X).length := fun L hL => (hA' L hL).1
    obtain ⟨c, res⟩ := b
    unfold tNx at hx
    simp only at hx hX hR
    split at hx
    · next fr' h' =>
      obtain ⟨lv', st', M', r1, r2, r3, r4, r5⟩ := hR
      exact tCnc_to (mTo_step r1) r5 (hrec sb sc d Ws act fr' h' c x (E ++ X) lv' st' M' hx hX r2 r3 r4 (ySc_app hsc) hA')
    · next y' vs fr' =>
      obtain ⟨cvs, lv1, st1, r1, r2, r3, r4⟩ := hR
      have hH' := yH_app (X := X) hH
      have after : ∀ {d' N1 : Nat} {r : Option Value} {M1 : mHe} {l : List (Option aV × tF × aC)} {lf : Option aV × tF × aC} {X2 : List Int}, d = d' + 1 → mRun none N1 d' (y', 0, lv_args 0 cvs, []) M = some (r, M1) → tColl (tAft rec sb (d' + 1) Ws act fr') l = some x → lf ∈ l → xE (E ++ X ++ X2) lf.2.2 → yO (E ++ X ++ X2) lf.1 r → yH xs (E ++ X ++ X2) lf.2.1 M1 → (∀ W ∈ tWs act ++ Ws, yFr W M M1) → tCnc xs sc d (E ++ X) Ws act (y, pc, clv, cst) M x := by
        intro d' N1 r M1 l lf X2 hd hrun hcl hlf g1 g2 g3 g4
        subst hd
        obtain ⟨x1, hx1, hsub1⟩ := tColl_mem hcl lf hlf
        refine tCnc_sub hsub1 (tCnc_app (X := X2) hb' ?_)
        refine tCnc_to (mTo_call r1 hrun) g4 ?_
        exact hrec sb sc (d' + 1) Ws act (fr'.1, fr'.2.1, fr'.2.2.1, lf.1.toList ++ fr'.2.2.2) lf.2.1 lf.2.2 x1 (E ++ X ++ X2) lv1 (r.toList ++ st1) M1 hx1 g1 (yLv_app r3) (yO_S g2 (yS_app r4)) g3 (ySc_app (ySc_app hsc)) (fun L hL => tActOk_app (hA' L hL))
      split at hx
      · cases hx
      · next d' =>
        split at hx
        · next ct hct =>
          obtain ⟨c1, c2⟩ := tFc_mem hct
          split at hx
          · cases hx
          · next l hl =>
            obtain ⟨N, r, M', m1, lf, m2, X2, m3, m4, m5, m6⟩ := tApp_ok (hK ct c1) hX r2 hH' hl
            rw [c2] at m1
            exact after rfl m1 hx m2 m3 m4 m5 m6
        · have hent := tEnt_ok vs cvs c (E ++ X) 0 hX r2
          generalize tEnt c 0 vs = ent at hx hent
          obtain ⟨elv, ecs⟩ := ent
          simp only at hx hent
          obtain ⟨X2, e1, e2⟩ := hent
          split at hx
          · cases hx
          · next lfs1 hl1 =>
            split at hx
            · cases hx
            · next l hl =>
              have := hrec false none d' (tWs act ++ Ws) [] (y', 0, elv, []) h ecs lfs1 (E ++ X ++ X2) (lv_args 0 cvs) [] M hl1 e1 e2 trivial (yH_app hH') (fun z => by cases z) (fun L hL => by cases hL)
              rcases this with ⟨lf, f1, X3, f2, f3⟩ | z
              · obtain ⟨r, h2, cs2, g1, g2⟩ := tEnds_ok hl lf f1
                subst g1
                obtain ⟨N, r', M1, k1, k2, k3, k4⟩ := f3
                refine after (X2 := X2 ++ X3) rfl k1 hx g2 ?_ ?_ ?_ k4
                · rw [← List.append_assoc]; exact f2
                · rw [← List.append_assoc]; exact k2
                · rw [← List.append_assoc]; exact k3
              · exact z.elim
    · next r =>
      obtain ⟨r', k1, k2⟩ := hR
      cases hx
      refine Or.inl ⟨_, List.mem_cons_self, [], by simpa using hX, 1, r', M, ?_, ?_, ?_, fun W _ => yFr_rf W M⟩
      · unfold mRun
        rw [k1]
      · simpa using k2
      · exact yH_app (X := []) (yH_app hH)
theorem tFindL_ok {y pc : Nat} {L : tLp} : ∀ {act : List tLp}, tFindL act y pc = some L → ∃ pre post, act = pre ++ L :: post ∧ L.1 = y ∧ L.2.1 = pc := by
  intro act
  induction act with
  | nil => intro h; cases h
  | cons A act ih =>
    intro h
    unfold tFindL at h
    cases hb : (Nat.beq A.1 y && Nat.beq A.2.1 pc)
    · rw [hb, cond_false] at h
      obtain ⟨pre, post, h1, h2⟩ := ih h
      exact ⟨A :: pre, post, by rw [h1]; rfl, h2⟩
    · rw [hb, cond_true] at h
      cases h
      rw [Bool.and_eq_true] at hb
      exact ⟨[], act, rfl, Nat.eq_of_beq_eq_true hb.1, Nat.eq_of_beq_eq_true hb.2⟩
theorem tAgn_pre {post : List tLp} : ∀ (pre : List tLp), tAgn xs sc d E Ws fr M post → tAgn xs sc d E Ws fr M (pre ++ post) := by
  intro pre h
  induction pre with
  | nil => exact h
  | cons A pre ih => exact Or.inr ih
theorem tDrop_pre (pc : Nat) : ∀ (act : List tLp), ∃ pre, act = pre ++ tDrop act pc := by
  intro act
  induction act with
  | nil => exact ⟨[], rfl⟩
  | cons L act ih =>
    unfold tDrop
    cases (Nat.ble L.2.1 pc && Nat.ble pc L.2.2.1.1)
    · obtain ⟨pre, h⟩ := ih
      exact ⟨L :: pre, by rw [cond_false, List.cons_append, ← h]⟩
    · exact ⟨[], rfl⟩
/-- how far what grows (or falls) is from its end -/
def tMu (up : Bool) (o : Option Int) : Nat := match o with
  | none => 5000000000
  | some e => bif up then (2147483648 - e).toNat else (e + 2147483648).toNat
set_option maxHeartbeats 1000000 in
theorem tRun_ok (hT : aTabOk) {K : tKt} (hK : ∀ ct ∈ K.2, tCtOk ct) : ∀ n, tRecOk xs (tRun K n) := by
  intro n
  induction n with
  | zero => intro sb sc d Ws act fr h cs lfs E clv cst M hr; cases hr
  | succ n ih =>
    intro sb sc d Ws act0 fr h cs lfs E clv cst M hr hE hL hS hH hsc hA0
    obtain ⟨pre0, hpre0⟩ := tDrop_pre fr.2.1 act0
    unfold tRun at hr
    split at hr
    · cases hr
    next q hq =>
    generalize tDrop act0 fr.2.1 = act at hr hpre0
    have hA : ∀ L ∈ act, tActOk xs E L := fun L hL => hA0 L (by rw [hpre0]; exact List.mem_append_right _ hL)
    have up : tCnc xs sc d E Ws act (fr.1, fr.2.1, clv, cst) M lfs → tCnc xs sc d E Ws act0 (fr.1, fr.2.1, clv, cst) M lfs := by
      intro h
      rcases h with h | h
      · exact Or.inl h
      · refine Or.inr ?_
        rw [hpre0]
        exact tAgn_pre pre0 h
    · refine up ?_
      clear up
      unfold tRunA at hr
      split at hr
      · exact tGn_ok hT hK ih hr hq hE hL hS hH hsc hA
      · cases hr
        exact Or.inl ⟨_, List.mem_cons_self, [], by simpa using hE, clv, cst, M, mTo_rf, by simpa using hL, by simpa using hS, yH_app (X := []) hH, fun W _ => yFr_rf W M⟩
      · next k _ =>
        unfold tSpl at hr
        split at hr
        · next i c z ha =>
          split at hr
          · next l u hi =>
            cases hb : (ilt l u && ilt (u - l) 60)
            · rw [hb, cond_false] at hr
              exact tGn_ok hT hK ih hr hq hE hL hS hH hsc hA
            · rw [hb, cond_true] at hr
              obtain ⟨w, w1, w2⟩ := hL k _ ha
              obtain ⟨e, he⟩ : ∃ e, E[i]? = some e := by
                have : i < E.length := by rw [hE.1]; exact (List.getElem?_eq_some_iff.mp hi).1
                exact ⟨E[i], List.getElem?_eq_getElem this⟩
              have hlu := hE.2.2.1 _ _ _ _ hi he
              obtain ⟨x1, hx1, hs1⟩ := tColl_mem hr (e - l).toNat (List.mem_range.mpr (by omega))
              have hE1 : xE E (cs.1.set i (l + Int.ofNat (e - l).toNat, l + Int.ofNat (e - l).toNat), cs.2) := by
                refine xE_of hE (bOK_set (xE_b hE) (fun e' he' => ?_))
                rw [he] at he'
                cases he'
                have h9 : (Int.ofNat (e - l).toNat : Int) = ((e - l).toNat : Int) := rfl
                omega
              obtain ⟨c', hc1, hc2⟩ := aFeas_ok hE1
              obtain ⟨x2, hx2, hs2⟩ := tColl_mem hx1 c' hc1
              exact tCnc_sub (fun y hy => hs1 y (hs2 y hy)) (ih sb sc d Ws act fr h c' x2 E clv cst M hx2 hc2 hL hS hH hsc hA)
          · exact tGn_ok hT hK ih hr hq hE hL hS hH hsc hA
        · exact tGn_ok hT hK ih hr hq hE hL hS hH hsc hA
      · next an _ =>
        split at hr
        · next est =>
          rw [est] at hS
          have hcst := yS_nil hS
          subst hcst
          split at hr
          · next L hf =>
            have hbk := bif_true hr
            obtain ⟨pre, post, hm, e1, e2⟩ := tFindL_ok hf
            obtain ⟨a1, a2⟩ := hA L (by rw [hm]; simp)
            have eE : E = E.take L.2.2.2.1 ++ E.drop L.2.2.2.1 := (List.take_append_drop _ _).symm
            obtain ⟨V, b1, e', b2, b3⟩ := a2 (E.drop L.2.2.2.1) cs fr.2.2.1 h clv M hbk (by rw [← eE]; exact hE) (by rw [← eE]; exact hL) (by rw [← eE]; exact hH)
            rw [← eE] at b3
            refine Or.inr ?_
            rw [hm]
            refine tAgn_pre pre (Or.inl ⟨V, clv, M, ?_, b1, ⟨e', b2, b3⟩, fun W _ => yFr_rf W M⟩)
            rw [e1, e2]
            exact mTo_rf
          · split at hr
            · cases hr
            · next L hh =>
              obtain ⟨⟨V0, hV0⟩, hLp, e1, e2, e3, hf, hf1, hf2⟩ := tHead_ok hh hE hL hH
              have main : ∀ (m : Nat) (V : List Int) (clv : List (Nat × Value)) (M1 : mHe), tMu L.2.2.1.2.2.2.2.2.1 V[L.2.2.1.2.2.2.2.1]? ≤ m → tSt xs E V L clv M1 → yFr L.2.2.1.2.2.2.2.2.2.2 M M1 → tCnc xs sc d E Ws act (fr.1, fr.2.1, clv, []) M1 lfs := by
                intro m
                induction m using Nat.strongRecOn with
                | ind m ihm =>
                  intro V clv M1 hmu hst hfr
                  obtain ⟨s1, s2, s3, s4⟩ := hst
                  have s5 : yH xs (E ++ V) L.2.2.2.2.2.1 M1 := by
                    refine ⟨s3, ?_⟩
                    rw [hf1]
                    intro q hq
                    rcases List.mem_append.mp hq with hq | hq
                    · rw [e3] at s4
                      exact s4 q hq
                    · obtain ⟨⟨k, k1, w, k2, k3⟩, k4⟩ := hf2 q hq
                      exact yF1_app ⟨k, k1, w, by rw [hfr xs q.1.1 k (k4 k k1)]; exact k2, k3⟩
                  have hc := tGn_ok hT hK ih hr hq s1 s2 (cst := []) trivial s5 (ySc_app hsc) (E := E ++ V) (fun A hAm => by
                    rcases List.mem_cons.mp hAm with rfl | hAm
                    · refine ⟨by rw [e3, List.length_append]; omega, ?_⟩
                      rw [e3, List.take_append_of_le_length (Nat.le_refl _), List.take_length]
                      exact hLp
                    · exact tActOk_app (hA A hAm))
                  rcases hc with ⟨lf, hc1, hc2⟩ | hag
                  · exact Or.inl ⟨lf, hc1, tEnd1_app hc2⟩
                  · rcases hag with ⟨V', clv', M', t1, t2, ⟨e', t3, t4⟩, t5⟩ | hag
                    · rw [e3, List.take_append_of_le_length (Nat.le_refl _), List.take_length] at t2
                      rw [e1, e2] at t1
                      rw [e3] at t4
                      have hb' := t2.1.2.1 (E.length + L.2.2.1.2.2.2.2.1) e' (by rw [get_r]; exact t3)
                      have hlt : tMu L.2.2.1.2.2.2.2.2.1 V'[L.2.2.1.2.2.2.2.1]? < m := by
                        rw [t3]
                        refine Nat.lt_of_lt_of_le ?_ hmu
                        cases hv : V[L.2.2.1.2.2.2.2.1]? with
                        | none =>
                          unfold tMu
                          simp only
                          cases L.2.2.1.2.2.2.2.2.1 <;> simp only [cond_false, cond_true] <;> omega
                        | some e =>
                          have t6 := t4 e (by rw [get_r]; exact hv)
                          have hb := s1.2.1 (E.length + L.2.2.1.2.2.2.2.1) e (by rw [get_r]; exact hv)
                          revert t6
                          unfold tMu tLess
                          simp only
                          cases L.2.2.1.2.2.2.2.2.1 <;> simp only [cond_false, cond_true] <;> intro t6 <;> omega
                      have t6 := t5 _ List.mem_cons_self
                      exact tCnc_to t1 (fun W hW => t5 W (List.mem_cons_of_mem _ hW)) (ihm _ hlt V' clv' M' (Nat.le_refl _) t2 (yFr_tr hfr t6))
                    · exact Or.inr (tAgn_app act (fun A hAm => (hA A hAm).1) hag)
              exact main _ V0 clv M (Nat.le_refl _) hV0 (yFr_rf _ M)
        · cases hr
end TRN
