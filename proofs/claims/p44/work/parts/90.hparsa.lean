/-! HAND: the parser: what is known between its calls -/
def fld (M : mHe) (k : Nat) (x : Int32) : Prop := yRd x00 M 119 k = some (.int x)
/-- the steps laid, and the pile's height behind them -/
def rp (M : mHe) (b l : Nat) (dd : Int) : Prop := ∃ dep : Nat → Int, dep 0 = 0 ∧ (∀ j, j < l → ∃ w v : Int32, yRd x00 M 120 (b + 2 * j) = some (.int w) ∧ yRd x00 M 120 (b + 2 * j + 1) = some (.int v) ∧ yStp w.toInt v.toInt (dep j) (dep (j + 1))) ∧ dep l = dd
def pW (b : Nat) : List tG := [(120, (b : Int), (b : Int) + 191, 1, 0), (119, 15, 22, 1, 0), (119, 24, 24, 1, 0)]
abbrev pS (M0 M : mHe) (b : Nat) (p : Int) (q : Nat) (dd : Int) (dp tu : Nat) : Prop := yTy M ∧ yFr (pW b) M0 M ∧ (∃ (l : Nat) (lx bg bh tp tk : Int32), fld M 14 tp ∧ fld M 15 bg ∧ fld M 16 bh ∧ fld M 17 tk ∧ fld M 22 lx ∧ lx.toInt = (l : Int) ∧ (0 ≤ bg.toInt ∧ bg.toInt ≤ bh.toInt ∧ bh.toInt ≤ tp.toInt ∧ tp.toInt ≤ 96) ∧ (tk.toInt = 0 ∨ bg.toInt + 1 ≤ bh.toInt) ∧ ((l : Int) + p ≤ bg.toInt ∧ (q : Int) ≤ bg.toInt) ∧ rp M b l dd) ∧ (∃ x, fld M 23 x ∧ x.toInt = (b : Int)) ∧ (∃ x, fld M 20 x ∧ x.toInt = (dp : Int)) ∧ ∃ x, fld M 21 x ∧ x.toInt = (tu : Int)
theorem pS.ty {M0 M : mHe} {b q dp tu : Nat} {p dd : Int} (h : pS M0 M b p q dd dp tu) : yTy M := h.1
theorem pS.fr {M0 M : mHe} {b q dp tu : Nat} {p dd : Int} (h : pS M0 M b p q dd dp tu) : yFr (pW b) M0 M := h.2.1
theorem pS.ex {M0 M : mHe} {b q dp tu : Nat} {p dd : Int} (h : pS M0 M b p q dd dp tu) : ∃ (l : Nat) (lx bg bh tp tk : Int32), fld M 14 tp ∧ fld M 15 bg ∧ fld M 16 bh ∧ fld M 17 tk ∧ fld M 22 lx ∧ lx.toInt = (l : Int) ∧ (0 ≤ bg.toInt ∧ bg.toInt ≤ bh.toInt ∧ bh.toInt ≤ tp.toInt ∧ tp.toInt ≤ 96) ∧ (tk.toInt = 0 ∨ bg.toInt + 1 ≤ bh.toInt) ∧ ((l : Int) + p ≤ bg.toInt ∧ (q : Int) ≤ bg.toInt) ∧ rp M b l dd := h.2.2.1
theorem pS.bx {M0 M : mHe} {b q dp tu : Nat} {p dd : Int} (h : pS M0 M b p q dd dp tu) : ∃ x, fld M 23 x ∧ x.toInt = (b : Int) := h.2.2.2.1
theorem pS.dx {M0 M : mHe} {b q dp tu : Nat} {p dd : Int} (h : pS M0 M b p q dd dp tu) : ∃ x, fld M 20 x ∧ x.toInt = (dp : Int) := h.2.2.2.2.1
theorem pS.tx {M0 M : mHe} {b q dp tu : Nat} {p dd : Int} (h : pS M0 M b p q dd dp tu) : ∃ x, fld M 21 x ∧ x.toInt = (tu : Int) := h.2.2.2.2.2
theorem fld_eq {M : mHe} {k : Nat} {x y : Int32} (h : fld M k x) (h2 : fld M k y) : x = y := by
  unfold fld at h h2
  rw [h] at h2
  cases h2
  rfl
def tF119 (k : Nat) : Option (Nat × Nat × Int × Int) := match tTy 119 with
  | some (.inr (_, fts)) => fts[k]?
  | _ => none
theorem fld_bd {M : mHe} {k z : Nat} {lo hi : Int} (hM : yTy M) (hk : tF119 k = some (1, z, lo, hi)) : ∃ x, fld M k x ∧ lo ≤ x.toInt ∧ x.toInt ≤ hi := by
  unfold tF119 at hk
  split at hk
  · next ci fts ht =>
    obtain ⟨fs, h1, h2⟩ := yTy_obj hM ht
    obtain ⟨v, v1, v2⟩ := h2.2 _ _ hk
    have v2 : ∃ x : Int32, v = .int x ∧ lo ≤ x.toInt ∧ x.toInt ≤ hi := v2
    obtain ⟨x, rfl, x1⟩ := v2
    exact ⟨x, by unfold fld; rw [yRd_obj _ (by decide) h1]; exact v1, x1⟩
  · cases hk
theorem rp_same {M M' : mHe} {b l : Nat} {dd : Int} (h : ∀ i, yRd x00 M' 120 i = yRd x00 M 120 i) (hr : rp M b l dd) : rp M' b l dd := by
  obtain ⟨dep, h0, h1, h2⟩ := hr
  refine ⟨dep, h0, fun j hj => ?_, h2⟩
  obtain ⟨w, v, w1, w2, w3⟩ := h1 j hj
  exact ⟨w, v, by rw [h]; exact w1, by rw [h]; exact w2, w3⟩
/-- a field of little weight is written -/
theorem pS_upd {M0 M M' : mHe} {b q dp tu dp' tu' a : Nat} {p dd : Int} (h : pS M0 M b p q dd dp tu) (hT : yTy M') (hW : yFr [(119, (a : Int), (a : Int), 1, 0)] M M') (ha : a = 20 ∨ a = 21 ∨ a = 24) (h20 : ∃ x, fld M' 20 x ∧ x.toInt = (dp' : Int)) (h21 : ∃ x, fld M' 21 x ∧ x.toInt = (tu' : Int)) : pS M0 M' b p q dd dp' tu' := by
  have hr : ∀ c k, ¬ (c = 119 ∧ k = a) → yRd x00 M' c k = yRd x00 M c k := fun c k hn => hW x00 c k (fun g hg => by
    rw [List.mem_singleton.mp hg]
    rintro ⟨z1, z2, z3, -⟩
    simp only at z1 z2 z3
    exact hn ⟨z1.symm, by omega⟩)
  obtain ⟨l, lx, bg, bh, tp, tk, e1, e2, e3, e4, e5, e6, e7, e8, e9, e10⟩ := h.ex
  have hf : ∀ {k x}, k ≠ a → fld M k x → fld M' k x := fun {k x} hk hf => by
    unfold fld
    rw [hr 119 k (fun z => hk z.2)]
    exact hf
  obtain ⟨bx, b1, b2⟩ := h.bx
  refine ⟨hT, yFr_tr h.fr (yFr_sub (fun g hg => ?_) hW), ⟨l, lx, bg, bh, tp, tk, hf (by omega) e1, hf (by omega) e2, hf (by omega) e3, hf (by omega) e4, hf (by omega) e5, e6, e7, e8, e9, rp_same (fun i => hr 120 i (fun z => by cases z.1)) e10⟩, ⟨bx, hf (by omega) b1, b2⟩, h20, h21⟩
  rw [List.mem_singleton.mp hg]
  rcases ha with rfl | rfl | rfl <;> (unfold tSub pW; simp [ile_iff, ieq_iff])
def nxW : List tG := [(119, 15, 15, 1, 0), (119, 16, 16, 1, 0), (119, 17, 17, 1, 0), (119, 18, 18, 1, 0), (119, 19, 19, 1, 0)]
def nxP1 (y pc : Nat) : Option (tAn ⊕ Option Nat) := bif Nat.beq y 305 then (bif Nat.beq pc 34 then some (.inl (69, [], [(119, 16, 0, 96), (119, 14, 0, 96)], [((0, 0), (0, 1), 0), ((1, 2), (0, 0), 0)], 0, true, [], [(119, 16, 16, 1, 0)])) else bif Nat.beq pc 90 then some (.inr none) else none) else none
def nxP2 (y pc : Nat) : Option (tAn ⊕ Option Nat) := bif Nat.beq y 305 && (Nat.beq pc 139 || Nat.beq pc 225) then some (.inr none) else none
def nxP3 (y pc : Nat) : Option (tAn ⊕ Option Nat) := bif Nat.beq y 305 then (bif Nat.beq pc 128 then some (.inl (151, [], [(119, 16, 0, 96), (119, 14, 0, 96), (119, 15, 0, 96)], [((0, 0), (0, 1), 0), ((0, 2), (0, 0), -1), ((1, 2), (0, 2), 0)], 0, true, [], [(119, 16, 16, 1, 0)])) else bif Nat.beq pc 214 then some (.inl (281, [], [(119, 16, 0, 96), (119, 14, 0, 96), (119, 15, 0, 96)], [((0, 0), (0, 1), 0), ((0, 2), (0, 0), -1), ((1, 2), (0, 2), 0)], 0, true, [], [(119, 16, 16, 1, 0), (119, 18, 18, 1, 0)])) else none) else none
def nxE (v : aV) (lf : tLf_) : Bool := lVoid lf && lRelG 119 15 v 0 lf && lRel 119 15 119 16 0 lf && lRel 119 16 119 14 0 lf && lFB 119 17 0 4 lf && (lFB 119 17 0 0 lf || lRel 119 15 119 16 (-1) lf)
def nx1 : Bool := tCk (nxP1, []) 2000 2 [nxW] (305, 0, [(0, kR 128)], []) [((119, 0, 14, 0), (4, 0, 0, 0)), ((119, 0, 16, 0), (4, 1, 0, 0))] ([(0, 96), (0, 96)], [(1, 0, 0)]) (fun lf => lAt 305 90 [] [(0, kR 128), (2, (4, 1, 0, 0))] lf && lL 1 0 1 lf && lRelG 119 16 (4, 1, 0, 0) 0 lf && lRel 119 16 119 14 0 lf)
def nx2 : Bool := tCk (nxP2, []) 2000 2 [nxW] (305, 90, [(0, kR 128), (1, (4, 2, 0, 0)), (2, (4, 3, 0, 0))], []) [((119, 0, 14, 0), (4, 0, 0, 0)), ((119, 0, 16, 0), (4, 1, 0, 0))] ([(0, 96), (0, 96), (0, 1), (0, 96)], [(1, 0, 0), (3, 1, 0)]) (fun lf => nxE (4, 3, 0, 0) lf || ((lAt 305 139 [] [(0, kR 128), (1, (4, 2, 0, 0)), (2, (4, 3, 0, 0))] lf || lAt 305 225 [] [(0, kR 128), (1, (4, 2, 0, 0)), (2, (4, 3, 0, 0))] lf) && lF 119 15 (4, 1, 0, 0) lf && lF 119 16 (4, 1, 0, 0) lf && lRel 119 16 119 14 (-1) lf))
def nx3 (pc : Nat) : Bool := tCk (nxP3, []) 2000 2 [nxW] (305, pc, [(0, kR 128), (1, (4, 2, 0, 0)), (2, (4, 3, 0, 0))], []) [((119, 0, 14, 0), (4, 0, 0, 0)), ((119, 0, 16, 0), (4, 1, 0, 0)), ((119, 0, 15, 0), (4, 1, 0, 0))] ([(0, 96), (0, 95), (0, 1), (0, 96)], [(1, 0, -1), (3, 1, 0)]) (nxE (4, 3, 0, 0))
theorem nx1_ok : nx1 = true := by decide +kernel
theorem nx2_ok : nx2 = true := by decide +kernel
theorem nx3_ok : nx3 139 = true := by decide +kernel
theorem nx4_ok : nx3 225 = true := by decide +kernel
theorem nx_end {E : List Int} {M M' : mHe} {v : aV} {n : Int} {N : Nat} {fr : mFr} {lf : tLf_} (h : nxE v lf = true) (hn : ∀ X, yN (E ++ X) v n) (he : tEnd1 x00 none 2 E [nxW] fr M lf) : ∃ N M', mRun none N 2 fr M = some (none, M') ∧ yTy M' ∧ yFr nxW M M' ∧ ∃ bg bh tp tk : Int32, fld M' 15 bg ∧ fld M' 16 bh ∧ fld M' 14 tp ∧ fld M' 17 tk ∧ n ≤ bg.toInt ∧ bg.toInt ≤ bh.toInt ∧ bh.toInt ≤ tp.toInt ∧ (tk.toInt = 0 ∨ bg.toInt + 1 ≤ bh.toInt) := by
  unfold nxE at h
  simp only [Bool.and_eq_true, Bool.or_eq_true] at h
  obtain ⟨⟨⟨⟨⟨h1, h2⟩, h3⟩, h4⟩, h5⟩, h6⟩ := h
  obtain ⟨X, N, M', m1, m2, m3, m4⟩ := lVoid_ok h1 he
  obtain ⟨bg, a1, a2⟩ := lRelG_ok (k := 15) h2 m1 m3 (hn X)
  obtain ⟨bg2, bh, b1, b2, b3⟩ := lRel_ok (k := 15) (k' := 16) h3 m1 m3
  obtain ⟨bh2, tp, c1, c2, c3⟩ := lRel_ok (k := 16) (k' := 14) h4 m1 m3
  obtain ⟨tk, d1, d2⟩ := lFB_ok (k := 17) h5 m1 m3
  rw [a1] at b1; cases b1
  rw [b2] at c1; cases c1
  refine ⟨N, M', m2, m3.1, m4 _ (List.mem_singleton_self _), bg, bh, tp, tk, a1, b2, c2, d1, by omega, by omega, by omega, ?_⟩
  rcases h6 with h6 | h6
  · obtain ⟨z, z1, z2⟩ := lFB_ok (k := 17) h6 m1 m3
    rw [d1] at z1; cases z1
    exact Or.inl (by omega)
  · obtain ⟨y1, y2, z1, z2, z3⟩ := lRel_ok (k := 15) (k' := 16) h6 m1 m3
    rw [a1] at z1; cases z1
    rw [b2] at z2; cases z2
    exact Or.inr (by omega)
theorem nx_run (hT : aTabOk) {M : mHe} {bh tp : Int32} (hM : yTy M) (h16 : fld M 16 bh) (h14 : fld M 14 tp) (hle : bh.toInt ≤ tp.toInt) : ∃ N M', mRun none N 2 (305, 0, lv_args 0 [.ref 128], []) M = some (none, M') ∧ yTy M' ∧ yFr nxW M M' ∧ ∃ bg' bh' tp' tk' : Int32, fld M' 15 bg' ∧ fld M' 16 bh' ∧ fld M' 14 tp' ∧ fld M' 17 tk' ∧ bh.toInt ≤ bg'.toInt ∧ bg'.toInt ≤ bh'.toInt ∧ bh'.toInt ≤ tp'.toInt ∧ (tk'.toInt = 0 ∨ bg'.toInt + 1 ≤ bh'.toInt) := by
  obtain ⟨x, x1, x2⟩ := fld_bd hM (k := 14) (z := 0) (lo := 0) (hi := 96) rfl
  obtain ⟨y, y1, y2⟩ := fld_bd hM (k := 16) (z := 0) (lo := 0) (hi := 96) rfl
  cases fld_eq h14 x1
  cases fld_eq h16 y1
  have hA := nx1_ok
  unfold nx1 at hA
  have hE : xE [tp.toInt, bh.toInt] ([(0, 96), (0, 96)], [(1, 0, 0)]) := by
    refine xE_more (xE_of_list rfl (fun i l u e hb he => ?_)) (fun t ht => by rw [List.mem_singleton.mp ht]; exact ⟨_, _, rfl, rfl, by show bh.toInt - tp.toInt ≤ 0; omega⟩)
    match i with
    | 0 => cases hb; cases he; exact ⟨x2, i32_lo _, i32_hi _⟩
    | 1 => cases hb; cases he; exact ⟨y2, i32_lo _, i32_hi _⟩
    | i + 2 => simp at hb
  have hF : yF x00 [tp.toInt, bh.toInt] [((119, 0, 14, 0), (4, 0, 0, 0)), ((119, 0, 16, 0), (4, 1, 0, 0))] M := by
    intro q hq
    rcases List.mem_cons.mp hq with rfl | hq
    · exact ⟨14, rfl, _, h14, yV_atom rfl⟩
    · rw [List.mem_singleton.mp hq]
      exact ⟨16, rfl, _, h16, yV_atom rfl⟩
  obtain ⟨lf, f1, f2⟩ := tSegC (xs := x00) hT (fun ct hct => by cases hct) hA hE (clv := lv_args 0 [.ref 128]) (yLv_cons rfl (yV_kR _ _) (yLv_nil _ _)) (cst := []) (show yS _ [] [] from trivial) ⟨hM, hF⟩
  simp only [Bool.and_eq_true] at f1
  obtain ⟨⟨⟨f1, f3⟩, f4⟩, f5⟩ := f1
  obtain ⟨X, lv, st, M1, m1, m2, m3, m4, m5, m6, m7⟩ := lAt_ok f1 f2
  have hst := yS_nil m3
  subst hst
  have g0 : mlg 0 lv = some (.ref 128) := loc_r m4 (by simp)
  obtain ⟨was, s1, s2⟩ := loc_i (k := 2) (i := 1) (a := 0) (e := bh.toInt) m4 (by simp) rfl
  obtain ⟨ti, t1, t2, t3⟩ := m5 _ _ _ f3
  obtain ⟨b1, u1, u2⟩ := lRelG_ok (k := 16) f4 m1 m6 (show yN _ (4, 1, 0, 0) bh.toInt from ⟨bh.toInt, get_app rfl, by omega⟩)
  obtain ⟨b2, tp1, u3, u4, u5⟩ := lRel_ok (k := 16) (k' := 14) f5 m1 m6
  rw [u1] at u3; cases u3
  have w1 := m7 _ (List.mem_singleton_self _)
  obtain ⟨x', x1', x2'⟩ := fld_bd m6.1 (k := 14) (z := 0) (lo := 0) (hi := 96) rfl
  obtain ⟨y', y1', y2'⟩ := fld_bd m6.1 (k := 16) (z := 0) (lo := 0) (hi := 96) rfl
  cases fld_eq (show fld M1 14 tp1 from u4) x1'
  cases fld_eq (show fld M1 16 b1 from u1) y1'
  have hw : was.toInt = bh.toInt := by omega
  have hA := nx2_ok
  unfold nx2 at hA
  have hE : xE [tp1.toInt, b1.toInt, ti.toInt, was.toInt] ([(0, 96), (0, 96), (0, 1), (0, 96)], [(1, 0, 0), (3, 1, 0)]) := by
    refine xE_more (xE_of_list rfl (fun i l u e hb he => ?_)) (fun t ht => ?_)
    · match i with
      | 0 => cases hb; cases he; exact ⟨x2', i32_lo _, i32_hi _⟩
      | 1 => cases hb; cases he; exact ⟨y2', i32_lo _, i32_hi _⟩
      | 2 => cases hb; cases he; exact ⟨⟨t2, t3⟩, i32_lo _, i32_hi _⟩
      | 3 => cases hb; cases he; exact ⟨by omega, i32_lo _, i32_hi _⟩
      | i + 4 => simp at hb
    · rcases List.mem_cons.mp ht with rfl | ht
      · exact ⟨_, _, rfl, rfl, by show b1.toInt - tp1.toInt ≤ 0; omega⟩
      · rw [List.mem_singleton.mp ht]; exact ⟨_, _, rfl, rfl, by show was.toInt - b1.toInt ≤ 0; omega⟩
  have hF : yF x00 [tp1.toInt, b1.toInt, ti.toInt, was.toInt] [((119, 0, 14, 0), (4, 0, 0, 0)), ((119, 0, 16, 0), (4, 1, 0, 0))] M1 := by
    intro q hq
    rcases List.mem_cons.mp hq with rfl | hq
    · exact ⟨14, rfl, _, u4, yV_atom rfl⟩
    · rw [List.mem_singleton.mp hq]
      exact ⟨16, rfl, _, u1, yV_atom rfl⟩
  have hN : ∀ X, yN ([tp1.toInt, b1.toInt, ti.toInt, was.toInt] ++ X) (4, 3, 0, 0) bh.toInt := fun X => ⟨was.toInt, get_app rfl, by omega⟩
  have done : ∀ {fr : mFr} {M2 : mHe}, mTo none 2 (305, 0, lv_args 0 [.ref 128], []) M fr M2 → yFr nxW M M2 → (∃ N M', mRun none N 2 fr M2 = some (none, M') ∧ yTy M' ∧ yFr nxW M2 M' ∧ ∃ bg bh' tp tk : Int32, fld M' 15 bg ∧ fld M' 16 bh' ∧ fld M' 14 tp ∧ fld M' 17 tk ∧ bh.toInt ≤ bg.toInt ∧ bg.toInt ≤ bh'.toInt ∧ bh'.toInt ≤ tp.toInt ∧ (tk.toInt = 0 ∨ bg.toInt + 1 ≤ bh'.toInt)) → ∃ N M', mRun none N 2 (305, 0, lv_args 0 [.ref 128], []) M = some (none, M') ∧ yTy M' ∧ yFr nxW M M' ∧ ∃ bg' bh' tp' tk' : Int32, fld M' 15 bg' ∧ fld M' 16 bh' ∧ fld M' 14 tp' ∧ fld M' 17 tk' ∧ bh.toInt ≤ bg'.toInt ∧ bg'.toInt ≤ bh'.toInt ∧ bh'.toInt ≤ tp'.toInt ∧ (tk'.toInt = 0 ∨ bg'.toInt + 1 ≤ bh'.toInt) := by
    intro fr M2 ht hf ⟨N, M', h1, h2, h3, h4⟩
    obtain ⟨N', h5⟩ := ht N _ h1
    exact ⟨N', M', h5, h2, yFr_tr hf h3, h4⟩
  refine done m2 w1 ?_
  obtain ⟨lf, f1, f2⟩ := tSegC (xs := x00) hT (fun ct hct => by cases hct) hA hE (clv := lv) (yLv_cons g0 (yV_kR _ _) (yLv_cons t1 (yV_atom rfl) (yLv_cons s1 (yV_atom rfl) (yLv_nil _ _)))) (cst := []) (show yS _ [] [] from trivial) ⟨m6.1, hF⟩
  rw [Bool.or_eq_true] at f1
  rcases f1 with f1 | f1
  · exact nx_end (N := 0) (M' := M) f1 hN f2
  · rw [Bool.and_eq_true, Bool.and_eq_true, Bool.and_eq_true, Bool.or_eq_true] at f1
    obtain ⟨⟨⟨f1, f3⟩, f4⟩, f5⟩ := f1
    have third : ∀ pc, nx3 pc = true → lAt 305 pc [] [(0, kR 128), (1, (4, 2, 0, 0)), (2, (4, 3, 0, 0))] lf = true → ∃ N M', mRun none N 2 (305, 90, lv, []) M1 = some (none, M') ∧ yTy M' ∧ yFr nxW M1 M' ∧ ∃ bg bh' tp tk : Int32, fld M' 15 bg ∧ fld M' 16 bh' ∧ fld M' 14 tp ∧ fld M' 17 tk ∧ bh.toInt ≤ bg.toInt ∧ bg.toInt ≤ bh'.toInt ∧ bh'.toInt ≤ tp.toInt ∧ (tk.toInt = 0 ∨ bg.toInt + 1 ≤ bh'.toInt) := by
      intro pc hA f1
      obtain ⟨X, lv2, st, M2, m1, m2, m3, m4, m5, m6, m7⟩ := lAt_ok f1 f2
      have hst := yS_nil m3
      subst hst
      have g0 : mlg 0 lv2 = some (.ref 128) := loc_r m4 (by simp)
      obtain ⟨wa2, s3, s4⟩ := loc_i (k := 2) (i := 3) (a := 0) (e := was.toInt) m4 (by simp) rfl
      obtain ⟨ti2, t4, t5⟩ := loc_i (k := 1) (i := 2) (a := 0) (e := ti.toInt) m4 (by simp) rfl
      obtain ⟨v1, p1, p2⟩ := lF_ok (k := 15) f3 m6
      obtain ⟨v2, p3, p4⟩ := lF_ok (k := 16) f4 m6
      obtain ⟨c1, rfl, p5⟩ := yV_int rfl p2
      obtain ⟨c2, rfl, p6⟩ := yV_int rfl p4
      obtain ⟨r1, r2, r3⟩ := p5.2
      obtain ⟨r4, r5, r6⟩ := p6.2
      rw [get_app (rfl : [tp1.toInt, b1.toInt, ti.toInt, was.toInt][1]? = some b1.toInt)] at r2 r5
      cases r2; cases r5
      obtain ⟨c3, tp2, q1, q2, q3⟩ := lRel_ok (k := 16) (k' := 14) f5 m1 m6
      rw [p3] at q1; cases q1
      obtain ⟨x', x1', x2'⟩ := fld_bd m6.1 (k := 14) (z := 0) (lo := 0) (hi := 96) rfl
      cases fld_eq (show fld M2 14 tp2 from q2) x1'
      unfold nx3 at hA
      have e12 : c1 = c2 := i32eq (by omega)
      subst e12
      have hE : xE [tp2.toInt, c1.toInt, ti2.toInt, wa2.toInt] ([(0, 96), (0, 95), (0, 1), (0, 96)], [(1, 0, -1), (3, 1, 0)]) := by
        refine xE_more (xE_of_list rfl (fun i l u e hb he => ?_)) (fun t ht => ?_)
        · match i with
          | 0 => cases hb; cases he; exact ⟨x2', i32_lo _, i32_hi _⟩
          | 1 => cases hb; cases he; exact ⟨by omega, i32_lo _, i32_hi _⟩
          | 2 => cases hb; cases he; exact ⟨by omega, i32_lo _, i32_hi _⟩
          | 3 => cases hb; cases he; exact ⟨by omega, i32_lo _, i32_hi _⟩
          | i + 4 => simp at hb
        · rcases List.mem_cons.mp ht with rfl | ht
          · exact ⟨_, _, rfl, rfl, by show c1.toInt - tp2.toInt ≤ -1; omega⟩
          · rw [List.mem_singleton.mp ht]; exact ⟨_, _, rfl, rfl, by show wa2.toInt - c1.toInt ≤ 0; omega⟩
      have hF : yF x00 [tp2.toInt, c1.toInt, ti2.toInt, wa2.toInt] [((119, 0, 14, 0), (4, 0, 0, 0)), ((119, 0, 16, 0), (4, 1, 0, 0)), ((119, 0, 15, 0), (4, 1, 0, 0))] M2 := by
        intro q hq
        rcases List.mem_cons.mp hq with rfl | hq
        · exact ⟨14, rfl, _, q2, yV_atom rfl⟩
        · rcases List.mem_cons.mp hq with rfl | hq
          · exact ⟨16, rfl, _, p3, yV_atom rfl⟩
          · rw [List.mem_singleton.mp hq]
            exact ⟨15, rfl, _, p1, yV_atom rfl⟩
      obtain ⟨lf2, g1, g2⟩ := tSegC (xs := x00) hT (fun ct hct => by cases hct) hA hE (clv := lv2) (yLv_cons g0 (yV_kR _ _) (yLv_cons t4 (yV_atom rfl) (yLv_cons s3 (yV_atom rfl) (yLv_nil _ _)))) (cst := []) (show yS _ [] [] from trivial) ⟨m6.1, hF⟩
      obtain ⟨N, M', h1, h2, h3, h4⟩ := nx_end (N := 0) (M' := M) (n := bh.toInt) g1 (fun X => ⟨wa2.toInt, get_app rfl, by omega⟩) g2
      obtain ⟨N', h5⟩ := m2 N _ h1
      exact ⟨N', M', h5, h2, yFr_tr (m7 _ (List.mem_singleton_self _)) h3, h4⟩
    rcases f1 with f1 | f1
    · exact third 139 nx3_ok f1
    · exact third 225 nx4_ok f1
theorem next_run (hT : aTabOk) {M0 M : mHe} {b q dp tu : Nat} {p dd : Int} (h : pS M0 M b p q dd dp tu) (ht : ∃ tk, fld M 17 tk ∧ tk.toInt ≠ 0) : ∃ N M', mRun none N 2 (305, 0, lv_args 0 [.ref 128], []) M = some (none, M') ∧ pS M0 M' b (p + 1) (q + 1) dd dp tu := by
  obtain ⟨l, lx, bg, bh, tp, tk, e1, e2, e3, e4, e5, e6, e7, e8, e9, e10⟩ := h.ex
  obtain ⟨tk0, k1, k2⟩ := ht
  cases fld_eq e4 k1
  obtain ⟨N, M', h1, h2, h3, bg', bh', tp', tk', h4, h5, h6, h7, h8, h9, h10, h11⟩ := nx_run hT h.ty e3 e1 e7.2.2.1
  have hr : ∀ c k, ¬ (c = 119 ∧ 15 ≤ k ∧ k ≤ 19) → yRd x00 M' c k = yRd x00 M c k := fun c k hn => h3 x00 c k (fun g hg => by
    unfold nxW at hg
    simp only [List.mem_cons, List.not_mem_nil, or_false] at hg
    rcases hg with rfl | rfl | rfl | rfl | rfl <;> (rintro ⟨z1, z2, z3, -⟩; simp only at z1 z2 z3; exact hn ⟨z1.symm, by omega⟩))
  have hf : ∀ {k x}, ¬ (15 ≤ k ∧ k ≤ 19) → fld M k x → fld M' k x := fun {k x} hk hf => by
    unfold fld
    rw [hr 119 k (fun z => hk z.2)]
    exact hf
  cases fld_eq (hf (by omega) e1) h6
  obtain ⟨bx, b1, b2⟩ := h.bx
  obtain ⟨dx, d1, d2⟩ := h.dx
  obtain ⟨tx, t1, t2⟩ := h.tx
  exact ⟨N, M', h1, h2, yFr_tr h.fr (yFr_sub (fun g hg => by
    unfold nxW at hg
    simp only [List.mem_cons, List.not_mem_nil, or_false] at hg
    rcases hg with rfl | rfl | rfl | rfl | rfl <;> (unfold tSub pW; simp [ile_iff, ieq_iff])) h3), ⟨l, lx, bg', bh', tp, tk', h6, h4, h5, h7, hf (by omega) e5, e6, by omega, h11, by omega, rp_same (fun i => hr 120 i (fun z => by cases z.1)) e10⟩, ⟨bx, hf (by omega) b1, b2⟩, ⟨dx, hf (by omega) d1, d2⟩, ⟨tx, hf (by omega) t1, t2⟩⟩
/-! HAND: a step laid -/
/-- where steps may be laid: behind all texts, or far off -/
def pB (M : mHe) (b : Nat) : Prop := b = 3800 ∨ ∃ t : Nat, t < 12 ∧ b = 1014 + 200 * t ∧ ∃ x : Int32, yRd x00 M 120 6 = some (.int x) ∧ x.toInt = (t : Int)
def rgC (r : tR) : Bool := ilt r.2.1 1010 || (ieq r.1 1010 && ieq r.2.1 3409 && Nat.beq r.2.2.1 200 && Nat.beq r.2.2.2.length 4) || (ilt 3409 r.1 && ilt r.2.1 3800)
theorem rgC_all : tRegS.all rgC = true := by decide +kernel
theorem yT_step {f : Nat → Int32} {i : Nat} {x : Int32} (hf : yT tRegS 4000 f) (hi : (∃ t o, t < 12 ∧ o < 192 ∧ i = 1014 + 200 * t + o) ∨ 3800 ≤ i) : yT tRegS 4000 (upd f i x) := by
  intro r hr k hk h1 h2
  by_cases e : k = i
  · subst e
    have hc := List.all_eq_true.mp rgC_all r hr
    unfold rgC at hc
    rw [Bool.or_eq_true, Bool.or_eq_true, Bool.and_eq_true, Bool.and_eq_true, Bool.and_eq_true, Bool.and_eq_true, ilt_iff, ilt_iff, ilt_iff, ieq_iff, ieq_iff] at hc
    rw [upd_same]
    have full : tV1 r.2.2.2 r.2.2.1 r.1 (k : Int) = (-2147483648, 2147483647) ∨ False := by
      rcases hc with (hc | ⟨⟨⟨c1, c2⟩, c3⟩, c4⟩) | ⟨c1, c2⟩
      · rcases hi with ⟨t, o, t1, t2, t3⟩ | hi <;> omega
      · have c3 := Nat.eq_of_beq_eq_true c3
        have c4 := Nat.eq_of_beq_eq_true c4
        rcases hi with ⟨t, o, t1, t2, t3⟩ | hi
        · refine Or.inl ?_
          unfold tV1
          rw [c1, c3]
          have : (((k : Int) - 1010) % Int.ofNat 200).toNat = o + 4 := by
            show (((k : Int) - 1010) % 200).toNat = o + 4
            omega
          rw [this, List.getElem?_eq_none (by omega)]
          rfl
        · omega
      · rcases hi with ⟨t, o, t1, t2, t3⟩ | hi <;> omega
    rcases full with full | full
    · rw [full]
      exact ⟨i32_lo x, i32_hi x⟩
    · exact full.elim
  · rw [upd_ne f x e]
    exact hf r hr k hk h1 h2
theorem yPap_same {f f' : Nat → Int32} {k : Nat} (h : ∀ j, 160 ≤ j → j < 1010 → f' j = f j) (hk : k < 40) (hp : yPap f k) : yPap f' k := by
  have e : ∀ j o, j < 40 → o < 10 → yPk f' j o = yPk f j o := fun j o h1 h2 => by
    unfold yPk
    rw [h _ (by omega) (by omega)]
  obtain ⟨a, b, c⟩ := hp
  unfold yPap
  rw [e k 0 hk (by omega), e k 1 hk (by omega), e k 2 hk (by omega), e k 4 hk (by omega)]
  refine ⟨fun z => ?_, b, fun z => ?_⟩
  · obtain ⟨a1, a2, a3⟩ := a z
    exact ⟨a1, a2, by rw [e _ 0 (by omega) (by omega)]; exact a3⟩
  · obtain ⟨a1, a2, a3⟩ := c z
    exact ⟨a1, a2, by rw [e _ 0 (by omega) (by omega)]; exact a3⟩
theorem yP_step {f : Nat → Int32} {i : Nat} {x : Int32} (hP : yP f) (h5 : (f 5).toInt ≤ 40) (hi : (∃ t o, t < 12 ∧ o < 192 ∧ i = 1014 + 200 * t + o ∧ (f 6).toInt = (t : Int)) ∨ 3800 ≤ i) : yP (upd f i x) := by
  obtain ⟨p1, p2, p3, p4⟩ := hP
  have hlo : ∀ j, j < 1010 → upd f i x j = f j := fun j hj => upd_ne f x (by rcases hi with ⟨t, o, t1, t2, t3, t4⟩ | hi <;> omega)
  refine ⟨by rw [hlo 5 (by omega)]; exact p1, fun k hk => ?_, by rw [hlo 6 (by omega)]; exact p3, fun t ht => ?_⟩
  · rw [hlo 5 (by omega)] at hk
    exact yPap_same (fun j _ hj => hlo j hj) (by omega) (p2 k hk)
  · rw [hlo 6 (by omega)]
    obtain ⟨q1, q2⟩ := p4 t ht
    have hm : upd f i x (1010 + 200 * t + 3) = f (1010 + 200 * t + 3) := upd_ne f x (by rcases hi with ⟨t, o, t1, t2, t3, t4⟩ | hi <;> omega)
    refine ⟨?_, by rw [hm]; exact q2⟩
    unfold yTx1 at q1 ⊢
    rw [hm]
    by_cases hz : (f 6).toInt ≤ (t : Int)
    · have := q2 hz
      exact ⟨q1.1, fun _ => 0, rfl, fun j hj => by omega⟩
    · obtain ⟨r1, dep, r2, r3⟩ := q1
      refine ⟨r1, dep, r2, fun j hj => ?_⟩
      rw [upd_ne f x (by rcases hi with ⟨t, o, t1, t2, t3, t4⟩ | hi <;> omega), upd_ne f x (by rcases hi with ⟨t, o, t1, t2, t3, t4⟩ | hi <;> omega)]
      exact r3 j hj
/-- a number laid -/
theorem lay_ok {M : mHe} {b i : Nat} {x : Int32} (hM : yTy M) (hb : pB M b) (hi : b ≤ i ∧ i ≤ b + 191) : ∃ f, M[120]? = some (.inl (4000, f)) ∧ i < 4000 ∧ yTy (M.set 120 (.inl (4000, upd f i x))) ∧ pB (M.set 120 (.inl (4000, upd f i x))) b := by
  obtain ⟨f, hs, hf, hP⟩ := yTy_arr hM tTy_120
  have hP := hP rfl
  have h6 : ∀ x, yRd x00 M 120 6 = some (.int x) → f 6 = x := fun x h => by
    rw [yRd_arr _ (by decide) hs (by decide)] at h
    cases h
    rfl
  refine ⟨f, hs, ?_, yTy_set hM tTy_120 (yT_step hf ?_) (fun _ => yP_step hP hP.1 ?_), ?_⟩
  · rcases hb with rfl | ⟨t, t1, rfl, t3⟩ <;> omega
  · rcases hb with rfl | ⟨t, t1, rfl, t3⟩
    · exact Or.inr hi.1
    · exact Or.inl ⟨t, i - (1014 + 200 * t), t1, by omega, by omega⟩
  · rcases hb with rfl | ⟨t, t1, rfl, y, y1, y2⟩
    · exact Or.inr hi.1
    · exact Or.inl ⟨t, i - (1014 + 200 * t), t1, by omega, by omega, by rw [h6 y y1]; exact y2⟩
  · rcases hb with rfl | ⟨t, t1, rfl, y, y1, y2⟩
    · exact Or.inl rfl
    · exact Or.inr ⟨t, t1, rfl, y, by rw [yRd_upd hs (fun z => by have := z.2; omega)]; exact y1, y2⟩
theorem rp_step {M M' : mHe} {b l : Nat} {dd dd' : Int} {w v : Int32} (hr : rp M b l dd) (hs : ∀ i, i < b + 2 * l → yRd x00 M' 120 i = yRd x00 M 120 i) (hw : yRd x00 M' 120 (b + 2 * l) = some (.int w)) (hv : yRd x00 M' 120 (b + 2 * l + 1) = some (.int v)) (hst : yStp w.toInt v.toInt dd dd') : rp M' b (l + 1) dd' := by
  obtain ⟨dep, h0, h1, h2⟩ := hr
  refine ⟨fun j => if j = l + 1 then dd' else dep j, ?_, fun j hj => ?_, if_pos rfl⟩
  · show (if 0 = l + 1 then dd' else dep 0) = 0
    rw [if_neg (by omega)]
    exact h0
  · by_cases e : j = l
    · subst e
      refine ⟨w, v, hw, hv, ?_⟩
      show yStp _ _ (if j = j + 1 then dd' else dep j) (if j + 1 = j + 1 then dd' else dep (j + 1))
      rw [if_neg (by omega), if_pos rfl, h2]
      exact hst
    · obtain ⟨w', v', w1, w2, w3⟩ := h1 j (by omega)
      refine ⟨w', v', by rw [hs _ (by omega)]; exact w1, by rw [hs _ (by omega)]; exact w2, ?_⟩
      show yStp _ _ (if j = l + 1 then dd' else dep j) (if j + 1 = l + 1 then dd' else dep (j + 1))
      rw [if_neg (by omega), if_neg (by omega)]
      exact w3
/-- a field written -/
theorem fset_ok {M : mHe} {k z : Nat} {lo hi : Int} {x : Int32} {fs : List Value} (hM : yTy M) (hs : M[119]? = some (.inr (12, fs))) (hk : tF119 k = some (1, z, lo, hi)) (hx : lo ≤ x.toInt ∧ x.toInt ≤ hi) : k < fs.length ∧ yTy (M.set 119 (.inr (12, fs.set k (.int x)))) ∧ fld (M.set 119 (.inr (12, fs.set k (.int x)))) k x ∧ ∀ c i, ¬ (c = 119 ∧ i = k) → yRd x00 (M.set 119 (.inr (12, fs.set k (.int x)))) c i = yRd x00 M c i := by
  unfold tF119 at hk
  split at hk
  · next ci fts ht =>
    have hlt := (List.getElem?_eq_some_iff.mp hs).1
    obtain ⟨fs', h1, h2⟩ := yTy_obj hM ht
    rw [hs] at h1
    cases h1
    have hkl : k < fs.length := by rw [h2.1]; exact (List.getElem?_eq_some_iff.mp hk).1
    refine ⟨hkl, yTy_setO hM ht ⟨by rw [List.length_set]; exact h2.1, fun j ft hj => ?_⟩, ?_, fun c i hn => ?_⟩
    · by_cases e : j = k
      · subst e
        rw [hk] at hj
        cases hj
        exact ⟨_, List.getElem?_set_self hkl, x, rfl, hx.1, hx.2⟩
      · obtain ⟨v, v1, v2⟩ := h2.2 j ft hj
        exact ⟨v, by rw [List.getElem?_set_ne (fun z => e z.symm)]; exact v1, v2⟩
    · unfold fld
      rw [yRd_obj _ (by decide) (List.getElem?_set_self hlt), List.getElem?_set_self hkl]
    · by_cases hc : c = 119
      · subst hc
        rw [yRd_obj _ (by decide) (List.getElem?_set_self hlt), yRd_obj _ (by decide) hs, List.getElem?_set_ne (fun z => hn ⟨rfl, z.symm⟩)]
      · exact yRd_ne hc
  · cases hk
theorem fld_fs {M : mHe} {k : Nat} {x : Int32} {fs : List Value} (hs : M[119]? = some (.inr (12, fs))) (h : fld M k x) : fs[k]? = some (.int x) := by
  unfold fld at h
  rw [yRd_obj _ (by decide) hs] at h
  exact h
theorem step_run (hT : aTabOk) {M0 M : mHe} {b q dp tu : Nat} {p dd dd' : Int} {w v : Int32} (h : pS M0 M b p q dd dp tu) (hb : pB M0 b) (hst : yStp w.toInt v.toInt dd dd') (hp : 1 ≤ p ∨ (0 ≤ p ∧ ∃ tk, fld M 17 tk ∧ tk.toInt ≠ 0)) : ∃ N M', mRun none N 0 (311, 0, lv_args 0 [.ref 128, .int w, .int v], []) M = some (none, M') ∧ pS M0 M' b (p - 1) q dd' dp tu ∧ (∀ tk, fld M 17 tk → fld M' 17 tk) := by
  obtain ⟨l, lx, bg, bh, tp, tk, e1, e2, e3, e4, e5, e6, e7, e8, e9, e10⟩ := h.ex
  obtain ⟨bx, b1, b2⟩ := h.bx
  have hl : l ≤ 95 := by
    rcases hp with hp | ⟨hp, t0, k1, k2⟩
    · omega
    · cases fld_eq e4 k1
      omega
  have hbB : b ≤ 3800 := by rcases hb with rfl | ⟨t, t1, rfl, -⟩ <;> omega
  have hb1 : pB M b := by
    rcases hb with hb | ⟨t, t1, t2, y, y1, y2⟩
    · exact Or.inl hb
    · refine Or.inr ⟨t, t1, t2, y, ?_, y2⟩
      rw [h.fr x00 120 6 (fun g hg => by
        unfold pW at hg
        simp only [List.mem_cons, List.not_mem_nil, or_false] at hg
        rcases hg with rfl | rfl | rfl
        · rintro ⟨z1, z2, z3, -⟩
          simp only at z2
          omega
        · rintro ⟨z1, -⟩; cases z1
        · rintro ⟨z1, -⟩; cases z1)]
      exact y1
  have c2 : Int32.toInt 2 = 2 := rfl
  have c1 : Int32.toInt 1 = 1 := rfl
  have x1 : (bx + 2 * lx).toInt = ((b + 2 * l : Nat) : Int) := by
    rw [i32_lin (n := (l : Int)) e6 (by rw [c2]; omega) (by rw [c2]; omega) (by rw [b2, c2]; omega) (by rw [b2, c2]; omega), b2, c2]; omega
  have x2 : (bx + 2 * lx + 1).toInt = ((b + 2 * l + 1 : Nat) : Int) := i32_p x1 c1 (by omega) (by omega)
  have x1' : (bx + 2 * lx).toInt.toNat = b + 2 * l := by rw [x1]; rfl
  have x2' : (bx + 2 * lx + 1).toInt.toNat = b + 2 * l + 1 := by rw [x2]; rfl
  obtain ⟨f, hs, i1, t1, hb2⟩ := lay_ok (x := w) h.ty hb1 (i := b + 2 * l) (by omega)
  obtain ⟨g, hs2, i2, t2, -⟩ := lay_ok (x := v) t1 hb2 (i := b + 2 * l + 1) (by omega)
  obtain ⟨fo, hmo, -⟩ := yTy_obj h.ty (rfl : tTy 119 = some (.inr (12, _)))
  have hmo1 : (M.set 120 (.inl (4000, upd f (b + 2 * l) w)))[119]? = some (.inr (12, fo)) := by rw [List.getElem?_set_ne (by decide)]; exact hmo
  have hmo2 : ((M.set 120 (.inl (4000, upd f (b + 2 * l) w))).set 120 (.inl (4000, upd g (b + 2 * l + 1) v)))[119]? = some (.inr (12, fo)) := by rw [List.getElem?_set_ne (by decide)]; exact hmo1
  have f22 := fld_fs hmo e5
  have f23 := fld_fs hmo b1
  have hl1 : (lx + 1).toInt = ((l + 1 : Nat) : Int) := i32_p e6 c1 (by omega) (by omega)
  obtain ⟨kl, t3, t4, t5⟩ := fset_ok (k := 22) (z := 0) (lo := 0) (hi := 96) (x := lx + 1) t2 hmo2 rfl (by omega)
  have o1 : 0 ≤ (bx + 2 * lx).toInt ∧ (bx + 2 * lx).toInt < (4000 : Nat) := by rw [x1]; omega
  have o2 : 0 ≤ (bx + 2 * lx + 1).toInt ∧ (bx + 2 * lx + 1).toInt < (4000 : Nat) := by rw [x2]; omega
  have main : mEv none 0 (311, 0, lv_args 0 [.ref 128, .int w, .int v], []) M (fun r M' => r = none ∧ M' = (((M.set 120 (.inl (4000, upd f (b + 2 * l) w))).set 120 (.inl (4000, upd g (b + 2 * l + 1) v))).set 119 (.inr (12, fo.set 22 (.int (lx + 1)))))) := by
    refine e_then (e_al1 hT (y := 311) (pc := 0) (q := (yX12_step, cX12_step, 3, none, 12)) rfl (show aTab 311 0 = some (.aload_n 0, 1, 0, 0, 0, 0, 0, 0) from rfl) rfl rfl) ?_
    refine e_then (e_getR hT (y := 311) (pc := 1) (q := (yX12_step, cX12_step, 3, none, 12)) rfl (show aTab 311 1 = some (.getfield 7, 3, 0, 12, 0, 0, 0, 0) from rfl) rfl (by decide) (by decide) h.ty rfl rfl) ?_
    refine e_then (e_al1 hT (y := 311) (pc := 4) (q := (yX12_step, cX12_step, 3, none, 12)) rfl (show aTab 311 4 = some (.aload_n 0, 1, 0, 0, 0, 0, 0, 0) from rfl) rfl rfl) ?_
    refine e_then (e_getf hT (y := 311) (pc := 5) (q := (yX12_step, cX12_step, 3, none, 12)) rfl (show aTab 311 5 = some (.getfield 276, 3, 0, 12, 23, 0, 0, 0) from rfl) rfl (by decide) (by decide) hmo f23) ?_
    refine e_then (e_st hT (y := 311) (pc := 8) (q := (yX12_step, cX12_step, 3, none, 12)) rfl (show aTab 311 8 = some (.iconst 2, 1, 0, 0, 0, 0, 0, 0) from rfl) (fr' := (311, 9, (lv_args 0 [.ref 128, .int w, .int v]), [.int 2, .int bx, .ref 129])) (M' := M) rfl) ?_
    refine e_then (e_al1 hT (y := 311) (pc := 9) (q := (yX12_step, cX12_step, 3, none, 12)) rfl (show aTab 311 9 = some (.aload_n 0, 1, 0, 0, 0, 0, 0, 0) from rfl) rfl rfl) ?_
    refine e_then (e_getf hT (y := 311) (pc := 10) (q := (yX12_step, cX12_step, 3, none, 12)) rfl (show aTab 311 10 = some (.getfield 279, 3, 0, 12, 22, 0, 0, 0) from rfl) rfl (by decide) (by decide) hmo f22) ?_
    refine e_then (e_st hT (y := 311) (pc := 13) (q := (yX12_step, cX12_step, 3, none, 12)) rfl (show aTab 311 13 = some (.imul, 1, 0, 0, 0, 0, 0, 0) from rfl) (fr' := (311, 14, (lv_args 0 [.ref 128, .int w, .int v]), [.int (2 * lx), .int bx, .ref 129])) (M' := M) rfl) ?_
    refine e_then (e_st hT (y := 311) (pc := 14) (q := (yX12_step, cX12_step, 3, none, 12)) rfl (show aTab 311 14 = some (.iadd, 1, 0, 0, 0, 0, 0, 0) from rfl) (fr' := (311, 15, (lv_args 0 [.ref 128, .int w, .int v]), [.int (bx + (2 * lx)), .ref 129])) (M' := M) rfl) ?_
    refine e_then (e_il1 hT (y := 311) (pc := 15) (q := (yX12_step, cX12_step, 3, none, 12)) rfl (show aTab 311 15 = some (.iload_n 1, 1, 0, 0, 0, 0, 0, 0) from rfl) rfl rfl) ?_
    refine e_then (e_ast hT (y := 311) (pc := 16) (q := (yX12_step, cX12_step, 3, none, 12)) rfl (show aTab 311 16 = some (.iastore, 1, 0, 0, 0, 0, 0, 0) from rfl) ⟨rfl, by omega⟩ hs o1) ?_
    rw [x1']
    refine e_then (e_al1 hT (y := 311) (pc := 17) (q := (yX12_step, cX12_step, 3, none, 12)) rfl (show aTab 311 17 = some (.aload_n 0, 1, 0, 0, 0, 0, 0, 0) from rfl) rfl rfl) ?_
    refine e_then (e_getR hT (y := 311) (pc := 18) (q := (yX12_step, cX12_step, 3, none, 12)) rfl (show aTab 311 18 = some (.getfield 7, 3, 0, 12, 0, 0, 0, 0) from rfl) rfl (by decide) (by decide) t1 rfl rfl) ?_
    refine e_then (e_al1 hT (y := 311) (pc := 21) (q := (yX12_step, cX12_step, 3, none, 12)) rfl (show aTab 311 21 = some (.aload_n 0, 1, 0, 0, 0, 0, 0, 0) from rfl) rfl rfl) ?_
    refine e_then (e_getf hT (y := 311) (pc := 22) (q := (yX12_step, cX12_step, 3, none, 12)) rfl (show aTab 311 22 = some (.getfield 276, 3, 0, 12, 23, 0, 0, 0) from rfl) rfl (by decide) (by decide) hmo1 f23) ?_
    refine e_then (e_st hT (y := 311) (pc := 25) (q := (yX12_step, cX12_step, 3, none, 12)) rfl (show aTab 311 25 = some (.iconst 2, 1, 0, 0, 0, 0, 0, 0) from rfl) (fr' := (311, 26, (lv_args 0 [.ref 128, .int w, .int v]), [.int 2, .int bx, .ref 129])) (M' := (M.set 120 (.inl (4000, upd f (b + 2 * l) w)))) rfl) ?_
    refine e_then (e_al1 hT (y := 311) (pc := 26) (q := (yX12_step, cX12_step, 3, none, 12)) rfl (show aTab 311 26 = some (.aload_n 0, 1, 0, 0, 0, 0, 0, 0) from rfl) rfl rfl) ?_
    refine e_then (e_getf hT (y := 311) (pc := 27) (q := (yX12_step, cX12_step, 3, none, 12)) rfl (show aTab 311 27 = some (.getfield 279, 3, 0, 12, 22, 0, 0, 0) from rfl) rfl (by decide) (by decide) hmo1 f22) ?_
    refine e_then (e_st hT (y := 311) (pc := 30) (q := (yX12_step, cX12_step, 3, none, 12)) rfl (show aTab 311 30 = some (.imul, 1, 0, 0, 0, 0, 0, 0) from rfl) (fr' := (311, 31, (lv_args 0 [.ref 128, .int w, .int v]), [.int (2 * lx), .int bx, .ref 129])) (M' := (M.set 120 (.inl (4000, upd f (b + 2 * l) w)))) rfl) ?_
    refine e_then (e_st hT (y := 311) (pc := 31) (q := (yX12_step, cX12_step, 3, none, 12)) rfl (show aTab 311 31 = some (.iadd, 1, 0, 0, 0, 0, 0, 0) from rfl) (fr' := (311, 32, (lv_args 0 [.ref 128, .int w, .int v]), [.int (bx + (2 * lx)), .ref 129])) (M' := (M.set 120 (.inl (4000, upd f (b + 2 * l) w)))) rfl) ?_
    refine e_then (e_st hT (y := 311) (pc := 32) (q := (yX12_step, cX12_step, 3, none, 12)) rfl (show aTab 311 32 = some (.iconst 1, 1, 0, 0, 0, 0, 0, 0) from rfl) (fr' := (311, 33, (lv_args 0 [.ref 128, .int w, .int v]), [.int 1, .int (bx + (2 * lx)), .ref 129])) (M' := (M.set 120 (.inl (4000, upd f (b + 2 * l) w)))) rfl) ?_
    refine e_then (e_st hT (y := 311) (pc := 33) (q := (yX12_step, cX12_step, 3, none, 12)) rfl (show aTab 311 33 = some (.iadd, 1, 0, 0, 0, 0, 0, 0) from rfl) (fr' := (311, 34, (lv_args 0 [.ref 128, .int w, .int v]), [.int ((bx + (2 * lx)) + 1), .ref 129])) (M' := (M.set 120 (.inl (4000, upd f (b + 2 * l) w)))) rfl) ?_
    refine e_then (e_il1 hT (y := 311) (pc := 34) (q := (yX12_step, cX12_step, 3, none, 12)) rfl (show aTab 311 34 = some (.iload_n 2, 1, 0, 0, 0, 0, 0, 0) from rfl) rfl rfl) ?_
    refine e_then (e_ast hT (y := 311) (pc := 35) (q := (yX12_step, cX12_step, 3, none, 12)) rfl (show aTab 311 35 = some (.iastore, 1, 0, 0, 0, 0, 0, 0) from rfl) ⟨rfl, by omega⟩ hs2 o2) ?_
    rw [x2']
    refine e_then (e_al1 hT (y := 311) (pc := 36) (q := (yX12_step, cX12_step, 3, none, 12)) rfl (show aTab 311 36 = some (.aload_n 0, 1, 0, 0, 0, 0, 0, 0) from rfl) rfl rfl) ?_
    refine e_then (e_st hT (y := 311) (pc := 37) (q := (yX12_step, cX12_step, 3, none, 12)) rfl (show aTab 311 37 = some (.dup, 1, 0, 0, 0, 0, 0, 0) from rfl) (fr' := (311, 38, (lv_args 0 [.ref 128, .int w, .int v]), [.ref 128, .ref 128])) (M' := ((M.set 120 (.inl (4000, upd f (b + 2 * l) w))).set 120 (.inl (4000, upd g (b + 2 * l + 1) v)))) rfl) ?_
    refine e_then (e_getf hT (y := 311) (pc := 38) (q := (yX12_step, cX12_step, 3, none, 12)) rfl (show aTab 311 38 = some (.getfield 279, 3, 0, 12, 22, 0, 0, 0) from rfl) rfl (by decide) (by decide) hmo2 f22) ?_
    refine e_then (e_st hT (y := 311) (pc := 41) (q := (yX12_step, cX12_step, 3, none, 12)) rfl (show aTab 311 41 = some (.iconst 1, 1, 0, 0, 0, 0, 0, 0) from rfl) (fr' := (311, 42, (lv_args 0 [.ref 128, .int w, .int v]), [.int 1, .int lx, .ref 128])) (M' := ((M.set 120 (.inl (4000, upd f (b + 2 * l) w))).set 120 (.inl (4000, upd g (b + 2 * l + 1) v)))) rfl) ?_
    refine e_then (e_st hT (y := 311) (pc := 42) (q := (yX12_step, cX12_step, 3, none, 12)) rfl (show aTab 311 42 = some (.iadd, 1, 0, 0, 0, 0, 0, 0) from rfl) (fr' := (311, 43, (lv_args 0 [.ref 128, .int w, .int v]), [.int (lx + 1), .ref 128])) (M' := ((M.set 120 (.inl (4000, upd f (b + 2 * l) w))).set 120 (.inl (4000, upd g (b + 2 * l + 1) v)))) rfl) ?_
    refine e_then (e_putf hT (y := 311) (pc := 43) (q := (yX12_step, cX12_step, 3, none, 12)) rfl (show aTab 311 43 = some (.putfield 279, 3, 0, 12, 22, 0, 0, 0) from rfl) rfl rfl ⟨by decide, rfl, rfl⟩ (by decide) hmo2 kl) ?_
    exact e_fin (e_vret hT (y := 311) (pc := 46) (q := (yX12_step, cX12_step, 3, none, 12)) rfl (show aTab 311 46 = some (.return_, 1, 0, 0, 0, 0, 0, 0) from rfl) ⟨rfl, rfl⟩) ⟨rfl, rfl⟩
  obtain ⟨N, r, M', h1, rfl, rfl⟩ := main
  have r2 : ∀ c i, ¬ (c = 120 ∧ (i = b + 2 * l ∨ i = b + 2 * l + 1)) → ¬ (c = 119 ∧ i = 22) → yRd x00 (((M.set 120 (.inl (4000, upd f (b + 2 * l) w))).set 120 (.inl (4000, upd g (b + 2 * l + 1) v))).set 119 (.inr (12, fo.set 22 (.int (lx + 1))))) c i = yRd x00 M c i := fun c i n1 n2 => by
    rw [t5 c i n2, yRd_upd hs2 (fun z => n1 ⟨z.1, Or.inr z.2⟩), yRd_upd hs (fun z => n1 ⟨z.1, Or.inl z.2⟩)]
  have hw : yRd x00 (((M.set 120 (.inl (4000, upd f (b + 2 * l) w))).set 120 (.inl (4000, upd g (b + 2 * l + 1) v))).set 119 (.inr (12, fo.set 22 (.int (lx + 1))))) 120 (b + 2 * l) = some (.int w) := by
    rw [t5 _ _ (fun z => by cases z.1), yRd_upd hs2 (fun z => by have := z.2; omega), yRd_arr _ (by decide) (List.getElem?_set_self (List.getElem?_eq_some_iff.mp hs).1) i1, upd_same]
  have hv : yRd x00 (((M.set 120 (.inl (4000, upd f (b + 2 * l) w))).set 120 (.inl (4000, upd g (b + 2 * l + 1) v))).set 119 (.inr (12, fo.set 22 (.int (lx + 1))))) 120 (b + 2 * l + 1) = some (.int v) := by
    rw [t5 _ _ (fun z => by cases z.1), yRd_arr _ (by decide) (List.getElem?_set_self (List.getElem?_eq_some_iff.mp hs2).1) i2, upd_same]
  have hf : ∀ {k x}, k ≠ 22 → fld M k x → fld (((M.set 120 (.inl (4000, upd f (b + 2 * l) w))).set 120 (.inl (4000, upd g (b + 2 * l + 1) v))).set 119 (.inr (12, fo.set 22 (.int (lx + 1))))) k x := fun {k x} hk hf => by
    unfold fld
    rw [r2 119 k (fun z => by cases z.1) (fun z => hk z.2)]
    exact hf
  have hfr : yFr (pW b) M (((M.set 120 (.inl (4000, upd f (b + 2 * l) w))).set 120 (.inl (4000, upd g (b + 2 * l + 1) v))).set 119 (.inr (12, fo.set 22 (.int (lx + 1))))) := by
    refine yFr_tr (yFr_set (k := b + 2 * l) (x := w) hs ⟨_, List.mem_cons_self, rfl, by show (b : Int) ≤ _; omega, by show _ ≤ (b : Int) + 191; omega, by show _ % (1 : Int) = 0; omega⟩) (yFr_tr (yFr_set (k := b + 2 * l + 1) (x := v) hs2 ⟨_, List.mem_cons_self, rfl, by show (b : Int) ≤ _; omega, by show _ ≤ (b : Int) + 191; omega, by show _ % (1 : Int) = 0; omega⟩) (fun xs c i hn => ?_))
    by_cases hc : c = 119
    · subst hc
      have hi : i ≠ 22 := fun z => hn (119, 15, 22, 1, 0) (by unfold pW; simp) ⟨rfl, by rw [z]; decide, by rw [z]; decide, by rw [z]; decide⟩
      rw [yRd_obj _ (by decide) (List.getElem?_set_self (List.getElem?_eq_some_iff.mp hmo2).1), yRd_obj _ (by decide) hmo2, List.getElem?_set_ne (fun z => hi z.symm)]
    · exact yRd_ne hc
  obtain ⟨dx, d1, d2⟩ := h.dx
  obtain ⟨tx, u1, u2⟩ := h.tx
  refine ⟨N, _, h1, ⟨t3, yFr_tr h.fr hfr, ⟨l + 1, lx + 1, bg, bh, tp, tk, hf (by decide) e1, hf (by decide) e2, hf (by decide) e3, hf (by decide) e4, t4, hl1, e7, e8, by omega, rp_step e10 (fun i hi => r2 120 i (fun z => by have := z.2; omega) (fun z => by cases z.1)) hw hv hst⟩, ⟨bx, hf (by decide) b1, b2⟩, ⟨dx, hf (by decide) d1, d2⟩, ⟨tx, hf (by decide) u1, u2⟩⟩, fun tk h => hf (by decide) h⟩
