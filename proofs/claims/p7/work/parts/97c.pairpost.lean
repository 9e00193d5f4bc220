/-! HAND: what run does to who is in, at one member's number -/
def gF (p : tP) (v : aV) (lf : tLf_) : Bool := match tFind lf.2.1 p with
  | some w => aSame w v
  | none => false
theorem gF_ok {xs : tXs} {E : List Int} {lf : tLf_} {M : mHe} {p : tP} {v : aV} {k : Nat} (h : gF p v lf = true) (hH : yH xs E lf.2.1 M) (hk : yIx E p = some (k : Int)) : ∃ w, yRd xs M p.1 k = some w ∧ yV E v w := by
  unfold gF at h
  split at h
  · next w hw =>
    obtain ⟨k', k1, w', k2, k3⟩ := hH.2 _ (tFind_mem hw)
    have : k' = k := by
      have h1 : some (k' : Int) = some (k : Int) := k1.symm.trans hk
      exact Int.ofNat.inj (Option.some.inj h1)
    subst this
    rw [aSame_eq h] at k3
    exact ⟨w', k2, k3⟩
  · cases h
theorem gI_ok {xs : tXs} {E : List Int} {lf : tLf_} {M : mHe} {p : tP} {i k : Nat} {x : Int32} (h : gF p (4, i, 0, 0) lf = true) (hH : yH xs E lf.2.1 M) (hk : yIx E p = some (k : Int)) (he : E[i]? = some x.toInt) (hc : p.1 < 144) : ∀ ys : tXs, yRd ys M p.1 k = some (.int x) := fun ys => by
  obtain ⟨w, w1, w2⟩ := gF_ok h hH hk
  obtain ⟨y, rfl, -, e, e1, e2⟩ := yV_int rfl w2
  rw [he] at e1
  cases e1
  have : y = x := i32eq (by omega)
  rw [← this]
  exact (rd_any hc).trans w1
theorem yIx_1 {E : List Int} {c i j : Nat} (h : E[i]? = some (j : Int)) : yIx E (c, i, 0, 1) = some (j : Int) := by
  show (if (1 : Nat) = 0 then some (0 : Int) else (E[i]?).map (fun e => e * Int.ofNat 1 + 0)) = _
  rw [if_neg (by omega), h]
  simp
theorem yIx_5 {E : List Int} {c i j o : Nat} (h : E[i]? = some (j : Int)) : yIx E (c, i, Int.ofNat o, 5) = some ((j * 5 + o : Nat) : Int) := by
  show (if (5 : Nat) = 0 then some (Int.ofNat o) else (E[i]?).map (fun e => e * Int.ofNat 5 + Int.ofNat o)) = _
  rw [if_neg (by omega), h]
  simp
/-- numbers for a run -/
theorem go_E {E : List Int} {bs : List (Int × Int)} {ds : List (Nat × Nat × Int)} (hl : E.length = bs.length) (h : ∀ (i : Nat) (e l u : Int), E[i]? = some e → bs[i]? = some (l, u) → (-2147483648 ≤ e ∧ e ≤ 2147483647) ∧ l ≤ e ∧ e ≤ u) (hd : ∀ t ∈ ds, ∃ e1 e2 : Int, E[t.1]? = some e1 ∧ E[t.2.1]? = some e2 ∧ e1 - e2 ≤ t.2.2) : xE E (bs, ds) := by
  have h0 : xE E (bs, []) := xE_of_list hl (fun i l u e hb he => ⟨(h i e l u he hb).2, (h i e l u he hb).1⟩)
  exact ⟨h0.1, h0.2.1, h0.2.2.1, hd⟩
def fu : Int × Int := (-2147483648, 2147483647)
/-! HAND: pairs -/
def kpK (y : Nat) (l : List Nat) : tKt := (fun y' pc => bif Nat.beq y' y && l.any (fun p => Nat.beq p pc) then some (.inr none) else none, [])
def lRe (v : aV) (lf : tLf_) : Bool := match lf.1 with
  | .inr (some w) => aSame w v
  | _ => false
theorem lRe_ok {xs : tXs} {sc : Option (Nat × (Nat → Int32))} {d : Nat} {E : List Int} {Ws : List (List tG)} {fr : mFr} {M : mHe} {lf : tLf_} {v : aV} (h : lRe v lf = true) (he : tEnd1 xs sc d E Ws fr M lf) : ∃ X N w M', xE (E ++ X) lf.2.2 ∧ mRun sc N d fr M = some (some w, M') ∧ yV (E ++ X) v w ∧ yH xs (E ++ X) lf.2.1 M' ∧ ∀ W ∈ Ws, yFr W M M' := by
  obtain ⟨X, h0, he⟩ := he
  obtain ⟨l1, l2, l3⟩ := lf
  unfold lRe at h
  simp only at h he h0
  split at h
  · next w =>
    simp only at he
    rw [aSame_eq h] at he
    obtain ⟨N, r', M', m1, m2, m3, m4⟩ := he
    cases r' with
    | none => exact m2.elim
    | some w => exact ⟨X, N, w, M', h0, m1, m2, m3, m4⟩
  · cases h
/-- not the same number -/
def tNev (cs : aC) (a b : aV) : Bool := tImp cs a b (-1) || tImp cs b a (-1)
theorem tNev_ok {E : List Int} {cs : aC} {a b : aV} {m n : Int} (hE : xE E cs) (ha : yN E a m) (hb : yN E b n) (h : tNev cs a b = true) : m ≠ n := by
  unfold tNev at h
  rw [Bool.or_eq_true] at h
  rcases h with h | h
  · have := tImp_ok hE ha hb h
    omega
  · have := tImp_ok hE hb ha h
    omega
def tEqv (cs : aC) (a b : aV) : Bool := tImp cs a b 0 && tImp cs b a 0
theorem tEqv_ok {E : List Int} {cs : aC} {a b : aV} {m n : Int} (hE : xE E cs) (ha : yN E a m) (hb : yN E b n) (h : tEqv cs a b = true) : m = n := by
  unfold tEqv at h
  rw [Bool.and_eq_true] at h
  have h1 := tImp_ok hE ha hb h.1
  have h2 := tImp_ok hE hb ha h.2
  omega
theorem yIx_c {E : List Int} {c k : Nat} : yIx E (c, 0, Int.ofNat k, 0) = some (k : Int) := rfl
theorem yAt {E X : List Int} {i : Nat} {e : Int} (h : E[i]? = some e) : yN (E ++ X) (4, i, 0, 0) e := ⟨e, get_app h, by omega⟩
theorem yK {E : List Int} {c : Int} : yN E (kI c) c := ⟨Int.le_refl _, Int.le_refl _⟩
/-! pairOf here. Numbers: s, minute, how many, k, one, other, till -/
def xpH : tF := [((2, 0, 6, 0), (4, 2, 0, 0)), ((8, 3, 0, 1), (4, 4, 0, 0)), ((9, 3, 0, 1), (4, 5, 0, 0)), ((10, 3, 0, 1), (4, 6, 0, 0))]
def xpBs : List (Int × Int) := [fu, fu, (0, 10), (0, 9), fu, fu, fu]
def xpHit (cs : aC) : Bool := tImp cs (4, 1, 0, 0) (4, 6, 0, 0) (-1) && (tEqv cs (4, 4, 0, 0) (4, 0, 0, 0) || tEqv cs (4, 5, 0, 0) (4, 0, 0, 0))
def xpMis (cs : aC) : Bool := tImp cs (4, 6, 0, 0) (4, 1, 0, 0) 0 || (tNev cs (4, 4, 0, 0) (4, 0, 0, 0) && tNev cs (4, 5, 0, 0) (4, 0, 0, 0))
def xpT : Bool := tCk (kpK 55 [2]) 4000 90 [[]] (55, 3, [(0, kR 11), (1, (4, 0, 0, 0)), (2, (4, 1, 0, 0)), (3, (4, 3, 0, 0))], [(4, 3, 0, 0)]) xpH (xpBs, [(3, 2, -1)]) (fun lf => (lAt 55 2 [] [(0, kR 11), (1, (4, 0, 0, 0)), (2, (4, 1, 0, 0)), (3, (4, 3, 1, 0))] lf && xpMis lf.2.2) || (lRe (4, 3, 0, 0) lf && xpHit lf.2.2))
def xpX : Bool := tCk (kpK 55 [2]) 4000 90 [[]] (55, 3, [(0, kR 11), (1, (4, 0, 0, 0)), (2, (4, 1, 0, 0)), (3, (4, 2, 0, 0))], [(4, 2, 0, 0)]) [((2, 0, 6, 0), (4, 2, 0, 0))] ([fu, fu, (0, 10)], []) (fun lf => lRe (kI (-1000000005)) lf)
set_option maxRecDepth 100000 in
theorem xpT_ok : xpT = true := by decide +kernel
set_option maxRecDepth 100000 in
theorem xpX_ok : xpX = true := by decide +kernel
def xpQ (s mi p : Int32) (O T C : Nat → Int32) (M : mHe) (r : Option Value) (M' : mHe) : Prop := yTy M' ∧ yFr [] M M' ∧ ∃ x : Int32, r = some (.int x) ∧ ((x.toInt = -1000000005 ∧ ∀ j : Nat, (j : Int) < p.toInt → ¬ pmC mi s (O j) (T j) (C j)) ∨ ((0 ≤ x.toInt ∧ x.toInt ≤ 9) ∧ ∃ j : Nat, (j : Int) < p.toInt ∧ pmC mi s (O j) (T j) (C j)))
theorem xp_loop (hT : aTabOk) {s mi p : Int32} {O T C : Nat → Int32} (hp : 0 ≤ p.toInt ∧ p.toInt ≤ 10) : ∀ (d : Nat) (k : Nat) (kk : Int32) (lv : List (Nat × Value)) (M : mHe), kk.toInt = (k : Int) → (k : Int) + (d : Int) = p.toInt → yTy M → (∀ xs : tXs, yRd xs M 2 6 = some (.int p)) → xpRows M O T C → (∀ j : Nat, j < k → ¬ pmC mi s (O j) (T j) (C j)) → mlg 0 lv = some (.ref 11) → mlg 1 lv = some (.int s) → mlg 2 lv = some (.int mi) → mlg 3 lv = some (.int kk) → mEv none 90 (55, 2, lv, []) M (xpQ s mi p O T C M) := by
  intro d
  induction d with
  | zero =>
    intro k kk lv M hkk hk hM hsz hrow hno l0 l1 l2 l3
    have ek : kk = p := i32eq (by omega)
    subst ek
    refine e_then (e_il1 hT (y := 55) (pc := 2) (q := (yX2_pairOf, cX2_pairOf, 4, (some .int), 2)) rfl (show aTab 55 2 = some (.iload_n 3, 1, 0, 0, 0, 0, 0, 0) from rfl) rfl l3) ?_
    have hE : xE [s.toInt, mi.toInt, kk.toInt] ([fu, fu, (0, 10)], []) := go_E rfl (fun i e l u he hb => by
      match i, he, hb with
      | 0, he, hb => cases he; cases hb; exact ⟨⟨i32_lo _, i32_hi _⟩, i32_lo _, i32_hi _⟩
      | 1, he, hb => cases he; cases hb; exact ⟨⟨i32_lo _, i32_hi _⟩, i32_lo _, i32_hi _⟩
      | 2, he, hb => cases he; cases hb; omega
      | i + 3, he, hb => simp at he) (fun t ht => by cases ht)
    obtain ⟨lf, f1, f2⟩ := tSegC (xs := x00) hT (fun ct hct => by cases hct) xpX_ok hE (clv := lv) (yLv_cons l0 (yV_kR _ _) (yLv_cons l1 (yV_atom rfl) (yLv_cons l2 (yV_atom rfl) (yLv_cons l3 (yV_atom rfl) (yLv_nil _ _))))) (cst := [.int kk]) ⟨yV_atom rfl, trivial⟩ (M := M) ⟨hM, fun q hq => by
      simp only [List.mem_cons, List.not_mem_nil, or_false] at hq
      subst hq
      exact ⟨6, rfl, _, hsz x00, yV_atom rfl⟩⟩
    obtain ⟨X, N, w, M', p1, p2, p3, p4, p5⟩ := lRe_ok f1 f2
    obtain ⟨x, rfl, w3⟩ := yV_int rfl p3
    refine ⟨N, _, M', p2, p4.1, p5 _ (List.mem_singleton_self _), x, rfl, Or.inl ⟨Int.le_antisymm w3.2.2 w3.2.1, fun j hj => hno j (by omega)⟩⟩
  | succ d ih =>
    intro k kk lv M hkk hk hM hsz hrow hno l0 l1 l2 l3
    have h1 : (Int32.ofInt 1).toInt = 1 := rfl
    have k1 : (kk + 1).toInt = ((k + 1 : Nat) : Int) := by
      have : (1 : Int32).toInt = 1 := rfl
      rw [i32_add (by omega) (by omega), this]
      omega
    refine e_then (e_il1 hT (y := 55) (pc := 2) (q := (yX2_pairOf, cX2_pairOf, 4, (some .int), 2)) rfl (show aTab 55 2 = some (.iload_n 3, 1, 0, 0, 0, 0, 0, 0) from rfl) rfl l3) ?_
    obtain ⟨r1, r2, r3⟩ := hrow k (by omega)
    have hE : xE [s.toInt, mi.toInt, p.toInt, (k : Int), (O k).toInt, (T k).toInt, (C k).toInt] (xpBs, [(3, 2, -1)]) := go_E rfl (fun i e l u he hb => by
      match i, he, hb with
      | 0, he, hb => cases he; cases hb; exact ⟨⟨i32_lo _, i32_hi _⟩, i32_lo _, i32_hi _⟩
      | 1, he, hb => cases he; cases hb; exact ⟨⟨i32_lo _, i32_hi _⟩, i32_lo _, i32_hi _⟩
      | 2, he, hb => cases he; cases hb; omega
      | 3, he, hb => cases he; cases hb; omega
      | 4, he, hb => cases he; cases hb; exact ⟨⟨i32_lo _, i32_hi _⟩, i32_lo _, i32_hi _⟩
      | 5, he, hb => cases he; cases hb; exact ⟨⟨i32_lo _, i32_hi _⟩, i32_lo _, i32_hi _⟩
      | 6, he, hb => cases he; cases hb; exact ⟨⟨i32_lo _, i32_hi _⟩, i32_lo _, i32_hi _⟩
      | i + 7, he, hb => simp at he) (fun t ht => by
        rw [List.mem_singleton.mp ht]
        exact ⟨_, _, rfl, rfl, by show (k : Int) - p.toInt ≤ -1; omega⟩)
    have kv : yV [s.toInt, mi.toInt, p.toInt, (k : Int), (O k).toInt, (T k).toInt, (C k).toInt] (4, 3, 0, 0) (.int kk) := ⟨rfl, _, rfl, by omega⟩
    obtain ⟨lf, f1, f2⟩ := tSegC (xs := x00) hT (fun ct hct => by cases hct) xpT_ok hE (clv := lv) (yLv_cons l0 (yV_kR _ _) (yLv_cons l1 (yV_atom rfl) (yLv_cons l2 (yV_atom rfl) (yLv_cons l3 kv (yLv_nil _ _))))) (cst := [.int kk]) ⟨kv, trivial⟩ (M := M) ⟨hM, fun q hq => by
      simp only [xpH, List.mem_cons, List.not_mem_nil, or_false] at hq
      rcases hq with rfl | rfl | rfl | rfl
      · exact ⟨6, rfl, _, hsz x00, yV_atom rfl⟩
      · exact ⟨k, yIx_1 rfl, _, r1 x00, yV_atom rfl⟩
      · exact ⟨k, yIx_1 rfl, _, r2 x00, yV_atom rfl⟩
      · exact ⟨k, yIx_1 rfl, _, r3 x00, yV_atom rfl⟩⟩
    rw [Bool.or_eq_true, Bool.and_eq_true, Bool.and_eq_true] at f1
    rcases f1 with ⟨f1, f3⟩ | ⟨f1, f3⟩
    · obtain ⟨X, lv', st', M1, m1, m2, m3, m4, m5, m6, m7⟩ := lAt_ok f1 f2
      have hst := yS_nil m3
      subst hst
      obtain ⟨s', g1, e1⟩ := loc_i (k := 1) (i := 0) (a := 0) (e := s.toInt) m4 (by simp) rfl
      obtain ⟨mi', g2, e2⟩ := loc_i (k := 2) (i := 1) (a := 0) (e := mi.toInt) m4 (by simp) rfl
      obtain ⟨k', g3, e3⟩ := loc_i (k := 3) (i := 3) (a := 1) (e := (k : Int)) m4 (by simp) rfl
      have hs' : s' = s := i32eq (by omega)
      have hmi' : mi' = mi := i32eq (by omega)
      subst hs'; subst hmi'
      have hf := m7 _ (List.mem_singleton_self _)
      have hnk : ¬ pmC mi' s' (O k) (T k) (C k) := by
        unfold xpMis at f3
        rw [Bool.or_eq_true, Bool.and_eq_true] at f3
        rintro ⟨q1, q2⟩
        rcases f3 with f3 | ⟨f3, f4⟩
        · have := tImp_ok m1 (yAt (i := 6) rfl) (yAt (i := 1) rfl) f3
          omega
        · have n1 := tNev_ok m1 (yAt (i := 4) rfl) (yAt (i := 0) rfl) f3
          have n2 := tNev_ok m1 (yAt (i := 5) rfl) (yAt (i := 0) rfl) f4
          rcases q2 with q2 | q2
          · exact n1 (by rw [q2])
          · exact n2 (by rw [q2])
      obtain ⟨N, r, M2, w1, w2, w3, w4⟩ := ih (k + 1) k' lv' M1 (by omega) (by omega) m6.1 (fun xs => (yFr_nil hf 2 6).trans (hsz xs)) (fun j hj => ⟨fun xs => (yFr_nil hf 8 j).trans ((hrow j hj).1 xs), fun xs => (yFr_nil hf 9 j).trans ((hrow j hj).2.1 xs), fun xs => (yFr_nil hf 10 j).trans ((hrow j hj).2.2 xs)⟩) (fun j hj => by
        by_cases ej : j = k
        · subst ej; exact hnk
        · exact hno j (by omega)) (loc_r m4 (by simp)) g1 g2 g3
      exact e_then m2 ⟨N, r, M2, w1, w2, yFr_tr hf w3, w4⟩
    · obtain ⟨X, N, w, M', p1, p2, p3, p4, p5⟩ := lRe_ok f1 f2
      obtain ⟨x, rfl, -, e, w3, w4⟩ := yV_int rfl p3
      have w3 : some (k : Int) = some e := w3
      cases w3
      refine ⟨N, _, M', p2, p4.1, p5 _ (List.mem_singleton_self _), x, rfl, Or.inr ⟨by omega, k, by omega, ?_⟩⟩
      unfold xpHit at f3
      rw [Bool.and_eq_true, Bool.or_eq_true] at f3
      have q1 := tImp_ok p1 (yAt (i := 1) rfl) (yAt (i := 6) rfl) f3.1
      refine ⟨by omega, ?_⟩
      rcases f3.2 with f4 | f4
      · exact Or.inl (i32eq (tEqv_ok p1 (yAt (i := 4) rfl) (yAt (i := 0) rfl) f4))
      · exact Or.inr (i32eq (tEqv_ok p1 (yAt (i := 5) rfl) (yAt (i := 0) rfl) f4))
theorem xp_run (hT : aTabOk) {s mi p : Int32} {O T C : Nat → Int32} (hp : 0 ≤ p.toInt ∧ p.toInt ≤ 10) {M : mHe} (hM : yTy M) (hsz : ∀ xs : tXs, yRd xs M 2 6 = some (.int p)) (hrow : xpRows M O T C) : mEv none 90 (55, 0, lv_args 0 [.ref 11, .int s, .int mi], []) M (xpQ s mi p O T C M) := by
  have h0 : (0 : Int32).toInt = 0 := rfl
  refine e_then (e_st hT (y := 55) (pc := 0) (q := (yX2_pairOf, cX2_pairOf, 4, (some .int), 2)) rfl (show aTab 55 0 = some (.iconst 0, 1, 0, 0, 0, 0, 0, 0) from rfl) (fr' := (55, 1, (lv_args 0 [.ref 11, .int s, .int mi]), [.int 0])) (M' := M) rfl) ?_
  refine e_then (e_is1 hT (y := 55) (pc := 1) (q := (yX2_pairOf, cX2_pairOf, 4, (some .int), 2)) rfl (show aTab 55 1 = some (.istore_n 3, 1, 0, 0, 0, 0, 0, 0) from rfl) ⟨rfl, by decide⟩) ?_
  exact xp_loop hT hp p.toInt.toNat 0 0 _ M rfl (by omega) hM hsz hrow (fun j hj => by omega) (mlg_r rfl (by decide)) (mlg_i rfl (by decide)) (mlg_i rfl (by decide)) (mlg_eq 3 _ _)
/-! pairOf there. Numbers: s, how many, k, found, one, other, till, broken, minute -/
theorem yIx_4 {E : List Int} {c i j o : Nat} (h : E[i]? = some (j : Int)) : yIx E (c, i, Int.ofNat o, 4) = some ((j * 4 + o : Nat) : Int) := by
  show (if (4 : Nat) = 0 then some (Int.ofNat o) else (E[i]?).map (fun e => e * Int.ofNat 4 + Int.ofNat o)) = _
  rw [if_neg (by omega), h]
  simp
def rpH : tF := [((120, 0, 0, 0), (4, 8, 0, 0)), ((120, 0, 4, 0), (4, 1, 0, 0)), ((120, 2, 120, 4), (4, 4, 0, 0)), ((120, 2, 121, 4), (4, 5, 0, 0)), ((120, 2, 122, 4), (4, 6, 0, 0)), ((120, 2, 123, 4), (4, 7, 0, 0))]
def rpBs : List (Int × Int) := [fu, (0, 10), (0, 9), (-1, 9), fu, fu, fu, fu, fu]
def rpHit (cs : aC) : Bool := tImp cs (4, 8, 0, 0) (4, 6, 0, 0) (-1) && (tEqv cs (4, 7, 0, 0) (kI 0) && (tEqv cs (4, 4, 0, 0) (4, 0, 0, 0) || tEqv cs (4, 5, 0, 0) (4, 0, 0, 0)))
def rpMis (cs : aC) : Bool := tNev cs (4, 7, 0, 0) (kI 0) || tImp cs (4, 6, 0, 0) (4, 8, 0, 0) 0 || (tNev cs (4, 4, 0, 0) (4, 0, 0, 0) && tNev cs (4, 5, 0, 0) (4, 0, 0, 0))
def rpL (k f : aV) : List (Nat × aV) := [(0, kR 128), (1, (4, 0, 0, 0)), (2, f), (3, k)]
def rpT : Bool := tCk (kpK 259 [4]) 4000 90 [[]] (259, 5, rpL (4, 2, 0, 0) (4, 3, 0, 0), [(4, 2, 0, 0)]) rpH (rpBs, [(2, 1, -1)]) (fun lf => (lAt 259 4 [] (rpL (4, 2, 1, 0) (4, 3, 0, 0)) lf && rpMis lf.2.2) || (lAt 259 4 [] (rpL (4, 2, 1, 0) (4, 2, 0, 0)) lf && rpHit lf.2.2))
def rpX : Bool := tCk (kpK 259 [4]) 4000 90 [[]] (259, 5, rpL (4, 1, 0, 0) (4, 2, 0, 0), [(4, 1, 0, 0)]) [((120, 0, 4, 0), (4, 1, 0, 0))] ([fu, (0, 10), (-1, 9)], []) (fun lf => lRe (4, 2, 0, 0) lf)
set_option maxRecDepth 100000 in
theorem rpT_ok : rpT = true := by decide +kernel
set_option maxRecDepth 100000 in
theorem rpX_ok : rpX = true := by decide +kernel
def rpQ (s mi p : Int32) (O T R B : Nat → Int32) (M : mHe) (r : Option Value) (M' : mHe) : Prop := yTy M' ∧ yFr [] M M' ∧ ∃ x : Int32, r = some (.int x) ∧ ((x.toInt = -1 ∧ ∀ j : Nat, (j : Int) < p.toInt → ¬ pmR mi s (O j) (T j) (R j) (B j)) ∨ ((0 ≤ x.toInt ∧ x.toInt ≤ 9) ∧ ∃ j : Nat, (j : Int) < p.toInt ∧ pmR mi s (O j) (T j) (R j) (B j)))
theorem rp_loop (hT : aTabOk) {s mi p : Int32} {O T R B : Nat → Int32} (hp : 0 ≤ p.toInt ∧ p.toInt ≤ 10) : ∀ (d : Nat) (k : Nat) (kk ff : Int32) (lv : List (Nat × Value)) (M : mHe), kk.toInt = (k : Int) → (k : Int) + (d : Int) = p.toInt → yTy M → (∀ xs : tXs, yRd xs M 120 0 = some (.int mi)) → (∀ xs : tXs, yRd xs M 120 4 = some (.int p)) → rpRows M O T R B → ((ff.toInt = -1 ∧ ∀ j : Nat, j < k → ¬ pmR mi s (O j) (T j) (R j) (B j)) ∨ ((0 ≤ ff.toInt ∧ ff.toInt ≤ 9) ∧ ∃ j : Nat, j < k ∧ pmR mi s (O j) (T j) (R j) (B j))) → mlg 0 lv = some (.ref 128) → mlg 1 lv = some (.int s) → mlg 2 lv = some (.int ff) → mlg 3 lv = some (.int kk) → mEv none 90 (259, 4, lv, []) M (rpQ s mi p O T R B M) := by
  intro d
  induction d with
  | zero =>
    intro k kk ff lv M hkk hk hM hmi hsz hrow hno l0 l1 l2 l3
    have ek : kk = p := i32eq (by omega)
    subst ek
    have hff : -1 ≤ ff.toInt ∧ ff.toInt ≤ 9 := by rcases hno with h | h <;> omega
    refine e_then (e_il1 hT (y := 259) (pc := 4) (q := (yX12_pairOf, cX12_pairOf, 5, (some .int), 12)) rfl (show aTab 259 4 = some (.iload_n 3, 1, 0, 0, 0, 0, 0, 0) from rfl) rfl l3) ?_
    have hE : xE [s.toInt, kk.toInt, ff.toInt] ([fu, (0, 10), (-1, 9)], []) := go_E rfl (fun i e l u he hb => by
      match i, he, hb with
      | 0, he, hb => cases he; cases hb; exact ⟨⟨i32_lo _, i32_hi _⟩, i32_lo _, i32_hi _⟩
      | 1, he, hb => cases he; cases hb; omega
      | 2, he, hb => cases he; cases hb; omega
      | i + 3, he, hb => simp at he) (fun t ht => by cases ht)
    obtain ⟨lf, f1, f2⟩ := tSegC (xs := x00) hT (fun ct hct => by cases hct) rpX_ok hE (clv := lv) (yLv_cons l0 (yV_kR _ _) (yLv_cons l1 (yV_atom rfl) (yLv_cons l2 (yV_atom rfl) (yLv_cons l3 (yV_atom rfl) (yLv_nil _ _))))) (cst := [.int kk]) ⟨yV_atom rfl, trivial⟩ (M := M) ⟨hM, fun q hq => by
      simp only [List.mem_cons, List.not_mem_nil, or_false] at hq
      subst hq
      exact ⟨4, rfl, _, hsz x00, yV_atom rfl⟩⟩
    obtain ⟨X, N, w, M', p1, p2, p3, p4, p5⟩ := lRe_ok f1 f2
    obtain ⟨x, rfl, -, e, w3, w4⟩ := yV_int rfl p3
    have w3 : some ff.toInt = some e := w3
    cases w3
    have ex : x = ff := i32eq (by omega)
    subst ex
    refine ⟨N, _, M', p2, p4.1, p5 _ (List.mem_singleton_self _), x, rfl, ?_⟩
    rcases hno with ⟨h1, h2⟩ | ⟨h1, j, h2, h3⟩
    · exact Or.inl ⟨h1, fun j hj => h2 j (by omega)⟩
    · exact Or.inr ⟨h1, j, by omega, h3⟩
  | succ d ih =>
    intro k kk ff lv M hkk hk hM hmi hsz hrow hno l0 l1 l2 l3
    have hff : -1 ≤ ff.toInt ∧ ff.toInt ≤ 9 := by rcases hno with h | h <;> omega
    refine e_then (e_il1 hT (y := 259) (pc := 4) (q := (yX12_pairOf, cX12_pairOf, 5, (some .int), 12)) rfl (show aTab 259 4 = some (.iload_n 3, 1, 0, 0, 0, 0, 0, 0) from rfl) rfl l3) ?_
    obtain ⟨r1, r2, r3, r4⟩ := hrow k (by omega)
    have hE : xE [s.toInt, p.toInt, (k : Int), ff.toInt, (O k).toInt, (T k).toInt, (R k).toInt, (B k).toInt, mi.toInt] (rpBs, [(2, 1, -1)]) := go_E rfl (fun i e l u he hb => by
      match i, he, hb with
      | 0, he, hb => cases he; cases hb; exact ⟨⟨i32_lo _, i32_hi _⟩, i32_lo _, i32_hi _⟩
      | 1, he, hb => cases he; cases hb; omega
      | 2, he, hb => cases he; cases hb; omega
      | 3, he, hb => cases he; cases hb; omega
      | 4, he, hb => cases he; cases hb; exact ⟨⟨i32_lo _, i32_hi _⟩, i32_lo _, i32_hi _⟩
      | 5, he, hb => cases he; cases hb; exact ⟨⟨i32_lo _, i32_hi _⟩, i32_lo _, i32_hi _⟩
      | 6, he, hb => cases he; cases hb; exact ⟨⟨i32_lo _, i32_hi _⟩, i32_lo _, i32_hi _⟩
      | 7, he, hb => cases he; cases hb; exact ⟨⟨i32_lo _, i32_hi _⟩, i32_lo _, i32_hi _⟩
      | 8, he, hb => cases he; cases hb; exact ⟨⟨i32_lo _, i32_hi _⟩, i32_lo _, i32_hi _⟩
      | i + 9, he, hb => simp at he) (fun t ht => by
        rw [List.mem_singleton.mp ht]
        exact ⟨_, _, rfl, rfl, by show (k : Int) - p.toInt ≤ -1; omega⟩)
    have kv : yV [s.toInt, p.toInt, (k : Int), ff.toInt, (O k).toInt, (T k).toInt, (R k).toInt, (B k).toInt, mi.toInt] (4, 2, 0, 0) (.int kk) := ⟨rfl, _, rfl, by omega⟩
    obtain ⟨lf, f1, f2⟩ := tSegC (xs := x00) hT (fun ct hct => by cases hct) rpT_ok hE (clv := lv) (yLv_cons l0 (yV_kR _ _) (yLv_cons l1 (yV_atom rfl) (yLv_cons l2 (yV_atom rfl) (yLv_cons l3 kv (yLv_nil _ _))))) (cst := [.int kk]) ⟨kv, trivial⟩ (M := M) ⟨hM, fun q hq => by
      simp only [rpH, List.mem_cons, List.not_mem_nil, or_false] at hq
      rcases hq with rfl | rfl | rfl | rfl | rfl | rfl
      · exact ⟨0, rfl, _, hmi x00, yV_atom rfl⟩
      · exact ⟨4, rfl, _, hsz x00, yV_atom rfl⟩
      · exact ⟨_, yIx_4 (o := 120) rfl, _, r1 x00, yV_atom rfl⟩
      · exact ⟨_, yIx_4 (o := 121) rfl, _, r2 x00, yV_atom rfl⟩
      · exact ⟨_, yIx_4 (o := 122) rfl, _, r3 x00, yV_atom rfl⟩
      · exact ⟨_, yIx_4 (o := 123) rfl, _, r4 x00, yV_atom rfl⟩⟩
    have turn : ∀ (f : aV) (ff2 : Int32), lAt 259 4 [] (rpL (4, 2, 1, 0) f) lf = true → (∀ X : List Int, ∀ v, yV ([s.toInt, p.toInt, (k : Int), ff.toInt, (O k).toInt, (T k).toInt, (R k).toInt, (B k).toInt, mi.toInt] ++ X) f v → v = .int ff2) → (∀ X : List Int, xE ([s.toInt, p.toInt, (k : Int), ff.toInt, (O k).toInt, (T k).toInt, (R k).toInt, (B k).toInt, mi.toInt] ++ X) lf.2.2 → ((ff2.toInt = -1 ∧ ∀ j : Nat, j < k + 1 → ¬ pmR mi s (O j) (T j) (R j) (B j)) ∨ ((0 ≤ ff2.toInt ∧ ff2.toInt ≤ 9) ∧ ∃ j : Nat, j < k + 1 ∧ pmR mi s (O j) (T j) (R j) (B j)))) → mEv none 90 (259, 5, lv, [.int kk]) M (rpQ s mi p O T R B M) := by
      intro f ff2 h1 h2 h3
      obtain ⟨X, lv', st', M1, m1, m2, m3, m4, m5, m6, m7⟩ := lAt_ok h1 f2
      have hst := yS_nil m3
      subst hst
      obtain ⟨s', g1, e1⟩ := loc_i (k := 1) (i := 0) (a := 0) (e := s.toInt) m4 (by simp [rpL]) rfl
      obtain ⟨k', g3, e3⟩ := loc_i (k := 3) (i := 2) (a := 1) (e := (k : Int)) m4 (by simp [rpL]) rfl
      obtain ⟨v, g2, e2⟩ := m4 (2, f) (by simp [rpL])
      have := h2 X v e2
      subst this
      have hs' : s' = s := i32eq (by omega)
      subst hs'
      have hf := m7 _ (List.mem_singleton_self _)
      obtain ⟨N, r, M2, w1, w2, w3, w4⟩ := ih (k + 1) k' ff2 lv' M1 (by omega) (by omega) m6.1 (fun xs => (yFr_nil hf 120 0).trans (hmi xs)) (fun xs => (yFr_nil hf 120 4).trans (hsz xs)) (fun j hj => ⟨fun xs => (yFr_nil hf 120 _).trans ((hrow j hj).1 xs), fun xs => (yFr_nil hf 120 _).trans ((hrow j hj).2.1 xs), fun xs => (yFr_nil hf 120 _).trans ((hrow j hj).2.2.1 xs), fun xs => (yFr_nil hf 120 _).trans ((hrow j hj).2.2.2 xs)⟩) (h3 X m1) (loc_r m4 (by simp [rpL])) g1 g2 g3
      exact e_then m2 ⟨N, r, M2, w1, w2, yFr_tr hf w3, w4⟩
    rw [Bool.or_eq_true, Bool.and_eq_true, Bool.and_eq_true] at f1
    rcases f1 with ⟨f1, f3⟩ | ⟨f1, f3⟩
    · refine turn _ ff f1 (fun X v hv => ?_) (fun X hX => ?_)
      · obtain ⟨x, rfl, -, e, w3, w4⟩ := yV_int rfl hv
        have w3 : some ff.toInt = some e := w3
        cases w3
        have : x = ff := i32eq (by omega)
        rw [this]
      · have hnk : ¬ pmR mi s (O k) (T k) (R k) (B k) := by
          unfold rpMis at f3
          rw [Bool.or_eq_true, Bool.or_eq_true, Bool.and_eq_true] at f3
          rintro ⟨q0, q1, q2⟩
          rcases f3 with (f3 | f3) | ⟨f3, f4⟩
          · exact tNev_ok hX (yAt (i := 7) rfl) yK f3 q0
          · have := tImp_ok hX (yAt (i := 6) rfl) (yAt (i := 8) rfl) f3
            omega
          · have n1 := tNev_ok hX (yAt (i := 4) rfl) (yAt (i := 0) rfl) f3
            have n2 := tNev_ok hX (yAt (i := 5) rfl) (yAt (i := 0) rfl) f4
            rcases q2 with q2 | q2
            · exact n1 (by rw [q2])
            · exact n2 (by rw [q2])
        rcases hno with ⟨h1, h2⟩ | ⟨h1, j, h2, h3⟩
        · refine Or.inl ⟨h1, fun j hj => ?_⟩
          by_cases ej : j = k
          · subst ej; exact hnk
          · exact h2 j (by omega)
        · exact Or.inr ⟨h1, j, by omega, h3⟩
    · refine turn _ kk f1 (fun X v hv => ?_) (fun X hX => ?_)
      · obtain ⟨x, rfl, -, e, w3, w4⟩ := yV_int rfl hv
        have w3 : some (k : Int) = some e := w3
        cases w3
        have : x = kk := i32eq (by omega)
        rw [this]
      · unfold rpHit at f3
        rw [Bool.and_eq_true, Bool.and_eq_true, Bool.or_eq_true] at f3
        have q1 := tImp_ok hX (yAt (i := 8) rfl) (yAt (i := 6) rfl) f3.1
        have q2 := tEqv_ok hX (yAt (i := 7) rfl) yK f3.2.1
        refine Or.inr ⟨by omega, k, by omega, q2, by omega, ?_⟩
        rcases f3.2.2 with f4 | f4
        · exact Or.inl (i32eq (tEqv_ok hX (yAt (i := 4) rfl) (yAt (i := 0) rfl) f4))
        · exact Or.inr (i32eq (tEqv_ok hX (yAt (i := 5) rfl) (yAt (i := 0) rfl) f4))
theorem rp_run (hT : aTabOk) {s mi p : Int32} {O T R B : Nat → Int32} (hp : 0 ≤ p.toInt ∧ p.toInt ≤ 10) {M : mHe} (hM : yTy M) (hmi : ∀ xs : tXs, yRd xs M 120 0 = some (.int mi)) (hsz : ∀ xs : tXs, yRd xs M 120 4 = some (.int p)) (hrow : rpRows M O T R B) : mEv none 90 (259, 0, lv_args 0 [.ref 128, .int s], []) M (rpQ s mi p O T R B M) := by
  have h0 : (0 : Int32).toInt = 0 := rfl
  have h1 : (-1 : Int32).toInt = -1 := rfl
  refine e_then (e_st hT (y := 259) (pc := 0) (q := (yX12_pairOf, cX12_pairOf, 5, (some .int), 12)) rfl (show aTab 259 0 = some (.iconst (-1), 1, 0, 0, 0, 0, 0, 0) from rfl) (fr' := (259, 1, (lv_args 0 [.ref 128, .int s]), [.int (-1)])) (M' := M) rfl) ?_
  refine e_then (e_is1 hT (y := 259) (pc := 1) (q := (yX12_pairOf, cX12_pairOf, 5, (some .int), 12)) rfl (show aTab 259 1 = some (.istore_n 2, 1, 0, 0, 0, 0, 0, 0) from rfl) ⟨rfl, by decide⟩) ?_
  refine e_then (e_st hT (y := 259) (pc := 2) (q := (yX12_pairOf, cX12_pairOf, 5, (some .int), 12)) rfl (show aTab 259 2 = some (.iconst 0, 1, 0, 0, 0, 0, 0, 0) from rfl) (fr' := (259, 3, (mlp 2 (.int (-1)) (lv_args 0 [.ref 128, .int s])), [.int 0])) (M' := M) rfl) ?_
  refine e_then (e_is1 hT (y := 259) (pc := 3) (q := (yX12_pairOf, cX12_pairOf, 5, (some .int), 12)) rfl (show aTab 259 3 = some (.istore_n 3, 1, 0, 0, 0, 0, 0, 0) from rfl) ⟨rfl, by decide⟩) ?_
  exact rp_loop hT hp p.toInt.toNat 0 0 (-1) _ M rfl (by omega) hM hmi hsz hrow (Or.inl ⟨h1, fun j hj => by omega⟩) (mlg_r (mlg_r rfl (by decide)) (by decide)) (mlg_i (mlg_i rfl (by decide)) (by decide)) (mlg_i (mlg_eq 2 _ _) (by decide)) (mlg_eq 3 _ _)
/-! pair here. Numbers: one, other, till, minute, members -/
def adBs : List (Int × Int) := [fu, fu, fu, (0, 9999), (0, 20)]
def adOk (cs : aC) : Bool := tImp cs (kI 0) (4, 0, 0, 0) 0 && (tImp cs (4, 0, 0, 0) (4, 4, 0, 0) (-1) && (tImp cs (kI 0) (4, 1, 0, 0) 0 && (tImp cs (4, 1, 0, 0) (4, 4, 0, 0) (-1) && (tNev cs (4, 0, 0, 0) (4, 1, 0, 0) && (tImp cs (4, 3, 0, 0) (4, 2, 0, 0) (-1) && tImp cs (4, 2, 0, 0) (kI 9999) 0)))))
def adBad (cs : aC) : Bool := tImp cs (4, 0, 0, 0) (kI (-1)) 0 || (tImp cs (4, 4, 0, 0) (4, 0, 0, 0) 0 || (tImp cs (4, 1, 0, 0) (kI (-1)) 0 || (tImp cs (4, 4, 0, 0) (4, 1, 0, 0) 0 || (tEqv cs (4, 0, 0, 0) (4, 1, 0, 0) || (tImp cs (4, 2, 0, 0) (4, 3, 0, 0) 0 || tImp cs (kI 10000) (4, 2, 0, 0) 0)))))
theorem adOk_ok {E X : List Int} {cs : aC} {one other till mi z : Int32} (hX : xE (E ++ X) cs) (e0 : E[0]? = some one.toInt) (e1 : E[1]? = some other.toInt) (e2 : E[2]? = some till.toInt) (e3 : E[3]? = some mi.toInt) (e4 : E[4]? = some z.toInt) (h : adOk cs = true) : prOkP z mi one other till := by
  unfold adOk at h
  simp only [Bool.and_eq_true] at h
  obtain ⟨h1, h2, h3, h4, h5, h6, h7⟩ := h
  have g1 := tImp_ok hX yK (yAt e0) h1
  have g2 := tImp_ok hX (yAt e0) (yAt e4) h2
  have g3 := tImp_ok hX yK (yAt e1) h3
  have g4 := tImp_ok hX (yAt e1) (yAt e4) h4
  have g5 := tNev_ok hX (yAt e0) (yAt e1) h5
  have g6 := tImp_ok hX (yAt e3) (yAt e2) h6
  have g7 := tImp_ok hX (yAt e2) yK h7
  exact ⟨⟨by omega, by omega⟩, ⟨by omega, by omega⟩, (fun z => g5 (by rw [z])), by omega, by omega⟩
theorem adBad_ok {E X : List Int} {cs : aC} {one other till mi z : Int32} (hX : xE (E ++ X) cs) (e0 : E[0]? = some one.toInt) (e1 : E[1]? = some other.toInt) (e2 : E[2]? = some till.toInt) (e3 : E[3]? = some mi.toInt) (e4 : E[4]? = some z.toInt) (h : adBad cs = true) : ¬ prOkP z mi one other till := by
  unfold adBad at h
  simp only [Bool.or_eq_true] at h
  rintro ⟨⟨o1, o2⟩, ⟨o3, o4⟩, o5, o6, o7⟩
  rcases h with h | h | h | h | h | h | h
  · have := tImp_ok hX (yAt e0) yK h; omega
  · have := tImp_ok hX (yAt e4) (yAt e0) h; omega
  · have := tImp_ok hX (yAt e1) yK h; omega
  · have := tImp_ok hX (yAt e4) (yAt e1) h; omega
  · exact o5 (i32eq (tEqv_ok hX (yAt e0) (yAt e1) h))
  · have := tImp_ok hX (yAt e2) (yAt e3) h; omega
  · have := tImp_ok hX yK (yAt e2) h; omega
def adL : List (Nat × aV) := [(0, kR 11), (1, (4, 0, 0, 0)), (2, (4, 1, 0, 0)), (3, (4, 2, 0, 0)), (4, (4, 3, 0, 0))]
def adT : Bool := tCk (kpK 56 [38]) 4000 95 [[]] (56, 0, adL, []) [((2, 0, 0, 0), (4, 4, 0, 0))] (adBs, []) (fun lf => (lAt 56 38 [] adL lf && adOk lf.2.2) || (lRe (kI (-1000000001)) lf && adBad lf.2.2))
set_option maxRecDepth 100000 in
theorem adT_ok : adT = true := by decide +kernel
/-- from where nobody is in a pair. Numbers: one, other, till, how many, a number, its row -/
def ad3L : List (Nat × aV) := [(0, kR 11), (1, (4, 0, 0, 0)), (2, (4, 1, 0, 0)), (3, (4, 2, 0, 0))]
def ad3G (j : Nat) (a b c : aV) (lf : tLf_) : Bool := gF (8, j, 0, 1) a lf && (gF (9, j, 0, 1) b lf && gF (10, j, 0, 1) c lf)
def ad3 (j : Nat) (ds : List (Nat × Nat × Int)) (a b c : aV) : Bool := tCk (fun _ _ => none, []) 4000 95 [ad3W] (56, 65, ad3L, []) [((2, 0, 6, 0), (4, 3, 0, 0)), ((8, j, 0, 1), (4, 5, 0, 0)), ((9, j, 0, 1), (4, 6, 0, 0)), ((10, j, 0, 1), (4, 7, 0, 0))] ([fu, fu, fu, (0, 10), (0, 9), fu, fu, fu], ds) (fun lf => (lRe (kI (-1000000003)) lf && (tImp lf.2.2 (kI 10) (4, 3, 0, 0) 0 && (gF (2, 0, 6, 0) (4, 3, 0, 0) lf && ad3G j (4, 5, 0, 0) (4, 6, 0, 0) (4, 7, 0, 0) lf))) || (lRe (4, 3, 0, 0) lf && (tImp lf.2.2 (4, 3, 0, 0) (kI 9) 0 && (gF (2, 0, 6, 0) (4, 3, 1, 0) lf && ad3G j a b c lf))))
set_option maxRecDepth 100000 in
theorem ad3_lo : ad3 4 [(4, 3, -1)] (4, 5, 0, 0) (4, 6, 0, 0) (4, 7, 0, 0) = true := by decide +kernel
set_option maxRecDepth 100000 in
theorem ad3_hi : ad3 4 [(3, 4, -1)] (4, 5, 0, 0) (4, 6, 0, 0) (4, 7, 0, 0) = true := by decide +kernel
set_option maxRecDepth 100000 in
theorem ad3_at : ad3 3 [] (4, 0, 0, 0) (4, 1, 0, 0) (4, 2, 0, 0) = true := by decide +kernel
def adR1 (O T C : Nat → Int32) (j : Nat) (M : mHe) : Prop := (∀ xs : tXs, yRd xs M 8 j = some (.int (O j))) ∧ (∀ xs : tXs, yRd xs M 9 j = some (.int (T j))) ∧ (∀ xs : tXs, yRd xs M 10 j = some (.int (C j)))
def adJ (one other till p r : Int32) (O T C : Nat → Int32) (P : (Nat → Int32) → (Nat → Int32) → (Nat → Int32) → Prop) (M' : mHe) : Prop := (10 ≤ p.toInt ∧ r.toInt = -1000000003 ∧ (∀ xs : tXs, yRd xs M' 2 6 = some (.int p)) ∧ P O T C) ∨ (p.toInt < 10 ∧ r = p ∧ (∀ xs : tXs, yRd xs M' 2 6 = some (.int (p + 1))) ∧ P (rUpd O p one) (rUpd T p other) (rUpd C p till))
theorem ad3_j (hT : aTabOk) {one other till p : Int32} {O T C : Nat → Int32} {j : Nat} (hj : j < 10) (hp : 0 ≤ p.toInt ∧ p.toInt ≤ 10) {lv : List (Nat × Value)} {M : mHe} (hM : yTy M) (hsz : ∀ xs : tXs, yRd xs M 2 6 = some (.int p)) (hrow : xpRows M O T C) (l0 : mlg 0 lv = some (.ref 11)) (l1 : mlg 1 lv = some (.int one)) (l2 : mlg 2 lv = some (.int other)) (l3 : mlg 3 lv = some (.int till)) : ∃ N r M', mRun none N 95 (56, 65, lv, []) M = some (some (.int r), M') ∧ yTy M' ∧ yFr ad3W M M' ∧ adJ one other till p r O T C (fun O T C => adR1 O T C j M') M' := by
  obtain ⟨r1, r2, r3⟩ := hrow j hj
  have h1 : (1 : Int32).toInt = 1 := rfl
  have bd : ∀ (ds : List (Nat × Nat × Int)), (∀ t' ∈ ds, ∃ e1 e2 : Int, ([one.toInt, other.toInt, till.toInt, p.toInt, (j : Int), (O j).toInt, (T j).toInt, (C j).toInt] : List Int)[t'.1]? = some e1 ∧ ([one.toInt, other.toInt, till.toInt, p.toInt, (j : Int), (O j).toInt, (T j).toInt, (C j).toInt] : List Int)[t'.2.1]? = some e2 ∧ e1 - e2 ≤ t'.2.2) → xE [one.toInt, other.toInt, till.toInt, p.toInt, (j : Int), (O j).toInt, (T j).toInt, (C j).toInt] ([fu, fu, fu, (0, 10), (0, 9), fu, fu, fu], ds) := fun ds hds => go_E rfl (fun i e l u he hb => by
    match i, he, hb with
    | 0, he, hb => cases he; cases hb; exact ⟨⟨i32_lo _, i32_hi _⟩, i32_lo _, i32_hi _⟩
    | 1, he, hb => cases he; cases hb; exact ⟨⟨i32_lo _, i32_hi _⟩, i32_lo _, i32_hi _⟩
    | 2, he, hb => cases he; cases hb; exact ⟨⟨i32_lo _, i32_hi _⟩, i32_lo _, i32_hi _⟩
    | 3, he, hb => cases he; cases hb; omega
    | 4, he, hb => cases he; cases hb; omega
    | 5, he, hb => cases he; cases hb; exact ⟨⟨i32_lo _, i32_hi _⟩, i32_lo _, i32_hi _⟩
    | 6, he, hb => cases he; cases hb; exact ⟨⟨i32_lo _, i32_hi _⟩, i32_lo _, i32_hi _⟩
    | 7, he, hb => cases he; cases hb; exact ⟨⟨i32_lo _, i32_hi _⟩, i32_lo _, i32_hi _⟩
    | i + 8, he, hb => simp at he) hds
  have go : ∀ (i : Nat) (ds : List (Nat × Nat × Int)) (a b c : aV) (va vb vc : Int32), ad3 i ds a b c = true → ([one.toInt, other.toInt, till.toInt, p.toInt, (j : Int), (O j).toInt, (T j).toInt, (C j).toInt] : List Int)[i]? = some (j : Int) → (∀ t' ∈ ds, ∃ e1 e2 : Int, ([one.toInt, other.toInt, till.toInt, p.toInt, (j : Int), (O j).toInt, (T j).toInt, (C j).toInt] : List Int)[t'.1]? = some e1 ∧ ([one.toInt, other.toInt, till.toInt, p.toInt, (j : Int), (O j).toInt, (T j).toInt, (C j).toInt] : List Int)[t'.2.1]? = some e2 ∧ e1 - e2 ≤ t'.2.2) → (∃ i1 i2 i3 : Nat, a = (4, i1, 0, 0) ∧ b = (4, i2, 0, 0) ∧ c = (4, i3, 0, 0) ∧ ([one.toInt, other.toInt, till.toInt, p.toInt, (j : Int), (O j).toInt, (T j).toInt, (C j).toInt] : List Int)[i1]? = some va.toInt ∧ ([one.toInt, other.toInt, till.toInt, p.toInt, (j : Int), (O j).toInt, (T j).toInt, (C j).toInt] : List Int)[i2]? = some vb.toInt ∧ ([one.toInt, other.toInt, till.toInt, p.toInt, (j : Int), (O j).toInt, (T j).toInt, (C j).toInt] : List Int)[i3]? = some vc.toInt) → (rUpd O p one j = va ∧ rUpd T p other j = vb ∧ rUpd C p till j = vc) → ∃ N r M', mRun none N 95 (56, 65, lv, []) M = some (some (.int r), M') ∧ yTy M' ∧ yFr ad3W M M' ∧ adJ one other till p r O T C (fun O T C => adR1 O T C j M') M' := by
    intro i ds a b c va vb vc hr hi hds hab hup
    obtain ⟨i1, i2, i3, rfl, rfl, rfl, q1, q2, q3⟩ := hab
    obtain ⟨lf, f1, f2⟩ := tSegC (xs := x00) hT (fun ct hct => by cases hct) hr (bd ds hds) (clv := lv) (yLv_cons l0 (yV_kR _ _) (yLv_cons l1 (yV_atom rfl) (yLv_cons l2 (yV_atom rfl) (yLv_cons l3 (yV_atom rfl) (yLv_nil _ _))))) (cst := []) (show yS _ [] [] from trivial) (M := M) ⟨hM, fun q hq => by
      simp only [List.mem_cons, List.not_mem_nil, or_false] at hq
      rcases hq with rfl | rfl | rfl | rfl
      · exact ⟨6, rfl, _, hsz x00, yV_atom rfl⟩
      · exact ⟨j, yIx_1 hi, _, r1 x00, yV_atom rfl⟩
      · exact ⟨j, yIx_1 hi, _, r2 x00, yV_atom rfl⟩
      · exact ⟨j, yIx_1 hi, _, r3 x00, yV_atom rfl⟩⟩
    unfold ad3G at f1
    simp only [Bool.or_eq_true, Bool.and_eq_true] at f1
    rcases f1 with ⟨g1, g2, g3, g4, g5, g6⟩ | ⟨g1, g2, g3, g4, g5, g6⟩
    · obtain ⟨X, N, w, M', p1, p2, p3, p4, p5⟩ := lRe_ok g1 f2
      obtain ⟨x, rfl, w3⟩ := yV_int rfl p3
      have k1 := tImp_ok p1 yK (yAt (i := 3) rfl) g2
      exact ⟨N, x, M', p2, p4.1, p5 _ (List.mem_singleton_self _), Or.inl ⟨by omega, Int.le_antisymm w3.2.2 w3.2.1, gI_ok (x := p) (k := 6) g3 p4 (yIx_app yIx_c) rfl (by decide), gI_ok (x := O j) g4 p4 (yIx_app (yIx_1 hi)) rfl (show (8 : Nat) < 144 by decide), gI_ok (x := T j) g5 p4 (yIx_app (yIx_1 hi)) rfl (show (9 : Nat) < 144 by decide), gI_ok (x := C j) g6 p4 (yIx_app (yIx_1 hi)) rfl (show (10 : Nat) < 144 by decide)⟩⟩
    · obtain ⟨X, N, w, M', p1, p2, p3, p4, p5⟩ := lRe_ok g1 f2
      obtain ⟨x, rfl, -, e, w3, w4⟩ := yV_int rfl p3
      have w3 : some p.toInt = some e := w3
      cases w3
      have ex : x = p := i32eq (by omega)
      have k1 := tImp_ok p1 (yAt (i := 3) rfl) yK g2
      refine ⟨N, x, M', p2, p4.1, p5 _ (List.mem_singleton_self _), Or.inr ⟨by omega, ex, fun xs => ?_, ?_⟩⟩
      · obtain ⟨w, w1, w2⟩ := gF_ok (k := 6) g3 p4 (yIx_app yIx_c)
        obtain ⟨y, rfl, -, e, e1, e2⟩ := yV_int rfl w2
        have e1 : some p.toInt = some e := e1
        cases e1
        have : y = p + 1 := i32eq (by rw [i32_add (by omega) (by omega), h1]; omega)
        rw [← this]
        exact (rd_any (by decide)).trans w1
      · refine ⟨?_, ?_, ?_⟩
        · rw [hup.1]; exact gI_ok g4 p4 (yIx_app (yIx_1 hi)) (get_app q1) (show (8 : Nat) < 144 by decide)
        · rw [hup.2.1]; exact gI_ok g5 p4 (yIx_app (yIx_1 hi)) (get_app q2) (show (9 : Nat) < 144 by decide)
        · rw [hup.2.2]; exact gI_ok g6 p4 (yIx_app (yIx_1 hi)) (get_app q3) (show (10 : Nat) < 144 by decide)
  by_cases c1 : (j : Int) < p.toInt
  · refine go 4 _ _ _ _ (O j) (T j) (C j) ad3_lo rfl (fun t' ht' => ?_) ⟨5, 6, 7, rfl, rfl, rfl, rfl, rfl, rfl⟩ ⟨if_neg (by omega), if_neg (by omega), if_neg (by omega)⟩
    rw [List.mem_singleton.mp ht']
    exact ⟨_, _, rfl, rfl, by show (j : Int) - p.toInt ≤ -1; omega⟩
  by_cases c2 : p.toInt < (j : Int)
  · refine go 4 _ _ _ _ (O j) (T j) (C j) ad3_hi rfl (fun t' ht' => ?_) ⟨5, 6, 7, rfl, rfl, rfl, rfl, rfl, rfl⟩ ⟨if_neg (by omega), if_neg (by omega), if_neg (by omega)⟩
    rw [List.mem_singleton.mp ht']
    exact ⟨_, _, rfl, rfl, by show p.toInt - (j : Int) ≤ -1; omega⟩
  · have ej : p.toInt = (j : Int) := by omega
    exact go 3 _ _ _ _ one other till ad3_at (congrArg some ej) (fun t' ht' => by cases ht') ⟨0, 1, 2, rfl, rfl, rfl, rfl, rfl, rfl⟩ ⟨if_pos ej.symm, if_pos ej.symm, if_pos ej.symm⟩
theorem ad3_run (hT : aTabOk) {one other till p : Int32} {O T C : Nat → Int32} (hp : 0 ≤ p.toInt ∧ p.toInt ≤ 10) {lv : List (Nat × Value)} {M : mHe} (hM : yTy M) (hsz : ∀ xs : tXs, yRd xs M 2 6 = some (.int p)) (hrow : xpRows M O T C) (l0 : mlg 0 lv = some (.ref 11)) (l1 : mlg 1 lv = some (.int one)) (l2 : mlg 2 lv = some (.int other)) (l3 : mlg 3 lv = some (.int till)) : ∃ N r M', mRun none N 95 (56, 65, lv, []) M = some (some (.int r), M') ∧ yTy M' ∧ yFr ad3W M M' ∧ adJ one other till p r O T C (fun O T C => xpRows M' O T C) M' := by
  obtain ⟨N, r, M', m1, m2, m3, m4⟩ := ad3_j hT (show 0 < 10 by decide) hp hM hsz hrow l0 l1 l2 l3
  have all : ∀ j : Nat, j < 10 → adJ one other till p r O T C (fun O T C => adR1 O T C j M') M' := fun j hj => by
    obtain ⟨N2, r2, M2, n1, n2, n3, n4⟩ := ad3_j hT hj hp hM hsz hrow l0 l1 l2 l3
    have hd := mRun_det n1 m1
    cases hd
    exact n4
  refine ⟨N, r, M', m1, m2, m3, ?_⟩
  rcases m4 with ⟨a1, a2, a3, -⟩ | ⟨a1, a2, a3, -⟩
  · refine Or.inl ⟨a1, a2, a3, fun j hj => ?_⟩
    rcases all j hj with ⟨-, -, -, b4⟩ | ⟨b1, -⟩
    · exact b4
    · omega
  · refine Or.inr ⟨a1, a2, a3, fun j hj => ?_⟩
    rcases all j hj with ⟨b1, -⟩ | ⟨-, -, -, b4⟩
    · omega
    · exact b4
theorem xpR_fr {M M' : mHe} {O T C : Nat → Int32} (hf : yFr [] M M') (h : xpRows M O T C) : xpRows M' O T C := fun j hj => ⟨fun xs => (yFr_nil hf 8 j).trans ((h j hj).1 xs), fun xs => (yFr_nil hf 9 j).trans ((h j hj).2.1 xs), fun xs => (yFr_nil hf 10 j).trans ((h j hj).2.2 xs)⟩
theorem yFr_up {W : List tG} {M M' : mHe} (hf : yFr [] M M') : yFr W M M' := fun xs c k _ => yFr_nil hf c k
theorem xpr_run (hT : aTabOk) {one other till mi z p : Int32} {O T C : Nat → Int32} (hmi : 0 ≤ mi.toInt ∧ mi.toInt ≤ 9999) (hz : 0 ≤ z.toInt ∧ z.toInt ≤ 20) (hp : 0 ≤ p.toInt ∧ p.toInt ≤ 10) {M : mHe} (hM : yTy M) (hz0 : ∀ xs : tXs, yRd xs M 2 0 = some (.int z)) (hsz : ∀ xs : tXs, yRd xs M 2 6 = some (.int p)) (hrow : xpRows M O T C) : mEv none 95 (56, 0, lv_args 0 [.ref 11, .int one, .int other, .int till, .int mi], []) M (fun r M' => ∃ x : Int32, r = some (.int x) ∧ xprQ (prOkP z mi one other till) (xE2 mi one other p O T C) one other till p x O T C M M') := by
  have hE : xE [one.toInt, other.toInt, till.toInt, mi.toInt, z.toInt] (adBs, []) := go_E rfl (fun i e l u he hb => by
    match i, he, hb with
    | 0, he, hb => cases he; cases hb; exact ⟨⟨i32_lo _, i32_hi _⟩, i32_lo _, i32_hi _⟩
    | 1, he, hb => cases he; cases hb; exact ⟨⟨i32_lo _, i32_hi _⟩, i32_lo _, i32_hi _⟩
    | 2, he, hb => cases he; cases hb; exact ⟨⟨i32_lo _, i32_hi _⟩, i32_lo _, i32_hi _⟩
    | 3, he, hb => cases he; cases hb; omega
    | 4, he, hb => cases he; cases hb; omega
    | i + 5, he, hb => simp at he) (fun t ht => by cases ht)
  obtain ⟨lf, f1, f2⟩ := tSegC (xs := x00) hT (fun ct hct => by cases hct) adT_ok hE (clv := lv_args 0 [.ref 11, .int one, .int other, .int till, .int mi]) (yLv_cons rfl (yV_kR _ _) (yLv_cons rfl (yV_atom rfl) (yLv_cons rfl (yV_atom rfl) (yLv_cons rfl (yV_atom rfl) (yLv_cons rfl (yV_atom rfl) (yLv_nil _ _)))))) (cst := []) (show yS _ [] [] from trivial) (M := M) ⟨hM, fun q hq => by
    rw [List.mem_singleton] at hq
    subst hq
    exact ⟨0, rfl, _, hz0 x00, yV_atom rfl⟩⟩
  rw [Bool.or_eq_true, Bool.and_eq_true, Bool.and_eq_true] at f1
  rcases f1 with ⟨f1, f3⟩ | ⟨f1, f3⟩
  · obtain ⟨X, lv, st', M1, m1, m2, m3, m4, m5, m6, m7⟩ := lAt_ok f1 f2
    have hst := yS_nil m3
    subst hst
    have hok : prOkP z mi one other till := adOk_ok m1 rfl rfl rfl rfl rfl f3
    have hf := m7 _ (List.mem_singleton_self _)
    obtain ⟨one', g1, e1⟩ := loc_i (k := 1) (i := 0) (a := 0) (e := one.toInt) m4 (by simp [adL]) rfl
    obtain ⟨other', g2, e2⟩ := loc_i (k := 2) (i := 1) (a := 0) (e := other.toInt) m4 (by simp [adL]) rfl
    obtain ⟨till', g3, e3⟩ := loc_i (k := 3) (i := 2) (a := 0) (e := till.toInt) m4 (by simp [adL]) rfl
    obtain ⟨mi', g4, e4⟩ := loc_i (k := 4) (i := 3) (a := 0) (e := mi.toInt) m4 (by simp [adL]) rfl
    have h1 : one' = one := i32eq (by omega)
    have h2 : other' = other := i32eq (by omega)
    have h3 : till' = till := i32eq (by omega)
    have h4 : mi' = mi := i32eq (by omega)
    subst h1; subst h2; subst h3; subst h4
    have g0 := loc_r (k := 0) (r := 11) m4 (by simp [adL])
    refine e_then m2 ?_
    have hsz1 : ∀ xs : tXs, yRd xs M1 2 6 = some (.int p) := fun xs => (yFr_nil hf 2 6).trans (hsz xs)
    obtain ⟨N2, r2, M2, n1, n2, n3, x2, rfl, n4⟩ := xp_run hT (s := one') (mi := mi') hp m6.1 hsz1 (xpR_fr hf hrow)
    obtain ⟨fs, hfs, -⟩ := yTy_obj m6.1 (rfl : tTy 2 = some (.inr (2, _)))
    have n1 := mRun_dm n1 (show 90 ≤ 94 by decide)
    have kN : (-1000000005 : Int32).toInt = -1000000005 := rfl
    have kO : (-1000000002 : Int32).toInt = -1000000002 := rfl
    refine e_then (e_al1 hT (y := 56) (pc := 38) (q := (yX2_addPair, cX2_addPair, 5, (some .int), 2)) rfl (show aTab 56 38 = some (.aload_n 0, 1, 0, 0, 0, 0, 0, 0) from rfl) rfl g0) ?_
    refine e_then (e_il1 hT (y := 56) (pc := 39) (q := (yX2_addPair, cX2_addPair, 5, (some .int), 2)) rfl (show aTab 56 39 = some (.iload_n 1, 1, 0, 0, 0, 0, 0, 0) from rfl) rfl g1) ?_
    refine e_then (e_il2 hT (y := 56) (pc := 40) (q := (yX2_addPair, cX2_addPair, 5, (some .int), 2)) rfl (show aTab 56 40 = some (.iload 4, 2, 0, 0, 0, 0, 0, 0) from rfl) rfl g4) ?_
    refine e_then (e_call hT (y := 56) (pc := 42) (q := (yX2_addPair, cX2_addPair, 5, (some .int), 2)) rfl (show aTab 56 42 = some (.invokevirtual 58, 3, 1, 55, 0, 2, 4, 2) from rfl) rfl ⟨by decide, Nat.le_of_ble_eq_true rfl⟩ hfs (Nat.le_of_ble_eq_true rfl) (Nat.le_of_ble_eq_true rfl) ⟨by decide, by decide⟩ n1) ?_
    refine e_then (e_st hT (y := 56) (pc := 45) (q := (yX2_addPair, cX2_addPair, 5, (some .int), 2)) rfl (show aTab 56 45 = some (.ldc 53, 2, 7, 0, (-1000000005), 0, 0, 0) from rfl) (fr' := (56, 47, lv, [.int (-1000000005), .int x2])) (M' := M2) rfl) ?_
    rcases n4 with ⟨n4, n5⟩ | ⟨n4, n5⟩
    · refine e_then (e_icF hT (y := 56) (pc := 47) (q := (yX2_addPair, cX2_addPair, 5, (some .int), 2)) rfl (show aTab 56 47 = some (.if_icmp .ne 15, 3, 0, 0, 0, 0, 0, 0) from rfl) rfl (t := 62) rfl (cdF (by show ¬ ¬ _ = _; omega))) ?_
      have hsz2 : ∀ xs : tXs, yRd xs M2 2 6 = some (.int p) := fun xs => (yFr_nil n3 2 6).trans (hsz1 xs)
      have hrow2 := xpR_fr n3 (xpR_fr hf hrow)
      obtain ⟨N4, r4, M4, o1, o2, o3, x4, rfl, o4⟩ := xp_run hT (s := other') (mi := mi') hp n2 hsz2 hrow2
      obtain ⟨fs2, hfs2, -⟩ := yTy_obj n2 (rfl : tTy 2 = some (.inr (2, _)))
      have o1 := mRun_dm o1 (show 90 ≤ 94 by decide)
      have hf4 : yFr [] M M4 := yFr_tr hf (yFr_tr n3 o3)
      refine e_then (e_al1 hT (y := 56) (pc := 50) (q := (yX2_addPair, cX2_addPair, 5, (some .int), 2)) rfl (show aTab 56 50 = some (.aload_n 0, 1, 0, 0, 0, 0, 0, 0) from rfl) rfl g0) ?_
      refine e_then (e_il1 hT (y := 56) (pc := 51) (q := (yX2_addPair, cX2_addPair, 5, (some .int), 2)) rfl (show aTab 56 51 = some (.iload_n 2, 1, 0, 0, 0, 0, 0, 0) from rfl) rfl g2) ?_
      refine e_then (e_il2 hT (y := 56) (pc := 52) (q := (yX2_addPair, cX2_addPair, 5, (some .int), 2)) rfl (show aTab 56 52 = some (.iload 4, 2, 0, 0, 0, 0, 0, 0) from rfl) rfl g4) ?_
      refine e_then (e_call hT (y := 56) (pc := 54) (q := (yX2_addPair, cX2_addPair, 5, (some .int), 2)) rfl (show aTab 56 54 = some (.invokevirtual 58, 3, 1, 55, 0, 2, 4, 2) from rfl) rfl ⟨by decide, Nat.le_of_ble_eq_true rfl⟩ hfs2 (Nat.le_of_ble_eq_true rfl) (Nat.le_of_ble_eq_true rfl) ⟨by decide, by decide⟩ o1) ?_
      refine e_then (e_st hT (y := 56) (pc := 57) (q := (yX2_addPair, cX2_addPair, 5, (some .int), 2)) rfl (show aTab 56 57 = some (.ldc 53, 2, 7, 0, (-1000000005), 0, 0, 0) from rfl) (fr' := (56, 59, lv, [.int (-1000000005), .int x4])) (M' := M4) rfl) ?_
      rcases o4 with ⟨o4, o5⟩ | ⟨o4, o5⟩
      · refine e_then (e_icT hT (y := 56) (pc := 59) (q := (yX2_addPair, cX2_addPair, 5, (some .int), 2)) rfl (show aTab 56 59 = some (.if_icmp .eq 6, 3, 0, 0, 0, 0, 0, 0) from rfl) rfl (t := 65) rfl (cdT (by show _ = _; omega))) ?_
        obtain ⟨N5, r5, M5, q1, q2, q3, q4⟩ := ad3_run hT hp o2 (fun xs => (yFr_nil o3 2 6).trans (hsz2 xs)) (xpR_fr o3 hrow2) g0 g1 g2 g3
        have hne : ¬ xE2 mi' one' other' p O T C := by
          rintro (⟨j, j1, j2⟩ | ⟨j, j1, j2⟩)
          · exact n5 j j1 j2
          · exact o5 j j1 j2
        refine ⟨N5, _, M5, q1, r5, rfl, q2, yFr_tr (yFr_up hf4) q3, ?_⟩
        rcases q4 with ⟨a1, a2, a3, a4⟩ | ⟨a1, a2, a3, a4⟩
        · exact ⟨Or.inr (Or.inr (Or.inl ⟨hok, hne, a1, a2⟩)), Or.inl ⟨fun h => by have := h.2.2; omega, a3, a4⟩⟩
        · exact ⟨Or.inr (Or.inr (Or.inr ⟨hok, hne, a1, a2⟩)), Or.inr ⟨⟨hok, hne, a1⟩, a3, a4⟩⟩
      · refine e_then (e_icF hT (y := 56) (pc := 59) (q := (yX2_addPair, cX2_addPair, 5, (some .int), 2)) rfl (show aTab 56 59 = some (.if_icmp .eq 6, 3, 0, 0, 0, 0, 0, 0) from rfl) rfl (t := 65) rfl (cdF (by show ¬ _ = _; omega))) ?_
        refine e_then (e_st hT (y := 56) (pc := 62) (q := (yX2_addPair, cX2_addPair, 5, (some .int), 2)) rfl (show aTab 56 62 = some (.ldc 76, 2, 7, 0, (-1000000002), 0, 0, 0) from rfl) (fr' := (56, 64, lv, [.int (-1000000002)])) (M' := M4) rfl) ?_
        have he : xE2 mi' one' other' p O T C := Or.inr o5
        exact e_fin (e_iret hT (y := 56) (pc := 64) (q := (yX2_addPair, cX2_addPair, 5, (some .int), 2)) rfl (show aTab 56 64 = some (.ireturn, 1, 0, 0, 0, 0, 0, 0) from rfl) ⟨rfl, rfl⟩) ⟨_, rfl, o2, yFr_up hf4, Or.inr (Or.inl ⟨hok, he, kO⟩), Or.inl ⟨fun h => h.2.1 he, fun xs => (yFr_nil o3 2 6).trans (hsz2 xs), xpR_fr o3 hrow2⟩⟩
    · refine e_then (e_icT hT (y := 56) (pc := 47) (q := (yX2_addPair, cX2_addPair, 5, (some .int), 2)) rfl (show aTab 56 47 = some (.if_icmp .ne 15, 3, 0, 0, 0, 0, 0, 0) from rfl) rfl (t := 62) rfl (cdT (by show ¬ _ = _; omega))) ?_
      refine e_then (e_st hT (y := 56) (pc := 62) (q := (yX2_addPair, cX2_addPair, 5, (some .int), 2)) rfl (show aTab 56 62 = some (.ldc 76, 2, 7, 0, (-1000000002), 0, 0, 0) from rfl) (fr' := (56, 64, lv, [.int (-1000000002)])) (M' := M2) rfl) ?_
      have he : xE2 mi' one' other' p O T C := Or.inl n5
      exact e_fin (e_iret hT (y := 56) (pc := 64) (q := (yX2_addPair, cX2_addPair, 5, (some .int), 2)) rfl (show aTab 56 64 = some (.ireturn, 1, 0, 0, 0, 0, 0, 0) from rfl) ⟨rfl, rfl⟩) ⟨_, rfl, n2, yFr_up (yFr_tr hf n3), Or.inr (Or.inl ⟨hok, he, kO⟩), Or.inl ⟨fun h => h.2.1 he, fun xs => (yFr_nil n3 2 6).trans (hsz1 xs), xpR_fr n3 (xpR_fr hf hrow)⟩⟩
  · obtain ⟨X, N, w, M', p1, p2, p3, p4, p5⟩ := lRe_ok f1 f2
    obtain ⟨x, rfl, w3⟩ := yV_int rfl p3
    have hbad : ¬ prOkP z mi one other till := adBad_ok p1 rfl rfl rfl rfl rfl f3
    have hf := p5 _ (List.mem_singleton_self _)
    exact ⟨N, _, M', p2, x, rfl, p4.1, yFr_up hf, Or.inl ⟨hbad, Int.le_antisymm w3.2.2 w3.2.1⟩, Or.inl ⟨fun h => hbad h.1, fun xs => (yFr_nil hf 2 6).trans (hsz xs), xpR_fr hf hrow⟩⟩
theorem xpair_run (hT : aTabOk) {one other till mi z p : Int32} {O T C : Nat → Int32} (hmi : 0 ≤ mi.toInt ∧ mi.toInt ≤ 9999) (hz : 0 ≤ z.toInt ∧ z.toInt ≤ 20) (hp : 0 ≤ p.toInt ∧ p.toInt ≤ 10) {M : mHe} (hM : yTy M) (hm : ∀ xs : tXs, yRd xs M 1 0 = some (.int mi)) (hz0 : ∀ xs : tXs, yRd xs M 2 0 = some (.int z)) (hsz : ∀ xs : tXs, yRd xs M 2 6 = some (.int p)) (hrow : xpRows M O T C) : mEv none 96 (187, 0, lv_args 0 [.ref 9, .int one, .int other, .int till], []) M (fun r M' => ∃ x : Int32, r = some (.int x) ∧ xprQ (prOkP z mi one other till) (xE2 mi one other p O T C) one other till p x O T C M M') := by
  obtain ⟨N, r, M', m1, x, rfl, h1⟩ := xpr_run hT hmi hz hp hM hz0 hsz hrow (one := one) (other := other) (till := till)
  obtain ⟨fs, hfs, -⟩ := yTy_obj hM (rfl : tTy 2 = some (.inr (2, _)))
  obtain ⟨fs1, hfs1, -⟩ := yTy_obj hM (rfl : tTy 1 = some (.inr (1, _)))
  have hf1 : fs1[0]? = some (.int mi) := by
    have := hm x00
    rw [yRd_obj _ (by decide) hfs1] at this
    exact this
  refine e_then (e_al1 hT (y := 187) (pc := 0) (q := (yX11_pair, cX11_pair, 4, (some .int), 11)) rfl (show aTab 187 0 = some (.aload_n 0, 1, 0, 0, 0, 0, 0, 0) from rfl) rfl rfl) ?_
  refine e_then (e_getR hT (y := 187) (pc := 1) (q := (yX11_pair, cX11_pair, 4, (some .int), 11)) rfl (show aTab 187 1 = some (.getfield 12, 3, 0, 11, 0, 0, 0, 0) from rfl) rfl (by decide) (by decide) hM rfl rfl) ?_
  refine e_then (e_getR hT (y := 187) (pc := 4) (q := (yX11_pair, cX11_pair, 4, (some .int), 11)) rfl (show aTab 187 4 = some (.getfield 47, 3, 0, 1, 3, 0, 0, 0) from rfl) rfl (by decide) (by decide) hM rfl rfl) ?_
  refine e_then (e_il1 hT (y := 187) (pc := 7) (q := (yX11_pair, cX11_pair, 4, (some .int), 11)) rfl (show aTab 187 7 = some (.iload_n 1, 1, 0, 0, 0, 0, 0, 0) from rfl) rfl rfl) ?_
  refine e_then (e_il1 hT (y := 187) (pc := 8) (q := (yX11_pair, cX11_pair, 4, (some .int), 11)) rfl (show aTab 187 8 = some (.iload_n 2, 1, 0, 0, 0, 0, 0, 0) from rfl) rfl rfl) ?_
  refine e_then (e_il1 hT (y := 187) (pc := 9) (q := (yX11_pair, cX11_pair, 4, (some .int), 11)) rfl (show aTab 187 9 = some (.iload_n 3, 1, 0, 0, 0, 0, 0, 0) from rfl) rfl rfl) ?_
  refine e_then (e_al1 hT (y := 187) (pc := 10) (q := (yX11_pair, cX11_pair, 4, (some .int), 11)) rfl (show aTab 187 10 = some (.aload_n 0, 1, 0, 0, 0, 0, 0, 0) from rfl) rfl rfl) ?_
  refine e_then (e_getR hT (y := 187) (pc := 11) (q := (yX11_pair, cX11_pair, 4, (some .int), 11)) rfl (show aTab 187 11 = some (.getfield 12, 3, 0, 11, 0, 0, 0, 0) from rfl) rfl (by decide) (by decide) hM rfl rfl) ?_
  refine e_then (e_getf hT (y := 187) (pc := 14) (q := (yX11_pair, cX11_pair, 4, (some .int), 11)) rfl (show aTab 187 14 = some (.getfield 57, 3, 0, 1, 0, 0, 0, 0) from rfl) rfl (by decide) (by decide) hfs1 hf1) ?_
  refine e_then (e_call hT (y := 187) (pc := 17) (q := (yX11_pair, cX11_pair, 4, (some .int), 11)) rfl (show aTab 187 17 = some (.invokevirtual 71, 3, 1, 56, 0, 4, 5, 2) from rfl) rfl ⟨by decide, Nat.le_of_ble_eq_true rfl⟩ hfs (Nat.le_of_ble_eq_true rfl) (Nat.le_of_ble_eq_true rfl) ⟨by decide, by decide⟩ m1) ?_
  exact e_fin (e_iret hT (y := 187) (pc := 20) (q := (yX11_pair, cX11_pair, 4, (some .int), 11)) rfl (show aTab 187 20 = some (.ireturn, 1, 0, 0, 0, 0, 0, 0) from rfl) ⟨rfl, rfl⟩) ⟨x, rfl, h1⟩
/-! pair there -/
def rdL : List (Nat × aV) := [(0, kR 128), (1, (4, 0, 0, 0)), (2, (4, 1, 0, 0)), (3, (4, 2, 0, 0))]
def rdT : Bool := tCk (kpK 263 [44]) 4000 95 [[]] (263, 0, rdL, []) [((120, 0, 0, 0), (4, 3, 0, 0)), ((120, 0, 3, 0), (4, 4, 0, 0))] (adBs, []) (fun lf => (lAt 263 44 [] rdL lf && adOk lf.2.2) || (lRe (kI (-1000000001)) lf && adBad lf.2.2))
set_option maxRecDepth 100000 in
theorem rdT_ok : rdT = true := by decide +kernel
def rd3G (j : Nat) (a b c d : aV) (lf : tLf_) : Bool := gF (120, j, 120, 4) a lf && (gF (120, j, 121, 4) b lf && (gF (120, j, 122, 4) c lf && gF (120, j, 123, 4) d lf))
def rd3 (j : Nat) (ds : List (Nat × Nat × Int)) (a b c d : aV) : Bool := tCk (fun _ _ => none, []) 4000 95 [rd3W] (263, 63, rdL, []) [((120, 0, 4, 0), (4, 3, 0, 0)), ((120, j, 120, 4), (4, 5, 0, 0)), ((120, j, 121, 4), (4, 6, 0, 0)), ((120, j, 122, 4), (4, 7, 0, 0)), ((120, j, 123, 4), (4, 8, 0, 0))] ([fu, fu, fu, (0, 10), (0, 9), fu, fu, fu, fu], ds) (fun lf => (lRe (kI (-1000000003)) lf && (tImp lf.2.2 (kI 10) (4, 3, 0, 0) 0 && (gF (120, 0, 4, 0) (4, 3, 0, 0) lf && rd3G j (4, 5, 0, 0) (4, 6, 0, 0) (4, 7, 0, 0) (4, 8, 0, 0) lf))) || (lRe (4, 3, 0, 0) lf && (tImp lf.2.2 (4, 3, 0, 0) (kI 9) 0 && (gF (120, 0, 4, 0) (4, 3, 1, 0) lf && rd3G j a b c d lf))))
set_option maxRecDepth 100000 in
theorem rd3_lo : rd3 4 [(4, 3, -1)] (4, 5, 0, 0) (4, 6, 0, 0) (4, 7, 0, 0) (4, 8, 0, 0) = true := by decide +kernel
set_option maxRecDepth 100000 in
theorem rd3_hi : rd3 4 [(3, 4, -1)] (4, 5, 0, 0) (4, 6, 0, 0) (4, 7, 0, 0) (4, 8, 0, 0) = true := by decide +kernel
set_option maxRecDepth 100000 in
theorem rd3_at : rd3 3 [] (4, 0, 0, 0) (4, 1, 0, 0) (4, 2, 0, 0) (kI 0) = true := by decide +kernel
def rdR1 (O T R B : Nat → Int32) (j : Nat) (M : mHe) : Prop := (∀ xs : tXs, yRd xs M 120 (j * 4 + 120) = some (.int (O j))) ∧ (∀ xs : tXs, yRd xs M 120 (j * 4 + 121) = some (.int (T j))) ∧ (∀ xs : tXs, yRd xs M 120 (j * 4 + 122) = some (.int (R j))) ∧ (∀ xs : tXs, yRd xs M 120 (j * 4 + 123) = some (.int (B j)))
def rdJ (one other till p r : Int32) (O T R B : Nat → Int32) (P : (Nat → Int32) → (Nat → Int32) → (Nat → Int32) → (Nat → Int32) → Prop) (M' : mHe) : Prop := (10 ≤ p.toInt ∧ r.toInt = -1000000003 ∧ (∀ xs : tXs, yRd xs M' 120 4 = some (.int p)) ∧ P O T R B) ∨ (p.toInt < 10 ∧ r = p ∧ (∀ xs : tXs, yRd xs M' 120 4 = some (.int (p + 1))) ∧ P (rUpd O p one) (rUpd T p other) (rUpd R p till) (rUpd B p 0))
/-- a value that is one number -/
def isV (E : List Int) (a : aV) (x : Int32) : Prop := ∀ (X : List Int) (v : Value), yV (E ++ X) a v → v = .int x
theorem isV_4 {E : List Int} {i : Nat} {x : Int32} (h : E[i]? = some x.toInt) : isV E (4, i, 0, 0) x := fun X v hv => by
  obtain ⟨y, rfl, -, e, e1, e2⟩ := yV_int rfl hv
  rw [get_app h] at e1
  cases e1
  have : y = x := i32eq (by omega)
  rw [this]
theorem isV_k {E : List Int} {x : Int32} {c : Int} (h : x.toInt = c) : isV E (kI c) x := fun X v hv => by
  obtain ⟨y, rfl, w⟩ := yV_int rfl hv
  have : y = x := i32eq (by have := w.2; rw [h]; exact Int.le_antisymm this.2 this.1)
  rw [this]
theorem gV_ok {xs : tXs} {E X : List Int} {lf : tLf_} {M : mHe} {p : tP} {v : aV} {k : Nat} {x : Int32} (h : gF p v lf = true) (hH : yH xs (E ++ X) lf.2.1 M) (hk : yIx E p = some (k : Int)) (hv : isV E v x) (hc : p.1 < 144) : ∀ ys : tXs, yRd ys M p.1 k = some (.int x) := fun ys => by
  obtain ⟨w, w1, w2⟩ := gF_ok h hH (yIx_app hk)
  rw [hv X w w2] at w1
  exact (rd_any hc).trans w1
theorem rd3_j (hT : aTabOk) {one other till p : Int32} {O T R B : Nat → Int32} {j : Nat} (hj : j < 10) (hp : 0 ≤ p.toInt ∧ p.toInt ≤ 10) {lv : List (Nat × Value)} {M : mHe} (hM : yTy M) (hsz : ∀ xs : tXs, yRd xs M 120 4 = some (.int p)) (hrow : rpRows M O T R B) (l0 : mlg 0 lv = some (.ref 128)) (l1 : mlg 1 lv = some (.int one)) (l2 : mlg 2 lv = some (.int other)) (l3 : mlg 3 lv = some (.int till)) : ∃ N r M', mRun none N 95 (263, 63, lv, []) M = some (some (.int r), M') ∧ yTy M' ∧ yFr rd3W M M' ∧ rdJ one other till p r O T R B (fun O T R B => rdR1 O T R B j M') M' := by
  obtain ⟨r1, r2, r3, r4⟩ := hrow j hj
  have h1 : (1 : Int32).toInt = 1 := rfl
  have bd : ∀ (ds : List (Nat × Nat × Int)), (∀ t' ∈ ds, ∃ e1 e2 : Int, ([one.toInt, other.toInt, till.toInt, p.toInt, (j : Int), (O j).toInt, (T j).toInt, (R j).toInt, (B j).toInt] : List Int)[t'.1]? = some e1 ∧ ([one.toInt, other.toInt, till.toInt, p.toInt, (j : Int), (O j).toInt, (T j).toInt, (R j).toInt, (B j).toInt] : List Int)[t'.2.1]? = some e2 ∧ e1 - e2 ≤ t'.2.2) → xE [one.toInt, other.toInt, till.toInt, p.toInt, (j : Int), (O j).toInt, (T j).toInt, (R j).toInt, (B j).toInt] ([fu, fu, fu, (0, 10), (0, 9), fu, fu, fu, fu], ds) := fun ds hds => go_E rfl (fun i e l u he hb => by
    match i, he, hb with
    | 0, he, hb => cases he; cases hb; exact ⟨⟨i32_lo _, i32_hi _⟩, i32_lo _, i32_hi _⟩
    | 1, he, hb => cases he; cases hb; exact ⟨⟨i32_lo _, i32_hi _⟩, i32_lo _, i32_hi _⟩
    | 2, he, hb => cases he; cases hb; exact ⟨⟨i32_lo _, i32_hi _⟩, i32_lo _, i32_hi _⟩
    | 3, he, hb => cases he; cases hb; omega
    | 4, he, hb => cases he; cases hb; omega
    | 5, he, hb => cases he; cases hb; exact ⟨⟨i32_lo _, i32_hi _⟩, i32_lo _, i32_hi _⟩
    | 6, he, hb => cases he; cases hb; exact ⟨⟨i32_lo _, i32_hi _⟩, i32_lo _, i32_hi _⟩
    | 7, he, hb => cases he; cases hb; exact ⟨⟨i32_lo _, i32_hi _⟩, i32_lo _, i32_hi _⟩
    | 8, he, hb => cases he; cases hb; exact ⟨⟨i32_lo _, i32_hi _⟩, i32_lo _, i32_hi _⟩
    | i + 9, he, hb => simp at he) hds
  have go : ∀ (i : Nat) (ds : List (Nat × Nat × Int)) (a b c d : aV) (va vb vc vd : Int32), rd3 i ds a b c d = true → ([one.toInt, other.toInt, till.toInt, p.toInt, (j : Int), (O j).toInt, (T j).toInt, (R j).toInt, (B j).toInt] : List Int)[i]? = some (j : Int) → (∀ t' ∈ ds, ∃ e1 e2 : Int, ([one.toInt, other.toInt, till.toInt, p.toInt, (j : Int), (O j).toInt, (T j).toInt, (R j).toInt, (B j).toInt] : List Int)[t'.1]? = some e1 ∧ ([one.toInt, other.toInt, till.toInt, p.toInt, (j : Int), (O j).toInt, (T j).toInt, (R j).toInt, (B j).toInt] : List Int)[t'.2.1]? = some e2 ∧ e1 - e2 ≤ t'.2.2) → (isV [one.toInt, other.toInt, till.toInt, p.toInt, (j : Int), (O j).toInt, (T j).toInt, (R j).toInt, (B j).toInt] a va ∧ isV [one.toInt, other.toInt, till.toInt, p.toInt, (j : Int), (O j).toInt, (T j).toInt, (R j).toInt, (B j).toInt] b vb ∧ isV [one.toInt, other.toInt, till.toInt, p.toInt, (j : Int), (O j).toInt, (T j).toInt, (R j).toInt, (B j).toInt] c vc ∧ isV [one.toInt, other.toInt, till.toInt, p.toInt, (j : Int), (O j).toInt, (T j).toInt, (R j).toInt, (B j).toInt] d vd) → (rUpd O p one j = va ∧ rUpd T p other j = vb ∧ rUpd R p till j = vc ∧ rUpd B p 0 j = vd) → ∃ N r M', mRun none N 95 (263, 63, lv, []) M = some (some (.int r), M') ∧ yTy M' ∧ yFr rd3W M M' ∧ rdJ one other till p r O T R B (fun O T R B => rdR1 O T R B j M') M' := by
    intro i ds a b c d va vb vc vd hr hi hds hab hup
    obtain ⟨q1, q2, q3, q4⟩ := hab
    obtain ⟨lf, f1, f2⟩ := tSegC (xs := x00) hT (fun ct hct => by cases hct) hr (bd ds hds) (clv := lv) (yLv_cons l0 (yV_kR _ _) (yLv_cons l1 (yV_atom rfl) (yLv_cons l2 (yV_atom rfl) (yLv_cons l3 (yV_atom rfl) (yLv_nil _ _))))) (cst := []) (show yS _ [] [] from trivial) (M := M) ⟨hM, fun q hq => by
      simp only [List.mem_cons, List.not_mem_nil, or_false] at hq
      rcases hq with rfl | rfl | rfl | rfl | rfl
      · exact ⟨4, rfl, _, hsz x00, yV_atom rfl⟩
      · exact ⟨_, yIx_4 (o := 120) hi, _, r1 x00, yV_atom rfl⟩
      · exact ⟨_, yIx_4 (o := 121) hi, _, r2 x00, yV_atom rfl⟩
      · exact ⟨_, yIx_4 (o := 122) hi, _, r3 x00, yV_atom rfl⟩
      · exact ⟨_, yIx_4 (o := 123) hi, _, r4 x00, yV_atom rfl⟩⟩
    unfold rd3G at f1
    simp only [Bool.or_eq_true, Bool.and_eq_true] at f1
    rcases f1 with ⟨g1, g2, g3, g4, g5, g6, g7⟩ | ⟨g1, g2, g3, g4, g5, g6, g7⟩
    · obtain ⟨X, N, w, M', p1, p2, p3, p4, p5⟩ := lRe_ok g1 f2
      obtain ⟨x, rfl, w3⟩ := yV_int rfl p3
      have k1 := tImp_ok p1 yK (yAt (i := 3) rfl) g2
      exact ⟨N, x, M', p2, p4.1, p5 _ (List.mem_singleton_self _), Or.inl ⟨by omega, Int.le_antisymm w3.2.2 w3.2.1, gI_ok (x := p) (k := 4) g3 p4 (yIx_app yIx_c) rfl (by decide), gV_ok g4 p4 (yIx_4 (o := 120) hi) (isV_4 rfl) (show (120 : Nat) < 144 by decide), gV_ok g5 p4 (yIx_4 (o := 121) hi) (isV_4 rfl) (show (120 : Nat) < 144 by decide), gV_ok g6 p4 (yIx_4 (o := 122) hi) (isV_4 rfl) (show (120 : Nat) < 144 by decide), gV_ok g7 p4 (yIx_4 (o := 123) hi) (isV_4 rfl) (show (120 : Nat) < 144 by decide)⟩⟩
    · obtain ⟨X, N, w, M', p1, p2, p3, p4, p5⟩ := lRe_ok g1 f2
      obtain ⟨x, rfl, -, e, w3, w4⟩ := yV_int rfl p3
      have w3 : some p.toInt = some e := w3
      cases w3
      have ex : x = p := i32eq (by omega)
      have k1 := tImp_ok p1 (yAt (i := 3) rfl) yK g2
      refine ⟨N, x, M', p2, p4.1, p5 _ (List.mem_singleton_self _), Or.inr ⟨by omega, ex, fun xs => ?_, ?_⟩⟩
      · obtain ⟨w, w1, w2⟩ := gF_ok (k := 4) g3 p4 (yIx_app yIx_c)
        obtain ⟨y, rfl, -, e, e1, e2⟩ := yV_int rfl w2
        have e1 : some p.toInt = some e := e1
        cases e1
        have : y = p + 1 := i32eq (by rw [i32_add (by omega) (by omega), h1]; omega)
        rw [← this]
        exact (rd_any (by decide)).trans w1
      · refine ⟨?_, ?_, ?_, ?_⟩
        · rw [hup.1]; exact gV_ok g4 p4 (yIx_4 (o := 120) hi) q1 (show (120 : Nat) < 144 by decide)
        · rw [hup.2.1]; exact gV_ok g5 p4 (yIx_4 (o := 121) hi) q2 (show (120 : Nat) < 144 by decide)
        · rw [hup.2.2.1]; exact gV_ok g6 p4 (yIx_4 (o := 122) hi) q3 (show (120 : Nat) < 144 by decide)
        · rw [hup.2.2.2]; exact gV_ok g7 p4 (yIx_4 (o := 123) hi) q4 (show (120 : Nat) < 144 by decide)
  by_cases c1 : (j : Int) < p.toInt
  · refine go 4 _ _ _ _ _ (O j) (T j) (R j) (B j) rd3_lo rfl (fun t' ht' => ?_) ⟨isV_4 rfl, isV_4 rfl, isV_4 rfl, isV_4 rfl⟩ ⟨if_neg (by omega), if_neg (by omega), if_neg (by omega), if_neg (by omega)⟩
    rw [List.mem_singleton.mp ht']
    exact ⟨_, _, rfl, rfl, by show (j : Int) - p.toInt ≤ -1; omega⟩
  by_cases c2 : p.toInt < (j : Int)
  · refine go 4 _ _ _ _ _ (O j) (T j) (R j) (B j) rd3_hi rfl (fun t' ht' => ?_) ⟨isV_4 rfl, isV_4 rfl, isV_4 rfl, isV_4 rfl⟩ ⟨if_neg (by omega), if_neg (by omega), if_neg (by omega), if_neg (by omega)⟩
    rw [List.mem_singleton.mp ht']
    exact ⟨_, _, rfl, rfl, by show p.toInt - (j : Int) ≤ -1; omega⟩
  · have ej : p.toInt = (j : Int) := by omega
    exact go 3 _ _ _ _ _ one other till 0 rd3_at (congrArg some ej) (fun t' ht' => by cases ht') ⟨isV_4 rfl, isV_4 rfl, isV_4 rfl, isV_k rfl⟩ ⟨if_pos ej.symm, if_pos ej.symm, if_pos ej.symm, if_pos ej.symm⟩
theorem rd3_run (hT : aTabOk) {one other till p : Int32} {O T R B : Nat → Int32} (hp : 0 ≤ p.toInt ∧ p.toInt ≤ 10) {lv : List (Nat × Value)} {M : mHe} (hM : yTy M) (hsz : ∀ xs : tXs, yRd xs M 120 4 = some (.int p)) (hrow : rpRows M O T R B) (l0 : mlg 0 lv = some (.ref 128)) (l1 : mlg 1 lv = some (.int one)) (l2 : mlg 2 lv = some (.int other)) (l3 : mlg 3 lv = some (.int till)) : ∃ N r M', mRun none N 95 (263, 63, lv, []) M = some (some (.int r), M') ∧ yTy M' ∧ yFr rd3W M M' ∧ rdJ one other till p r O T R B (fun O T R B => rpRows M' O T R B) M' := by
  obtain ⟨N, r, M', m1, m2, m3, m4⟩ := rd3_j hT (show 0 < 10 by decide) hp hM hsz hrow l0 l1 l2 l3
  have all : ∀ j : Nat, j < 10 → rdJ one other till p r O T R B (fun O T R B => rdR1 O T R B j M') M' := fun j hj => by
    obtain ⟨N2, r2, M2, n1, n2, n3, n4⟩ := rd3_j hT hj hp hM hsz hrow l0 l1 l2 l3
    have hd := mRun_det n1 m1
    cases hd
    exact n4
  refine ⟨N, r, M', m1, m2, m3, ?_⟩
  rcases m4 with ⟨a1, a2, a3, -⟩ | ⟨a1, a2, a3, -⟩
  · refine Or.inl ⟨a1, a2, a3, fun j hj => ?_⟩
    rcases all j hj with ⟨-, -, -, b4⟩ | ⟨b1, -⟩
    · exact b4
    · omega
  · refine Or.inr ⟨a1, a2, a3, fun j hj => ?_⟩
    rcases all j hj with ⟨b1, -⟩ | ⟨-, -, -, b4⟩
    · omega
    · exact b4
theorem rpR_fr {M M' : mHe} {O T R B : Nat → Int32} (hf : yFr [] M M') (h : rpRows M O T R B) : rpRows M' O T R B := fun j hj => ⟨fun xs => (yFr_nil hf 120 _).trans ((h j hj).1 xs), fun xs => (yFr_nil hf 120 _).trans ((h j hj).2.1 xs), fun xs => (yFr_nil hf 120 _).trans ((h j hj).2.2.1 xs), fun xs => (yFr_nil hf 120 _).trans ((h j hj).2.2.2 xs)⟩
theorem mpair_run (hT : aTabOk) {one other till mi z p : Int32} {O T R B : Nat → Int32} (hmi : 0 ≤ mi.toInt ∧ mi.toInt ≤ 9999) (hz : 0 ≤ z.toInt ∧ z.toInt ≤ 20) (hp : 0 ≤ p.toInt ∧ p.toInt ≤ 10) {M : mHe} (hM : yTy M) (hm : ∀ xs : tXs, yRd xs M 120 0 = some (.int mi)) (hz0 : ∀ xs : tXs, yRd xs M 120 3 = some (.int z)) (hsz : ∀ xs : tXs, yRd xs M 120 4 = some (.int p)) (hrow : rpRows M O T R B) : mEv none 95 (263, 0, lv_args 0 [.ref 128, .int one, .int other, .int till], []) M (fun r M' => ∃ x : Int32, r = some (.int x) ∧ rprQ (prOkP z mi one other till) (rE2 mi one other p O T R B) one other till p x O T R B M M') := by
  have hE : xE [one.toInt, other.toInt, till.toInt, mi.toInt, z.toInt] (adBs, []) := go_E rfl (fun i e l u he hb => by
    match i, he, hb with
    | 0, he, hb => cases he; cases hb; exact ⟨⟨i32_lo _, i32_hi _⟩, i32_lo _, i32_hi _⟩
    | 1, he, hb => cases he; cases hb; exact ⟨⟨i32_lo _, i32_hi _⟩, i32_lo _, i32_hi _⟩
    | 2, he, hb => cases he; cases hb; exact ⟨⟨i32_lo _, i32_hi _⟩, i32_lo _, i32_hi _⟩
    | 3, he, hb => cases he; cases hb; omega
    | 4, he, hb => cases he; cases hb; omega
    | i + 5, he, hb => simp at he) (fun t ht => by cases ht)
  obtain ⟨lf, f1, f2⟩ := tSegC (xs := x00) hT (fun ct hct => by cases hct) rdT_ok hE (clv := lv_args 0 [.ref 128, .int one, .int other, .int till]) (yLv_cons rfl (yV_kR _ _) (yLv_cons rfl (yV_atom rfl) (yLv_cons rfl (yV_atom rfl) (yLv_cons rfl (yV_atom rfl) (yLv_nil _ _))))) (cst := []) (show yS _ [] [] from trivial) (M := M) ⟨hM, fun q hq => by
    simp only [List.mem_cons, List.not_mem_nil, or_false] at hq
    rcases hq with rfl | rfl
    · exact ⟨0, rfl, _, hm x00, yV_atom rfl⟩
    · exact ⟨3, rfl, _, hz0 x00, yV_atom rfl⟩⟩
  rw [Bool.or_eq_true, Bool.and_eq_true, Bool.and_eq_true] at f1
  rcases f1 with ⟨f1, f3⟩ | ⟨f1, f3⟩
  · obtain ⟨X, lv, st', M1, m1, m2, m3, m4, m5, m6, m7⟩ := lAt_ok f1 f2
    have hst := yS_nil m3
    subst hst
    have hok : prOkP z mi one other till := adOk_ok m1 rfl rfl rfl rfl rfl f3
    have hf := m7 _ (List.mem_singleton_self _)
    obtain ⟨one', g1, e1⟩ := loc_i (k := 1) (i := 0) (a := 0) (e := one.toInt) m4 (by simp [rdL]) rfl
    obtain ⟨other', g2, e2⟩ := loc_i (k := 2) (i := 1) (a := 0) (e := other.toInt) m4 (by simp [rdL]) rfl
    obtain ⟨till', g3, e3⟩ := loc_i (k := 3) (i := 2) (a := 0) (e := till.toInt) m4 (by simp [rdL]) rfl
    have h1 : one' = one := i32eq (by omega)
    have h2 : other' = other := i32eq (by omega)
    have h3 : till' = till := i32eq (by omega)
    subst h1; subst h2; subst h3
    have g0 := loc_r (k := 0) (r := 128) m4 (by simp [rdL])
    refine e_then m2 ?_
    have hm1 : ∀ xs : tXs, yRd xs M1 120 0 = some (.int mi) := fun xs => (yFr_nil hf 120 0).trans (hm xs)
    have hsz1 : ∀ xs : tXs, yRd xs M1 120 4 = some (.int p) := fun xs => (yFr_nil hf 120 4).trans (hsz xs)
    obtain ⟨N2, r2, M2, n1, n2, n3, x2, rfl, n4⟩ := rp_run hT (s := one') hp m6.1 hm1 hsz1 (rpR_fr hf hrow)
    obtain ⟨fs, hfs, -⟩ := yTy_obj m6.1 (rfl : tTy 119 = some (.inr (12, _)))
    have n1 := mRun_dm n1 (show 90 ≤ 94 by decide)
    have k0 : (0 : Int32).toInt = 0 := rfl
    have kO : (-1000000002 : Int32).toInt = -1000000002 := rfl
    refine e_then (e_al1 hT (y := 263) (pc := 44) (q := (yX12_pair, cX12_pair, 5, (some .int), 12)) rfl (show aTab 263 44 = some (.aload_n 0, 1, 0, 0, 0, 0, 0, 0) from rfl) rfl g0) ?_
    refine e_then (e_il1 hT (y := 263) (pc := 45) (q := (yX12_pair, cX12_pair, 5, (some .int), 12)) rfl (show aTab 263 45 = some (.iload_n 1, 1, 0, 0, 0, 0, 0, 0) from rfl) rfl g1) ?_
    refine e_then (e_call hT (y := 263) (pc := 46) (q := (yX12_pair, cX12_pair, 5, (some .int), 12)) rfl (show aTab 263 46 = some (.invokevirtual 108, 3, 1, 259, 0, 1, 5, 12) from rfl) rfl ⟨by decide, Nat.le_of_ble_eq_true rfl⟩ hfs (Nat.le_of_ble_eq_true rfl) (Nat.le_of_ble_eq_true rfl) ⟨by decide, by decide⟩ n1) ?_
    rcases n4 with ⟨n4, n5⟩ | ⟨n4, n5⟩
    · refine e_then (e_ifF hT (y := 263) (pc := 49) (q := (yX12_pair, cX12_pair, 5, (some .int), 12)) rfl (show aTab 263 49 = some (.ifCond .ge 11, 3, 0, 0, 0, 0, 0, 0) from rfl) rfl (t := 60) rfl (cdF (by show ¬ _ ≤ _; omega))) ?_
      have hsz2 : ∀ xs : tXs, yRd xs M2 120 4 = some (.int p) := fun xs => (yFr_nil n3 120 4).trans (hsz1 xs)
      have hm2 : ∀ xs : tXs, yRd xs M2 120 0 = some (.int mi) := fun xs => (yFr_nil n3 120 0).trans (hm1 xs)
      have hrow2 := rpR_fr n3 (rpR_fr hf hrow)
      obtain ⟨N4, r4, M4, o1, o2, o3, x4, rfl, o4⟩ := rp_run hT (s := other') hp n2 hm2 hsz2 hrow2
      obtain ⟨fs2, hfs2, -⟩ := yTy_obj n2 (rfl : tTy 119 = some (.inr (12, _)))
      have o1 := mRun_dm o1 (show 90 ≤ 94 by decide)
      have hf4 : yFr [] M M4 := yFr_tr hf (yFr_tr n3 o3)
      refine e_then (e_al1 hT (y := 263) (pc := 52) (q := (yX12_pair, cX12_pair, 5, (some .int), 12)) rfl (show aTab 263 52 = some (.aload_n 0, 1, 0, 0, 0, 0, 0, 0) from rfl) rfl g0) ?_
      refine e_then (e_il1 hT (y := 263) (pc := 53) (q := (yX12_pair, cX12_pair, 5, (some .int), 12)) rfl (show aTab 263 53 = some (.iload_n 2, 1, 0, 0, 0, 0, 0, 0) from rfl) rfl g2) ?_
      refine e_then (e_call hT (y := 263) (pc := 54) (q := (yX12_pair, cX12_pair, 5, (some .int), 12)) rfl (show aTab 263 54 = some (.invokevirtual 108, 3, 1, 259, 0, 1, 5, 12) from rfl) rfl ⟨by decide, Nat.le_of_ble_eq_true rfl⟩ hfs2 (Nat.le_of_ble_eq_true rfl) (Nat.le_of_ble_eq_true rfl) ⟨by decide, by decide⟩ o1) ?_
      rcases o4 with ⟨o4, o5⟩ | ⟨o4, o5⟩
      · refine e_then (e_ifT hT (y := 263) (pc := 57) (q := (yX12_pair, cX12_pair, 5, (some .int), 12)) rfl (show aTab 263 57 = some (.ifCond .lt 6, 3, 0, 0, 0, 0, 0, 0) from rfl) rfl (t := 63) rfl (cdT (by show _ < _; omega))) ?_
        obtain ⟨N5, r5, M5, q1, q2, q3, q4⟩ := rd3_run hT hp o2 (fun xs => (yFr_nil o3 120 4).trans (hsz2 xs)) (rpR_fr o3 hrow2) g0 g1 g2 g3
        have hne : ¬ rE2 mi one' other' p O T R B := by
          rintro (⟨j, j1, j2⟩ | ⟨j, j1, j2⟩)
          · exact n5 j j1 j2
          · exact o5 j j1 j2
        refine ⟨N5, _, M5, q1, r5, rfl, q2, yFr_tr (yFr_up hf4) q3, ?_⟩
        rcases q4 with ⟨a1, a2, a3, a4⟩ | ⟨a1, a2, a3, a4⟩
        · exact ⟨Or.inr (Or.inr (Or.inl ⟨hok, hne, a1, a2⟩)), Or.inl ⟨fun h => by have := h.2.2; omega, a3, a4⟩⟩
        · exact ⟨Or.inr (Or.inr (Or.inr ⟨hok, hne, a1, a2⟩)), Or.inr ⟨⟨hok, hne, a1⟩, a3, a4⟩⟩
      · refine e_then (e_ifF hT (y := 263) (pc := 57) (q := (yX12_pair, cX12_pair, 5, (some .int), 12)) rfl (show aTab 263 57 = some (.ifCond .lt 6, 3, 0, 0, 0, 0, 0, 0) from rfl) rfl (t := 63) rfl (cdF (by show ¬ _ < _; omega))) ?_
        refine e_then (e_st hT (y := 263) (pc := 60) (q := (yX12_pair, cX12_pair, 5, (some .int), 12)) rfl (show aTab 263 60 = some (.ldc 117, 2, 7, 0, (-1000000002), 0, 0, 0) from rfl) (fr' := (263, 62, lv, [.int (-1000000002)])) (M' := M4) rfl) ?_
        have he : rE2 mi one' other' p O T R B := Or.inr o5
        exact e_fin (e_iret hT (y := 263) (pc := 62) (q := (yX12_pair, cX12_pair, 5, (some .int), 12)) rfl (show aTab 263 62 = some (.ireturn, 1, 0, 0, 0, 0, 0, 0) from rfl) ⟨rfl, rfl⟩) ⟨_, rfl, o2, yFr_up hf4, Or.inr (Or.inl ⟨hok, he, kO⟩), Or.inl ⟨fun h => h.2.1 he, fun xs => (yFr_nil o3 120 4).trans (hsz2 xs), rpR_fr o3 hrow2⟩⟩
    · refine e_then (e_ifT hT (y := 263) (pc := 49) (q := (yX12_pair, cX12_pair, 5, (some .int), 12)) rfl (show aTab 263 49 = some (.ifCond .ge 11, 3, 0, 0, 0, 0, 0, 0) from rfl) rfl (t := 60) rfl (cdT (by show _ ≤ _; omega))) ?_
      refine e_then (e_st hT (y := 263) (pc := 60) (q := (yX12_pair, cX12_pair, 5, (some .int), 12)) rfl (show aTab 263 60 = some (.ldc 117, 2, 7, 0, (-1000000002), 0, 0, 0) from rfl) (fr' := (263, 62, lv, [.int (-1000000002)])) (M' := M2) rfl) ?_
      have he : rE2 mi one' other' p O T R B := Or.inl n5
      exact e_fin (e_iret hT (y := 263) (pc := 62) (q := (yX12_pair, cX12_pair, 5, (some .int), 12)) rfl (show aTab 263 62 = some (.ireturn, 1, 0, 0, 0, 0, 0, 0) from rfl) ⟨rfl, rfl⟩) ⟨_, rfl, n2, yFr_up (yFr_tr hf n3), Or.inr (Or.inl ⟨hok, he, kO⟩), Or.inl ⟨fun h => h.2.1 he, fun xs => (yFr_nil n3 120 4).trans (hsz1 xs), rpR_fr n3 (rpR_fr hf hrow)⟩⟩
  · obtain ⟨X, N, w, M', p1, p2, p3, p4, p5⟩ := lRe_ok f1 f2
    obtain ⟨x, rfl, w3⟩ := yV_int rfl p3
    have hbad : ¬ prOkP z mi one other till := adBad_ok p1 rfl rfl rfl rfl rfl f3
    have hf := p5 _ (List.mem_singleton_self _)
    exact ⟨N, _, M', p2, x, rfl, p4.1, yFr_up hf, Or.inl ⟨hbad, Int.le_antisymm w3.2.2 w3.2.1⟩, Or.inl ⟨fun h => hbad h.1, fun xs => (yFr_nil hf 120 4).trans (hsz xs), rpR_fr hf hrow⟩⟩
theorem prPost_ok (hT : aTabOk) : prPost := by
  refine ⟨fun M hM one other till mi z p O T C hmi hz hp hm hz0 hsz hrow => ?_, fun M hM one other till mi z p O T R B hmi hz hp hm hz0 hsz hrow => ?_⟩
  · obtain ⟨N, r, M', m1, x, rfl, h1⟩ := xpair_run hT hmi hz hp hM hm hz0 hsz hrow (one := one) (other := other) (till := till)
    exact ⟨N, x, M', mRun_dm m1 (by decide), h1⟩
  · obtain ⟨N, r, M', m1, x, rfl, h1⟩ := mpair_run hT hmi hz hp hM hm hz0 hsz hrow (one := one) (other := other) (till := till)
    exact ⟨N, x, M', mRun_dm m1 (by decide), h1⟩
