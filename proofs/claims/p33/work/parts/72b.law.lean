/-! THE LAW, from its loop on -/
def lwW : List tG := (List.range 138).filterMap (fun c => match tTy c with
  | some (.inl (n, _, _)) => some (c, 0, Int.ofNat n - 1, 1, 0)
  | some (.inr (_, fts)) => some (c, 0, Int.ofNat fts.length - 1, 1, 0)
  | none => none)
def lwP (y pc : Nat) : Option (tAn ⊕ Option Nat) := bif Nat.beq y 365 then (bif Nat.beq pc 18 then some (.inl (1841, [(3, 0, 384)], [], [], 0, true, [], lwW)) else none) else  tPt_ y pc
/-- places of both sides that are equal, and what they hold at first -/
def lwF : List (Nat × Nat × Int) := []
def lwH : tF := lwF.map (fun p => ((p.1, 0, Int.ofNat p.2.1, 0), kI p.2.2))
def lwC : List tCt := tKs_144.filter (fun c => !(([214, 331] : List Nat).any (fun k => Nat.beq k c.1)))
/-- an end, with a number between these -/
def lwRes (l u : Int) (lf : tLf_) : Bool := match lf.1 with
  | .inr (some v) => tIsI v && (ile l (tBd lf.2.2 v).1 && ile (tBd lf.2.2 v).2 u)
  | _ => false
theorem lwRes_ok {xs : tXs} {sc : Option (Nat × (Nat → Int32))} {d : Nat} {E : List Int} {Ws : List (List tG)} {fr : mFr} {M : mHe} {lf : tLf_} {l u : Int} (h : lwRes l u lf = true) (he : tEnd1 xs sc d E Ws fr M lf) : ∃ X N x M', xE (E ++ X) lf.2.2 ∧ mRun sc N d fr M = some (some (.int x), M') ∧ (l ≤ x.toInt ∧ x.toInt ≤ u) ∧ yH xs (E ++ X) lf.2.1 M' := by
  obtain ⟨X, h0, he⟩ := he
  obtain ⟨l1, l2, l3⟩ := lf
  unfold lwRes at h
  simp only at h he h0
  split at h
  · next v =>
    simp only at he
    rw [Bool.and_eq_true, Bool.and_eq_true, ile_iff, ile_iff] at h
    obtain ⟨N, r', M', m1, m2, m3, m4⟩ := he
    cases r' with
    | none => exact m2.elim
    | some w =>
      obtain ⟨x, rfl, x1⟩ := yV_int h.1 m2
      have := tBd_N h0 x1.2
      exact ⟨X, N, x, M', h0, m1, by omega, m3⟩
  · cases h
def lwA : Bool := match tRun (lwP, lwC) 20000 true 150 [] [] (365, 18, [(0, kR 0), (1, kR 9), (2, kR 128), (3, kI 0)], []) lwH ([(0, 384)], []) with
  | none => false
  | some l => l.all (fun lf => lwRes 1 1 lf)
set_option maxRecDepth 100000 in
theorem lwA_ok : lwA = true := by decide +kernel
theorem law_18 (hT : aTabOk) (hK : ∀ c ∈ tKs_144, tCtOk c) {M : mHe} (hM : yTy M) {n : Nat} {f : Nat → Int32} (hF : yF (n, f) [(n : Int)] lwH M) (hn : n ≤ 384) {lv : List (Nat × Value)} (l0 : mlg 0 lv = some (.ref 0)) (l1 : mlg 1 lv = some (.ref 9)) (l2 : mlg 2 lv = some (.ref 128)) (l3 : mlg 3 lv = some (.int 0)) : ∃ N M', mRun (some (n, f)) N 150 (365, 18, lv, []) M = some (some (.int 1), M') ∧ yTy M' := by
  have hA := lwA_ok
  unfold lwA at hA
  split at hA
  · cases hA
  · next lfs hr =>
    have hE : xE [(n : Int)] ([(0, 384)], []) := by
      refine xE_of_list rfl (fun i l u e hb he => ?_)
      match i with
      | 0 => cases hb; cases he; omega
      | i + 1 => simp at hb
    have hL : yLv [(n : Int)] [(0, kR 0), (1, kR 9), (2, kR 128), (3, kI 0)] lv := yLv_cons l0 (yV_kR _ _) (yLv_cons l1 (yV_kR _ _) (yLv_cons l2 (yV_kR _ _) (yLv_cons l3 (yV_kI _ rfl) (yLv_nil _ _))))
    rcases tRun_ok (K := (lwP, lwC)) (xs := (n, f)) hT (fun ct hct => hK ct (List.mem_filter.mp hct).1) 20000 true (some (n, f)) 150 [] [] (365, 18, [(0, kR 0), (1, kR 9), (2, kR 128), (3, kI 0)], []) lwH ([(0, 384)], []) lfs [(n : Int)] lv [] M hr hE hL (show yS _ [] [] from trivial) ⟨hM, hF⟩ (fun _ => ⟨rfl, rfl, by show n < 2 ^ 31; omega⟩) (fun L hL => by cases hL) with h | h
    · obtain ⟨lf, f1, f2⟩ := h
      obtain ⟨X, N, x, M', m1, m2, m3, m4⟩ := lwRes_ok (List.all_eq_true.mp hA lf f1) f2
      have hx : x = 1 := i32eq (by show x.toInt = 1; omega)
      rw [hx] at m2
      exact ⟨N, M', m2, m4.1⟩
    · exact h.elim
