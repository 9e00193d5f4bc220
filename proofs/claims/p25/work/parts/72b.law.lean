/-! THE LAW'S REGIONS -/
def lwW : List tG := (List.range 138).filterMap (fun c => match tTy c with
  | some (.inl (n, _, _)) => some (c, 0, Int.ofNat n - 1, 1, 0)
  | some (.inr (_, fts)) => some (c, 0, Int.ofNat fts.length - 1, 1, 0)
  | none => none)
/-! THE LAW'S LOOP: each turn by its case -/
def lwAn : tAn := (1841, [(3, 0, 384)], [(107, 0, 0, 96), (119, 14, 0, 96)], [((0, 1), (0, 2), 0), ((0, 2), (0, 1), 0)], 0, true, [], lwW)
def lwP (y pc : Nat) : Option (tAn ⊕ Option Nat) := bif Nat.beq y 365 then (bif Nat.beq pc 18 then some (.inl lwAn) else none) else bif Nat.beq y 301 || Nat.beq y 154 then none else bif Nat.beq y 268 && Nat.beq pc 34 then some (.inl (46, [(2, 0, 240)], [], [], 0, true, [], [(120, 0, 1, 1, 0), (120, 7, 7, 1, 0), (120, 920, 1007, 3, 2), (120, 921, 1008, 3, 0), (120, 922, 1009, 3, 1), (120, 166, 556, 10, 6), (120, 23, 118, 5, 3)])) else tPt_ y pc
/-- places of both sides that are equal, and what they hold at first -/
def lwF : List (Nat × Nat × Int) := [(107, 0, 0), (119, 14, 0)]
def lwH : tF := lwF.map (fun p => ((p.1, 0, Int.ofNat p.2.1, 0), kI p.2.2))
def lwC : List tCt := [] ++ tKs_144.filter (fun c => !(([206, 207, 208, 301, 302] : List Nat).any (fun k => Nat.beq k c.1)))
def lwL0 : Option tLp := tHead lwAn 365 18 [(0, kR 0), (1, kR 9), (2, kR 128), (3, kI 0)] lwH ([(0, 384)], [])
def lwL : tLp := match lwL0 with
  | some L => L
  | none => (0, 0, lwAn, 0, [], [], ([], []))
def lwCs : aC := (lwL.2.2.2.2.2.2.1.set 1 (0, 378), (1, 0, -6) :: lwL.2.2.2.2.2.2.2)
def lwLok : Bool := lwL0.isSome && (match alg 0 lwL.2.2.2.2.1, alg 3 lwL.2.2.2.2.1, lwL.2.2.2.2.2.2.1[1]? with
  | some a, some b, some (l, u) => aSame a (kR 0) && (aSame b (4, 1, 0, 0) && (ieq l 0 && ieq u 384))
  | _, _, _ => false)
theorem lwL_ok : lwLok = true := by decide +kernel
theorem lwL0_is : lwL0 = some lwL := by
  have h := lwL_ok
  unfold lwLok at h
  rw [Bool.and_eq_true] at h
  obtain ⟨L, hL⟩ := Option.isSome_iff_exists.mp h.1
  unfold lwL
  rw [hL]
theorem lwL_h : lwL.2.2.2.2.2.1 = tNewE (lwL.2.2.2.1 + lwL.2.2.1.2.1.length) lwL.2.2.1.2.2.1 := by decide +kernel
def lwRes (l u : Int) (lf : tLf_) : Bool := match lf.1 with
  | .inr (some v) => tIsI v && (ile l (tBd lf.2.2 v).1 && ile (tBd lf.2.2 v).2 u)
  | _ => false
theorem lwRes_ok {xs : tXs} {sc : Option (Nat × (Nat → Int32))} {d : Nat} {E : List Int} {Ws : List (List tG)} {fr : mFr} {M : mHe} {lf : tLf_} {l u : Int} (h : lwRes l u lf = true) (he : tEnd1 xs sc d E Ws fr M lf) : ∃ X N x M', xE (E ++ X) lf.2.2 ∧ mRun sc N d fr M = some (some (.int x), M') ∧ (l ≤ x.toInt ∧ x.toInt ≤ u) ∧ yH xs (E ++ X) lf.2.1 M' := by
  obtain ⟨X, h0, he⟩ := he
  obtain ⟨l1, l2, l3⟩ := lf
  unfold lwRes at h
  simp only at h he h0
  split at h
  · next v =>
    simp only at he
    rw [Bool.and_eq_true, Bool.and_eq_true, ile_iff, ile_iff] at h
    obtain ⟨N, r', M', m1, m2, m3, m4⟩ := he
    cases r' with
    | none => exact m2.elim
    | some w =>
      obtain ⟨x, rfl, x1⟩ := yV_int h.1 m2
      have := tBd_N h0 x1.2
      exact ⟨X, N, x, M', h0, m1, by omega, m3⟩
  · cases h
/-- a case's run from its first row -/
def lwCase (pc : Nat) : Bool := match tRun (lwP, lwC) 20000 true 150 [] [lwL] (365, pc, lwL.2.2.2.2.1, []) lwL.2.2.2.2.2.1 lwCs with
  | none => false
  | some l => l.all (fun lf => lwRes 1 1 lf)
def lwEnd (n : Nat) (f : Nat → Int32) (V : List Int) (fr : mFr) (M : mHe) : Prop := (∃ N M', mRun (some (n, f)) N 150 fr M = some (some (.int 1), M') ∧ yTy M') ∨ ∃ V' clv' M', mTo (some (n, f)) 150 fr M (365, 18, clv', []) M' ∧ tSt (n, f) [(n : Int)] V' lwL clv' M' ∧ ∃ e', V'[0]? = some e' ∧ ∀ e, V[0]? = some e → e < e'
def lwStep (n : Nat) (f : Nat → Int32) (pc : Nat) : Prop := ∀ (V : List Int) (clv : List (Nat × Value)) (M : mHe), tSt (n, f) [(n : Int)] V lwL clv M → (∀ e : Int, V[0]? = some e → e + 6 ≤ (n : Int)) → lwEnd n f V (365, pc, clv, []) M
theorem lwEnd_to {n : Nat} {f : Nat → Int32} {V : List Int} {fr fr' : mFr} {M M' : mHe} (a : mTo (some (n, f)) 150 fr M fr' M') (h : lwEnd n f V fr' M') : lwEnd n f V fr M := by
  rcases h with ⟨N, M2, h1, h2⟩ | ⟨V', clv', M2, h1, h2, h3⟩
  · obtain ⟨N', h3⟩ := a N _ h1
    exact Or.inl ⟨N', M2, h3, h2⟩
  · exact Or.inr ⟨V', clv', M2, mTo_tr a h1, h2, h3⟩
/-- out of a run behind the head -/
theorem lwRun_ok (hT : aTabOk) (hC : ∀ c ∈ lwC, tCtOk c) {n : Nat} {f : Nat → Int32} (hn : n ≤ 384) (hLp : tLpOk (n, f) [(n : Int)] lwL) (hL1 : lwL.1 = 365 ∧ lwL.2.1 = 18 ∧ lwL.2.2.2.1 = 1) {V X : List Int} {fr : aFr} {h : tF} {cs : aC} {lfs : List tLf_} {clv : List (Nat × Value)} {cst : List Value} {M : mHe} (hr : tRun (lwP, lwC) 20000 true 150 [] [lwL] fr h cs = some lfs) (hall : lfs.all (fun lf => lwRes 1 1 lf) = true) (hV : V ≠ []) (hE : xE ([(n : Int)] ++ V ++ X) cs) (hL : yLv ([(n : Int)] ++ V ++ X) fr.2.2.1 clv) (hS : yS ([(n : Int)] ++ V ++ X) fr.2.2.2 cst) (hH : yH (n, f) ([(n : Int)] ++ V ++ X) h M) : lwEnd n f V (fr.1, fr.2.1, clv, cst) M := by
  rcases tRun_ok (K := (lwP, lwC)) (xs := (n, f)) hT hC 20000 true (some (n, f)) 150 [] [lwL] fr h cs lfs ([(n : Int)] ++ V ++ X) clv cst M hr hE hL hS hH (fun _ => ⟨rfl, rfl, by show n < 2 ^ 31; omega⟩) (fun L hL => by
    rw [List.mem_singleton] at hL
    subst hL
    refine ⟨by rw [hL1.2.2]; simp, ?_⟩
    rw [hL1.2.2]
    exact hLp) with h | h
  · obtain ⟨lf, f1, f2⟩ := h
    obtain ⟨X, N, x, M', m1, m2, m3, m4⟩ := lwRes_ok (List.all_eq_true.mp hall lf f1) f2
    have hx : x = 1 := i32eq (by show x.toInt = 1; omega)
    rw [hx] at m2
    exact Or.inl ⟨N, M', m2, m4.1⟩
  · rcases h with ⟨V', clv', M', h1, h2, ⟨e', h3, h4⟩, -⟩ | h
    · rw [hL1.1, hL1.2.1] at h1
      rw [hL1.2.2] at h2 h4
      refine Or.inr ⟨V', clv', M', h1, h2, e', h3, fun e he => ?_⟩
      have h5 := h4 e (by
        show ([(n : Int)] ++ V ++ X)[1 + 0]? = some e
        cases V with
        | nil => exact absurd rfl hV
        | cons v V => simpa using he)
      exact h5
    · exact h.elim
/-- the same, where some numbers of the script lie between these -/
def lwBx (b : List (Nat × Int × Int)) : tF := b.map (fun q => ((9999, 1, Int.ofNat q.1, 1), (2, 0, q.2.1, q.2.2)))
def lwCaseB (pc : Nat) (b : List (Nat × Int × Int)) : Bool := b.all (fun q => Nat.blt q.1 6) && (match tRun (lwP, lwC) 20000 true 150 [] [lwL] (365, pc, lwL.2.2.2.2.1, []) (lwBx b ++ lwL.2.2.2.2.2.1) lwCs with
  | none => false
  | some l => l.all (fun lf => lwRes 1 1 lf))
theorem lwV_ne {n : Nat} {V : List Int} (s1 : xE ([(n : Int)] ++ V) lwL.2.2.2.2.2.2) : V ≠ [] := by
  intro z
  subst z
  have := s1.1
  have h2 := lwL_ok
  unfold lwLok at h2
  rw [Bool.and_eq_true] at h2
  have h2 := h2.2
  split at h2
  · next a b l u g1 g2 g3 =>
    have := (List.getElem?_eq_some_iff.mp g3).1
    simp at *
    omega
  · cases h2
theorem lwV_lo {n : Nat} {V : List Int} (s1 : xE ([(n : Int)] ++ V) lwL.2.2.2.2.2.2) {e : Int} (he : ([(n : Int)] ++ V)[1]? = some e) : 0 ≤ e ∧ e ≤ 384 := by
  have h3 := lwL_ok
  unfold lwLok at h3
  rw [Bool.and_eq_true] at h3
  have h3 := h3.2
  split at h3
  · next a b l u g1 g2 g3 =>
    rw [Bool.and_eq_true, Bool.and_eq_true, Bool.and_eq_true, ieq_iff, ieq_iff] at h3
    have := s1.2.2.1 1 l u e g3 he
    omega
  · cases h3
/-- the constraints at a case -/
theorem lwCs_ok {n : Nat} (hn : n ≤ 384) {V : List Int} (s1 : xE ([(n : Int)] ++ V) lwL.2.2.2.2.2.2) (hle : ∀ e : Int, V[0]? = some e → e + 6 ≤ (n : Int)) : xE ([(n : Int)] ++ V) lwCs := by
  have hV := lwV_ne s1
  refine ⟨by rw [s1.1]; exact List.length_set.symm, s1.2.1, fun i l u e hb he => ?_, fun t ht => ?_⟩
  · replace hb : (lwL.2.2.2.2.2.2.1.set 1 (0, 378))[i]? = some (l, u) := hb
    rw [List.getElem?_set] at hb
    split at hb
    · next hi =>
      subst hi
      split at hb
      · cases hb
        cases V with
        | nil => exact absurd rfl hV
        | cons v V =>
          have h1 := hle v rfl
          have h2 : v = e := by simpa using he
          have := lwV_lo s1 he
          omega
      · cases hb
    · exact s1.2.2.1 i l u e hb he
  · rcases List.mem_cons.mp ht with rfl | ht
    · cases V with
      | nil => exact absurd rfl hV
      | cons v V => exact ⟨v, n, rfl, rfl, by have := hle v rfl; show v - (n : Int) ≤ -6; omega⟩
    · exact s1.2.2.2 t ht
theorem lwCaseB_ok (hT : aTabOk) (hC : ∀ c ∈ lwC, tCtOk c) {n : Nat} {f : Nat → Int32} (hn : n ≤ 384) (hLp : tLpOk (n, f) [(n : Int)] lwL) (hL1 : lwL.1 = 365 ∧ lwL.2.1 = 18 ∧ lwL.2.2.2.1 = 1) {pc : Nat} {b : List (Nat × Int × Int)} (h : lwCaseB pc b = true) {V : List Int} {clv : List (Nat × Value)} {M : mHe} (hst : tSt (n, f) [(n : Int)] V lwL clv M) (hle : ∀ e : Int, V[0]? = some e → e + 6 ≤ (n : Int)) (hb : ∀ e : Int, V[0]? = some e → ∀ q ∈ b, q.2.1 ≤ (f (e.toNat + q.1)).toInt ∧ (f (e.toNat + q.1)).toInt ≤ q.2.2) : lwEnd n f V (365, pc, clv, []) M := by
  unfold lwCaseB at h
  rw [Bool.and_eq_true] at h
  obtain ⟨h0, h⟩ := h
  split at h
  · cases h
  · next lfs hr =>
    obtain ⟨s1, s2, s3, s4⟩ := hst
    have hV := lwV_ne s1
    refine lwRun_ok hT hC hn hLp hL1 (X := []) (fr := (365, pc, lwL.2.2.2.2.1, [])) hr h hV ?_ (by simpa using s2) trivial ⟨s3, fun q hq => ?_⟩
    · rw [List.append_nil]; exact lwCs_ok hn s1 hle
    · rw [List.append_nil]
      rcases List.mem_append.mp hq with hq | hq
      · obtain ⟨p, hp, rfl⟩ := List.mem_map.mp hq
        cases V with
        | nil => exact absurd rfl hV
        | cons v V =>
          have h1 := hle v rfl
          have h2 := lwV_lo s1 (show _ = some v from rfl)
          have h3 := hb v rfl p hp
          have h4 := Nat.blt_eq.mp (List.all_eq_true.mp h0 p hp)
          refine ⟨v.toNat + p.1, ?_, .int (f (v.toNat + p.1)), ?_, rfl, h3⟩
          · show some (v * Int.ofNat 1 + Int.ofNat p.1) = some _
            congr 1
            rw [Int.ofNat_eq_natCast, Int.ofNat_eq_natCast]
            omega
          · unfold yRd
            rw [if_pos rfl]
            rw [if_pos (show v.toNat + p.1 < n by omega)]
      · rw [lwL_h] at hq; exact s4 q hq
theorem bx1 {g : Nat → Int} {j : Nat} {l u : Int} (h : (-2147483648 ≤ g j ∧ g j ≤ 2147483647) → l ≤ g j ∧ g j ≤ u) : ∀ q ∈ [(j, l, u)], (-2147483648 ≤ g q.1 ∧ g q.1 ≤ 2147483647) → q.2.1 ≤ g q.1 ∧ g q.1 ≤ q.2.2 := by
  intro q hq
  rw [List.mem_singleton] at hq
  subst hq
  exact h
theorem bx2 {g : Nat → Int} {j j2 : Nat} {l u l2 u2 : Int} (h : (-2147483648 ≤ g j ∧ g j ≤ 2147483647) → l ≤ g j ∧ g j ≤ u) (h2 : (-2147483648 ≤ g j2 ∧ g j2 ≤ 2147483647) → l2 ≤ g j2 ∧ g j2 ≤ u2) : ∀ q ∈ [(j, l, u), (j2, l2, u2)], (-2147483648 ≤ g q.1 ∧ g q.1 ≤ 2147483647) → q.2.1 ≤ g q.1 ∧ g q.1 ≤ q.2.2 := by
  intro q hq
  rcases List.mem_cons.mp hq with rfl | hq
  · exact h
  · rw [List.mem_singleton] at hq
    subst hq
    exact h2
theorem lwBoxes (hT : aTabOk) (hC : ∀ c ∈ lwC, tCtOk c) {n : Nat} {f : Nat → Int32} (hn : n ≤ 384) (hP : tLpOk (n, f) [(n : Int)] lwL ∧ lwL.1 = 365 ∧ lwL.2.1 = 18 ∧ lwL.2.2.2.1 = 1) {pc : Nat} {bs : List (List (Nat × Int × Int))} (h : ∀ b ∈ bs, lwCaseB pc b = true) (hc : ∀ g : Nat → Int, ∃ b ∈ bs, ∀ q ∈ b, (-2147483648 ≤ g q.1 ∧ g q.1 ≤ 2147483647) → q.2.1 ≤ g q.1 ∧ g q.1 ≤ q.2.2) : lwStep n f pc := by
  intro V clv M hst hle
  obtain ⟨v, hv⟩ : ∃ v, V[0]? = some v := by
    cases V with
    | nil => exact absurd rfl (lwV_ne hst.1)
    | cons v V => exact ⟨v, rfl⟩
  obtain ⟨b, b1, b2⟩ := hc (fun j => (f (v.toNat + j)).toInt)
  refine lwCaseB_ok hT hC hn hP.1 hP.2 (h b b1) hst hle (fun e he q hq => ?_)
  rw [hv] at he
  cases he
  exact b2 q hq ⟨i32_lo _, i32_hi _⟩
theorem lwCase_ok (hT : aTabOk) (hC : ∀ c ∈ lwC, tCtOk c) {n : Nat} {f : Nat → Int32} (hn : n ≤ 384) (hLp : tLpOk (n, f) [(n : Int)] lwL) (hL1 : lwL.1 = 365 ∧ lwL.2.1 = 18 ∧ lwL.2.2.2.1 = 1) {pc : Nat} (h : lwCase pc = true) : lwStep n f pc := by
  intro V clv M hst hle
  unfold lwCase at h
  split at h
  · cases h
  · next lfs hr =>
    obtain ⟨s1, s2, s3, s4⟩ := hst
    have hV := lwV_ne s1
    refine lwRun_ok hT hC hn hLp hL1 (X := []) (fr := (365, pc, lwL.2.2.2.2.1, [])) hr h hV ?_ (by simpa using s2) trivial ⟨s3, ?_⟩
    · rw [List.append_nil]; exact lwCs_ok hn s1 hle
    · rw [List.append_nil, lwL_h]
      exact s4
/-! from the head to a case -/
section DISP
variable {sc : Option (Nat × (Nat → Int32))} {d y pc : Nat} {lv : List (Nat × Value)} {st : List Value} {M : mHe} {q : mMd}
theorem e_len0 {n : Nat} {f : Nat → Int32} {x : Nat × Nat × Nat × Int × Nat × Nat × Nat} (hT : aTabOk) (hq : mjM y = some q) (he : aTab y pc = some (.arraylength, x)) (h1 : x.1 = 1) : mTo (some (n, f)) d (y, pc, lv, .ref 0 :: st) M (y, pc + 1, lv, .int (Int32.ofNat n) :: st) M := by
  refine mTo_step ?_
  rw [(e_eq hT hq he).1]
  refine mOr_r (fun s hs => by have := mG1 hs; cases this) (mOr_r (fun s hs => by have := mG2 hs; cases this) (mOr_r (fun s hs => by have := mG3 hs; cases this) (mOr_r (fun s hs => by have := mG4 hs; cases this) (mOr_l ?_))))
  simp only [mOp5, h1, if_true, mGo]
theorem e_ald0 {n : Nat} {f : Nat → Int32} {i : Int32} {x : Nat × Nat × Nat × Int × Nat × Nat × Nat} (hT : aTabOk) (hq : mjM y = some q) (he : aTab y pc = some (.iaload, x)) (h1 : x.1 = 1) (hi : 0 ≤ i.toInt ∧ i.toInt < n) : mTo (some (n, f)) d (y, pc, lv, .int i :: .ref 0 :: st) M (y, pc + 1, lv, .int (f i.toInt.toNat) :: st) M := by
  refine mTo_step ?_
  rw [(e_eq hT hq he).1]
  have hno : ¬ (i < 0 ∨ n ≤ i.toNatClampNeg) := by
    intro z
    rcases z with z | z
    · rw [Int32.lt_iff_toInt_lt] at z
      have : (0 : Int32).toInt = 0 := rfl
      omega
    · have : i.toNatClampNeg = i.toInt.toNat := rfl
      omega
  refine mOr_r (fun s hs => by have := mG1 hs; cases this) (mOr_r (fun s hs => by have := mG2 hs; cases this) (mOr_r (fun s hs => by have := mG3 hs; cases this) (mOr_r (fun s hs => by have := mG4 hs; cases this) (mOr_l ?_))))
  simp only [mOp5, h1, if_true, if_neg hno, mGo]
  rfl
def lwSw : Array Int := #[215, 248, 281, 314, 347, 390, 413, 436, 459, 502, 555, 588, 621, 664, 707, 740, 773, 796, 819, 842, 865, 888, 911, 944, 987, 1010, 1033, 1066, 1089, 1122, 1145, 1158, 1201, 1244, 1277, 1340, 1373, 1406, 1439, 1452, 1495, 1538, 1561, 1594, 1647, 1690, 1713, 1756, 1769, 1782]
def lwT : List Nat := [248, 281, 314, 347, 380, 423, 446, 469, 492, 535, 588, 621, 654, 697, 740, 773, 806, 829, 852, 875, 898, 921, 944, 977, 1020, 1043, 1066, 1099, 1122, 1155, 1178, 1191, 1234, 1277, 1310, 1373, 1406, 1439, 1472, 1485, 1528, 1571, 1594, 1627, 1680, 1723, 1746, 1789, 1802, 1815, 1838]
theorem lwSw_ok : ∀ k : Nat, k < 50 → ∃ off t, lwSw[k]? = some off ∧ mTg 33 off = some t ∧ t ∈ lwT := by
  intro k hk
  have h : (List.range 50).all (fun k => match lwSw[k]? with
    | some off => (match mTg 33 off with
      | some t => lwT.any (fun j => Nat.beq j t)
      | none => false)
    | none => false) = true := by decide +kernel
  have h1 := List.all_eq_true.mp h k (List.mem_range.mpr hk)
  split at h1
  · next off ho =>
    split at h1
    · next t ht =>
      obtain ⟨j, j1, j2⟩ := List.any_eq_true.mp h1
      rw [Nat.eq_of_beq_eq_true j2] at j1
      exact ⟨off, t, ho, ht, j1⟩
    · cases h1
  · cases h1
theorem e_sw {a : Int32} (hT : aTabOk) (hq : mjM 365 = some q) : ∃ t ∈ lwT, mTo sc d (365, 33, lv, .int a :: st) M (365, t, lv, st) M := by
  have key : ∀ t, (if a.toInt < 0 ∨ 49 < a.toInt then mBr 365 33 1805 lv st M else (match lwSw[(a.toInt - 0).toNat]? with
      | some off => mBr 365 33 off lv st M
      | none => none)) = mGo 365 t lv st M → mTo sc d (365, 33, lv, .int a :: st) M (365, t, lv, st) M := by
    intro t ht
    refine mTo_step ?_
    rw [(e_eq hT hq (show aTab 365 33 = some (.tableswitch 1805 0 49 lwSw, 215, 0, 0, 0, 0, 0, 0) from rfl)).1]
    refine mOr_r (fun s hs => by have := mG1 hs; cases this) (mOr_r (fun s hs => by have := mG2 hs; cases this) (mOr_r (fun s hs => by have := mG3 hs; cases this) (mOr_l ?_)))
    show (if a.toInt < 0 ∨ 49 < a.toInt then _ else _) = _
    exact ht
  by_cases h : a.toInt < 0 ∨ 49 < a.toInt
  · exact ⟨1838, by decide, key _ (by rw [if_pos h]; rfl)⟩
  · obtain ⟨off, t, h1, h2, h3⟩ := lwSw_ok (a.toInt - 0).toNat (by omega)
    exact ⟨t, h3, key _ (by rw [if_neg h, h1]; simp only [mBr, h2])⟩
end DISP
theorem lw_turn (hT : aTabOk) {n : Nat} {f : Nat → Int32} (hn : n ≤ 384) (hS : ∀ pc ∈ lwT, lwStep n f pc) {V : List Int} {clv : List (Nat × Value)} {M : mHe} (hst : tSt (n, f) [(n : Int)] V lwL clv M) : (∃ e, V[0]? = some e ∧ 0 ≤ e ∧ e ≤ 384) ∧ lwEnd n f V (365, 18, clv, []) M := by
  have hB := lwL_ok
  unfold lwLok at hB
  rw [Bool.and_eq_true] at hB
  have hB := hB.2
  obtain ⟨s1, s2, s3, s4⟩ := id hst
  split at hB
  · next a b l u g1 g2 g3 =>
    rw [Bool.and_eq_true, Bool.and_eq_true, Bool.and_eq_true, ieq_iff, ieq_iff] at hB
    obtain ⟨b1, b2, rfl, rfl⟩ := hB
    rw [aSame_eq b1] at g1
    rw [aSame_eq b2] at g2
    obtain ⟨c0, l0, v0⟩ := s2 _ _ g1
    rw [yV_ref v0] at l0
    obtain ⟨c3, l3, v3⟩ := s2 _ _ g2
    obtain ⟨x, rfl, -, e, e1, e2⟩ := yV_int rfl v3
    have hb := s1.2.2.1 1 0 384 e g3 e1
    have hV0 : V[0]? = some e := by simpa using e1
    have hx : x.toInt = e := by omega
    refine ⟨⟨e, hV0, hb⟩, ?_⟩
    have hq : mjM 365 = some (yL_law, cL_law, 4, (some .boolean), 13) := rfl
    have r1 := e_il1 (sc := some (n, f)) (d := 150) (lv := clv) (st := []) (M := M) (k := 3) hT hq (show aTab 365 18 = some (.iload_n 3, 1, 0, 0, 0, 0, 0, 0) from rfl) rfl l3
    have r2 := e_al1 (sc := some (n, f)) (d := 150) (lv := clv) (st := [.int x]) (M := M) (k := 0) hT hq (show aTab 365 19 = some (.aload_n 0, 1, 0, 0, 0, 0, 0, 0) from rfl) rfl l0
    have r3 := e_len0 (n := n) (f := f) (d := 150) (lv := clv) (st := [.int x]) (M := M) hT hq (show aTab 365 20 = some (.arraylength, 1, 0, 0, 0, 0, 0, 0) from rfl) rfl
    have r4 := e_st (sc := some (n, f)) (d := 150) (lv := clv) (st := [.int (Int32.ofNat n), .int x]) (M := M) hT hq (show aTab 365 21 = some (.bipush 6, 2, 0, 0, 0, 0, 0, 0) from rfl) (fr' := (365, 23, clv, [.int 6, .int (Int32.ofNat n), .int x])) (M' := M) rfl
    have r5 := e_st (sc := some (n, f)) (d := 150) (lv := clv) (st := [.int 6, .int (Int32.ofNat n), .int x]) (M := M) hT hq (show aTab 365 23 = some (.isub, 1, 0, 0, 0, 0, 0, 0) from rfl) (fr' := (365, 24, clv, [.int (Int32.ofNat n - 6), .int x])) (M' := M) rfl
    have hn6 : (Int32.ofNat n - 6).toInt = (n : Int) - 6 := by
      have h1 : (Int32.ofNat n).toInt = (n : Int) := Int32.toInt_ofNat_of_lt (by omega)
      have h2 : (6 : Int32).toInt = 6 := rfl
      rw [i32_sub (by rw [h1, h2]; omega) (by rw [h1, h2]; omega), h1, h2]
    have r05 := mTo_tr r1 (mTo_tr r2 (mTo_tr r3 (mTo_tr r4 r5)))
    by_cases hgt : (n : Int) - 6 < e
    · have r6 := e_icT (sc := some (n, f)) (d := 150) (lv := clv) (st := []) (M := M) (a := x) (b := Int32.ofNat n - 6) hT hq (show aTab 365 24 = some (.if_icmp .gt 1820, 3, 0, 0, 0, 0, 0, 0) from rfl) rfl (show mTg 24 1820 = some 1844 from rfl) (cdT (by show _ > _; rw [hn6, hx]; omega))
      have r7 := e_st (sc := some (n, f)) (d := 150) (lv := clv) (st := []) (M := M) hT hq (show aTab 365 1844 = some (.iconst 1, 1, 0, 0, 0, 0, 0, 0) from rfl) (fr' := (365, 1845, clv, [.int 1])) (M' := M) rfl
      have r8 := e_zret (sc := some (n, f)) (d := 150) (lv := clv) (M := M) (x := 1) hT hq (show aTab 365 1845 = some (.ireturn, 1, 0, 0, 0, 0, 0, 0) from rfl) ⟨rfl, rfl⟩ (Or.inr rfl)
      obtain ⟨N, h⟩ := (mTo_tr r05 (mTo_tr r6 r7)) _ _ r8
      exact Or.inl ⟨N, M, h, s3⟩
    · have r6 := e_icF (sc := some (n, f)) (d := 150) (lv := clv) (st := []) (M := M) (a := x) (b := Int32.ofNat n - 6) hT hq (show aTab 365 24 = some (.if_icmp .gt 1820, 3, 0, 0, 0, 0, 0, 0) from rfl) rfl (show mTg 24 1820 = some 1844 from rfl) (cdF (by show ¬ _ > _; rw [hn6, hx]; omega))
      have r7 := e_al1 (sc := some (n, f)) (d := 150) (lv := clv) (st := []) (M := M) (k := 0) hT hq (show aTab 365 27 = some (.aload_n 0, 1, 0, 0, 0, 0, 0, 0) from rfl) rfl l0
      have r8 := e_il1 (sc := some (n, f)) (d := 150) (lv := clv) (st := [.ref 0]) (M := M) (k := 3) hT hq (show aTab 365 28 = some (.iload_n 3, 1, 0, 0, 0, 0, 0, 0) from rfl) rfl l3
      have r9 := e_ald0 (n := n) (f := f) (d := 150) (lv := clv) (st := []) (M := M) (i := x) hT hq (show aTab 365 29 = some (.iaload, 1, 0, 0, 0, 0, 0, 0) from rfl) rfl (by omega)
      have r10 := e_st (sc := some (n, f)) (d := 150) (lv := clv) (st := [.int (f x.toInt.toNat)]) (M := M) hT hq (show aTab 365 30 = some (.bipush 63, 2, 0, 0, 0, 0, 0, 0) from rfl) (fr' := (365, 32, clv, [.int 63, .int (f x.toInt.toNat)])) (M' := M) rfl
      have r11 := e_st (sc := some (n, f)) (d := 150) (lv := clv) (st := [.int 63, .int (f x.toInt.toNat)]) (M := M) hT hq (show aTab 365 32 = some (.iand, 1, 0, 0, 0, 0, 0, 0) from rfl) (fr' := (365, 33, clv, [.int (f x.toInt.toNat &&& 63)])) (M' := M) rfl
      obtain ⟨t, t1, r12⟩ := e_sw (sc := some (n, f)) (d := 150) (lv := clv) (st := []) (M := M) (a := f x.toInt.toNat &&& 63) hT hq
      exact lwEnd_to (mTo_tr r05 (mTo_tr r6 (mTo_tr r7 (mTo_tr r8 (mTo_tr r9 (mTo_tr r10 (mTo_tr r11 r12))))))) (hS t t1 V clv M hst (fun e' he' => by rw [hV0] at he'; cases he'; omega))
  · cases hB
theorem lw_loop (hT : aTabOk) {n : Nat} {f : Nat → Int32} (hn : n ≤ 384) (hS : ∀ pc ∈ lwT, lwStep n f pc) : ∀ (k : Nat) (V : List Int) (clv : List (Nat × Value)) (M : mHe), tSt (n, f) [(n : Int)] V lwL clv M → (∀ e, V[0]? = some e → 384 - e ≤ (k : Int)) → ∃ N M', mRun (some (n, f)) N 150 (365, 18, clv, []) M = some (some (.int 1), M') ∧ yTy M' := by
  intro k
  induction k with
  | zero =>
    intro V clv M hst hk
    obtain ⟨⟨e, he, h1, h2⟩, h⟩ := lw_turn hT hn hS hst
    rcases h with h | ⟨V', clv', M', g1, g2, e', g3, g4⟩
    · exact h
    · obtain ⟨⟨e2, he2, h3, h4⟩, -⟩ := lw_turn hT hn hS g2
      have := hk e he
      have := g4 e he
      rw [g3] at he2
      cases he2
      omega
  | succ k ih =>
    intro V clv M hst hk
    obtain ⟨⟨e, he, h1, h2⟩, h⟩ := lw_turn hT hn hS hst
    rcases h with h | ⟨V', clv', M', g1, g2, e', g3, g4⟩
    · exact h
    · obtain ⟨N, M2, h3, h4⟩ := ih V' clv' M' g2 (fun e2 he2 => by
        rw [g3] at he2
        cases he2
        have := hk e he
        have := g4 e he
        omega)
      obtain ⟨N', h5⟩ := g1 N _ h3
      exact ⟨N', M2, h5, h4⟩
/-- what is given of the head -/
def lwPre (n : Nat) (f : Nat → Int32) : Prop := tLpOk (n, f) [(n : Int)] lwL ∧ lwL.1 = 365 ∧ lwL.2.1 = 18 ∧ lwL.2.2.2.1 = 1
theorem law_18 (hT : aTabOk) {M : mHe} (hM : yTy M) {n : Nat} {f : Nat → Int32} (hS : lwPre n f → ∀ pc ∈ lwT, lwStep n f pc) (hF : yF (n, f) [(n : Int)] lwH M) (hn : n ≤ 384) {lv : List (Nat × Value)} (l0 : mlg 0 lv = some (.ref 0)) (l1 : mlg 1 lv = some (.ref 9)) (l2 : mlg 2 lv = some (.ref 128)) (l3 : mlg 3 lv = some (.int 0)) : ∃ N M', mRun (some (n, f)) N 150 (365, 18, lv, []) M = some (some (.int 1), M') ∧ yTy M' := by
  have hE : xE [(n : Int)] ([(0, 384)], []) := by
    refine xE_of_list rfl (fun i l u e hb he => ?_)
    match i with
    | 0 => cases hb; cases he; omega
    | i + 1 => simp at hb
  have hL : yLv [(n : Int)] [(0, kR 0), (1, kR 9), (2, kR 128), (3, kI 0)] lv := yLv_cons l0 (yV_kR _ _) (yLv_cons l1 (yV_kR _ _) (yLv_cons l2 (yV_kR _ _) (yLv_cons l3 (yV_kI _ rfl) (yLv_nil _ _))))
  obtain ⟨⟨V, hV⟩, hLp, h1, h2, h3, -⟩ := tHead_ok (xs := (n, f)) (M := M) lwL0_is hE hL ⟨hM, hF⟩
  have hS := hS ⟨hLp, h1, h2, h3⟩
  obtain ⟨⟨e, he, h4, h5⟩, -⟩ := lw_turn hT hn hS hV
  exact lw_loop hT hn hS 384 V lv M hV (fun e' he' => by rw [he] at he'; cases he'; omega)
/-! contracts of this law alone -/
theorem lwC_ok (hT : aTabOk) (hK : ∀ c ∈ tKs_144, tCtOk c) : ∀ c ∈ lwC, tCtOk c := fun c hc => by
  rcases List.mem_append.mp hc with h | h
  · simp only [List.mem_cons, List.not_mem_nil, or_false] at h
  · exact hK c (List.mem_filter.mp h).1
/-! the cases -/
def lwG_0 : List Nat := [281, 314, 347, 380, 423, 446, 469, 588, 621]
set_option maxRecDepth 100000 in
theorem lwGok_0 : lwG_0.all lwCase = true := by decide +kernel
def lwG_1 : List Nat := [654, 697, 740, 773, 806, 829, 852, 875, 898]
set_option maxRecDepth 100000 in
theorem lwGok_1 : lwG_1.all lwCase = true := by decide +kernel
def lwG_2 : List Nat := [921, 944, 977, 1020, 1066, 1099, 1122, 1155, 1178]
set_option maxRecDepth 100000 in
theorem lwGok_2 : lwG_2.all lwCase = true := by decide +kernel
def lwG_3 : List Nat := [1191, 1234, 1277, 1310, 1373, 1406, 1439, 1472, 1485]
set_option maxRecDepth 100000 in
theorem lwGok_3 : lwG_3.all lwCase = true := by decide +kernel
def lwG_4 : List Nat := [1528, 1571, 1594, 1627, 1680, 1723, 1815, 1838]
set_option maxRecDepth 100000 in
theorem lwGok_4 : lwG_4.all lwCase = true := by decide +kernel
def lwG_5 : List Nat := [1746]
set_option maxRecDepth 100000 in
theorem lwGok_5 : lwG_5.all lwCase = true := by decide +kernel
def lwG_6 : List Nat := [1789]
set_option maxRecDepth 100000 in
theorem lwGok_6 : lwG_6.all lwCase = true := by decide +kernel
def lwG_7 : List Nat := [1802]
set_option maxRecDepth 100000 in
theorem lwGok_7 : lwG_7.all lwCase = true := by decide +kernel
def lwG_8 : List Nat := [492]
set_option maxRecDepth 100000 in
theorem lwGok_8 : lwG_8.all lwCase = true := by decide +kernel
def lwG_9 : List Nat := [248]
set_option maxRecDepth 100000 in
theorem lwGok_9 : lwG_9.all lwCase = true := by decide +kernel
def lwG_10 : List Nat := [535]
set_option maxRecDepth 100000 in
theorem lwGok_10 : lwG_10.all lwCase = true := by decide +kernel
def lwSp : List Nat := [1043]
theorem lw_auto : ∀ pc ∈ lwG_0 ++ (lwG_1 ++ (lwG_2 ++ (lwG_3 ++ (lwG_4 ++ (lwG_5 ++ (lwG_6 ++ (lwG_7 ++ (lwG_8 ++ (lwG_9 ++ (lwG_10)))))))))), lwCase pc = true := List.forall_mem_append.mpr ⟨List.all_eq_true.mp lwGok_0, List.forall_mem_append.mpr ⟨List.all_eq_true.mp lwGok_1, List.forall_mem_append.mpr ⟨List.all_eq_true.mp lwGok_2, List.forall_mem_append.mpr ⟨List.all_eq_true.mp lwGok_3, List.forall_mem_append.mpr ⟨List.all_eq_true.mp lwGok_4, List.forall_mem_append.mpr ⟨List.all_eq_true.mp lwGok_5, List.forall_mem_append.mpr ⟨List.all_eq_true.mp lwGok_6, List.forall_mem_append.mpr ⟨List.all_eq_true.mp lwGok_7, List.forall_mem_append.mpr ⟨List.all_eq_true.mp lwGok_8, List.forall_mem_append.mpr ⟨List.all_eq_true.mp lwGok_9, List.all_eq_true.mp lwGok_10⟩⟩⟩⟩⟩⟩⟩⟩⟩⟩
theorem lw_split : lwT.all (fun pc => (lwSp ++ (lwG_0 ++ (lwG_1 ++ (lwG_2 ++ (lwG_3 ++ (lwG_4 ++ (lwG_5 ++ (lwG_6 ++ (lwG_7 ++ (lwG_8 ++ (lwG_9 ++ (lwG_10)))))))))))).any (fun j => Nat.beq j pc)) = true := by decide +kernel
/-! the text's case: behind it the tape is empty -/
def txW : List tG := [(120, 6, 6, 1, 0), (120, 1010, 3409, 1, 0), (120, 3800, 3999, 1, 0), (119, 14, 24, 1, 0)]
def txPost : Prop := ∀ (M : mHe), yTy M → ∀ a : Int32, ∃ (N : Nat) (x : Int32) (M' : mHe), mRun none N 140 (319, 0, lv_args 0 [.ref 128, .int a], []) M = some (some (.int x), M') ∧ yTy M' ∧ yFr txW M M' ∧ ∀ xs : tXs, yRd xs M' 119 14 = some (.int 0)
def lwPS (y pc : Nat) : Option (tAn ⊕ Option Nat) := bif Nat.beq y 365 && Nat.beq pc 1059 then some (.inr none) else lwP y pc
def lwTxC (lf : tLf_) : Bool := match lf.1 with
  | .inl (y, pc, lv, [a, b]) => Nat.beq y 365 && (Nat.beq pc 1059 && (tIsI a && (aSame b (kR 128) && (match tRun (lwP, lwC) 20000 true 150 [] [lwL] (365, 1062, lv, [(2, 0, -2147483648, 2147483647)]) (((119, 0, 14, 0), kI 0) :: lf.2.1.filter (fun q => tMissW lf.2.2 txW q.1)) lf.2.2 with
    | some l => l.all (fun lf => lwRes 1 1 lf)
    | none => false))))
  | _ => false
def lwTx : Bool := match tRun (lwPS, lwC) 20000 true 150 [] [lwL] (365, 1043, lwL.2.2.2.2.1, []) lwL.2.2.2.2.2.1 lwCs with
  | none => false
  | some l => l.all (fun lf => lwRes 1 1 lf || lwTxC lf)
set_option maxRecDepth 100000 in
theorem lwTx_ok : lwTx = true := by decide +kernel
theorem lwTx_st (hT : aTabOk) (hC : ∀ c ∈ lwC, tCtOk c) (hX : txPost) {n : Nat} {f : Nat → Int32} (hn : n ≤ 384) (hP : lwPre n f) : lwStep n f 1043 := by
  intro V clv M hst hle
  obtain ⟨s1, s2, s3, s4⟩ := id hst
  have hV := lwV_ne s1
  have hA := lwTx_ok
  unfold lwTx at hA
  split at hA
  · cases hA
  next lfs hr =>
  have hL1 := hP.2
  rcases tRun_ok (K := (lwPS, lwC)) (xs := (n, f)) hT hC 20000 true (some (n, f)) 150 [] [lwL] (365, 1043, lwL.2.2.2.2.1, []) lwL.2.2.2.2.2.1 lwCs lfs ([(n : Int)] ++ V) clv [] M hr (lwCs_ok hn s1 hle) s2 trivial ⟨s3, by rw [lwL_h]; exact s4⟩ (fun _ => ⟨rfl, rfl, by show n < 2 ^ 31; omega⟩) (fun L hL => by
    rw [List.mem_singleton] at hL
    subst hL
    refine ⟨by rw [hL1.2.2]; simp, ?_⟩
    rw [hL1.2.2]
    exact hP.1) with h | h
  · obtain ⟨lf, f1, f2⟩ := h
    have f3 := List.all_eq_true.mp hA lf f1
    rw [Bool.or_eq_true] at f3
    rcases f3 with f3 | f3
    · obtain ⟨X, N, x, M', m1, m2, m3, m4⟩ := lwRes_ok f3 f2
      have hx : x = 1 := i32eq (by show x.toInt = 1; omega)
      rw [hx] at m2
      exact Or.inl ⟨N, M', m2, m4.1⟩
    · obtain ⟨l1, l2, l3⟩ := lf
      obtain ⟨X, g0, g1⟩ := f2
      unfold lwTxC at f3
      simp only at f3 g0 g1
      split at f3
      · next y pc lv a b =>
        simp only at g1
        obtain ⟨lv', st', M', m1, m2, m3, m4, -⟩ := g1
        rw [Bool.and_eq_true, Bool.and_eq_true, Bool.and_eq_true, Bool.and_eq_true] at f3
        obtain ⟨h1, h2, h3, h4, h5⟩ := f3
        have h1 := Nat.eq_of_beq_eq_true h1
        have h2 := Nat.eq_of_beq_eq_true h2
        subst h1; subst h2
        split at h5
        · next l hr2 =>
          match st', m3 with
          | [v1, v2], m3 =>
            obtain ⟨x, rfl⟩ := yV_int2 h3 m3.1
            have hv2 := m3.2.1
            rw [aSame_eq h4] at hv2
            rw [yV_ref hv2] at m1
            obtain ⟨N, r, M2, p1, p2, p3, p4⟩ := hX M' m4.1 x
            obtain ⟨fs, hfs, -⟩ := yTy_obj m4.1 (rfl : tTy 119 = some (.inr (12, _)))
            have call := e_call (sc := some (n, f)) (d := 149) (lv := lv') (st := [.int x, .ref 128]) (M := M') hT (y := 365) (pc := 1059) (q := (yL_law, cL_law, 4, (some .boolean), 13)) rfl (show aTab 365 1059 = some (.invokevirtual 120, 3, 1, 319, 0, 1, 5, 12) from rfl) rfl ⟨by decide, Nat.le_of_ble_eq_true rfl⟩ hfs (Nat.le_of_ble_eq_true rfl) (Nat.le_of_ble_eq_true rfl) ⟨by decide, by decide⟩ (mRun_dm p1 (show 140 ≤ 149 by decide))
            refine lwEnd_to (mTo_tr m1 call) (lwRun_ok hT hC hn hP.1 hP.2 (V := V) (X := X) (fr := (365, 1062, lv, [(2, 0, -2147483648, 2147483647)])) hr2 h5 hV g0 m2 ⟨⟨rfl, i32_lo _, i32_hi _⟩, trivial⟩ ⟨p2, fun q hq => ?_⟩)
            rcases List.mem_cons.mp hq with rfl | hq
            · exact ⟨14, rfl, .int 0, p4 (n, f), yV_kI _ rfl⟩
            · exact yF_miss g0 m4.2 p3 q hq
        · cases h5
      · cases f3
  · rcases h with ⟨V', clv', M', h1, h2, ⟨e', h3, h4⟩, -⟩ | h
    · rw [hL1.1, hL1.2.1] at h1
      rw [hL1.2.2] at h2 h4
      refine Or.inr ⟨V', clv', M', h1, h2, e', h3, fun e he => h4 e ?_⟩
      show ([(n : Int)] ++ V)[1 + 0]? = some e
      cases V with
      | nil => exact absurd rfl hV
      | cons v V => simpa using he
    · exact h.elim
theorem lw_special (hT : aTabOk) (hK : ∀ c ∈ tKs_144, tCtOk c) (hX : txPost) {n : Nat} {f : Nat → Int32} (hn : n ≤ 384) (hP : lwPre n f) : ∀ pc ∈ lwSp, lwStep n f pc := fun pc hpc => by
  simp only [lwSp, List.mem_cons, List.not_mem_nil, or_false] at hpc
  rcases hpc with rfl
  · exact lwTx_st hT (lwC_ok hT hK) hX hn hP
theorem lw_cases (hT : aTabOk) (hK : ∀ c ∈ tKs_144, tCtOk c) {n : Nat} {f : Nat → Int32} (hn : n ≤ 384) (hP : lwPre n f) (hS : ∀ pc ∈ lwSp, lwStep n f pc) : ∀ pc ∈ lwT, lwStep n f pc := fun pc hpc => by
  obtain ⟨j, j1, j2⟩ := List.any_eq_true.mp (List.all_eq_true.mp lw_split pc hpc)
  rw [Nat.eq_of_beq_eq_true j2] at j1
  rcases List.mem_append.mp j1 with h | h
  · exact hS pc h
  · exact lwCase_ok hT (lwC_ok hT hK) hn hP.1 hP.2 (lw_auto pc h)
