/-! THE CASES OF SHEETS -/
theorem hB_wk {yx ym na : Nat} (h : hBoth yx ym na true) : hBoth yx ym na false := fun M hM hR as ha => by
  obtain ⟨K1, M1, K2, M2, r1, r2, a1, a2, a3, a4, a5, -⟩ := h M hM hR as ha
  exact ⟨K1, M1, K2, M2, r1, r2, a1, a2, a3, a4, a5, fun z => by cases z⟩
/-- the rest of what is held stays -/
theorem lwR_mk {M M2 : mHe} (hR : lwR M) (h1 : shRP (rdI M2) (rdI M2 120)) (h2 : rdI M2 0 2 = rdI M 0 2) (h3 : rdI M2 119 3 = rdI M 119 3) (h4 : ∀ c k, (54 ≤ c ∧ c ≤ 80) ∨ c = 121 → rdI M2 c k = rdI M c k) : lwR M2 := by
  refine ⟨h1, by rw [h2, h3]; exact hR.2.1, fun hk => ?_⟩
  rw [h2] at hk
  exact shRP_cg (fun p hp k _ _ => h4 _ k (Or.inl (by
    have ha : lwSC.all (fun p => Nat.ble 1 p.1 && Nat.ble p.1 27) = true := by decide
    have hb := List.all_eq_true.mp ha p hp
    rw [Bool.and_eq_true] at hb
    have h1 := Nat.le_of_ble_eq_true hb.1
    have h2 := Nat.le_of_ble_eq_true hb.2
    omega))) (fun _ _ _ k _ _ => h4 121 k (Or.inr rfl)) (hR.2.2 hk)
theorem hB_member (hT : aTabOk) : hBoth 183 257 2 false := fun M hM hR as ha => by
  match as, ha with
  | [p, t], _ =>
    obtain ⟨N, P, Z, ⟨bN, bP, bZ⟩, ⟨n1, n2⟩, ⟨p1, p2⟩, ⟨z1, z2⟩, ⟨m1, m2, m3⟩, rT, rK, rZ⟩ := id hR.1
    obtain ⟨K1, r1, M1, q1, ⟨x1, rfl⟩, t1, f1⟩ := s_end (xmb_run hT hM rfl n1 bN (p := p) (t := t)) (show 20 ≤ 149 by decide)
    have fS : ∀ k, rdI M1 120 k = rdI M 120 k := fun k => by
      rcases f1 with ⟨-, -, f⟩ | ⟨-, f⟩
      · rw [f]; rfl
      · rw [f]
    obtain ⟨K2, r2, M2, q2, ⟨x2, rfl⟩, t2, f2⟩ := s_end (rmb_run hT t1 rfl (by rw [fS]; exact n2) bN (p := p) (t := t)) (show 20 ≤ 149 by decide)
    refine ⟨K1, M1, K2, M2, x1, x2, q1, t1, q2, t2, ?_, fun z => by cases z⟩
    rcases f1 with ⟨ok, hN, f1⟩ | ⟨nok, f1⟩
    · rcases f2 with ⟨-, -, f2⟩ | ⟨nok, -⟩
      · have hC : ∀ c k, c ≠ 120 → rdI M2 c k = xmbG (rdI M) N p t c k := fun c k hc => by
          rw [f2]
          unfold rmbG
          rw [up2_c _ _ hc, up2_c _ _ hc, up2_c _ _ hc, up2_c _ _ hc, up2_c _ _ hc, up2_c _ _ hc, f1]
        have hS0 : ∀ k, k ≠ 3 → (k < 20 + 5 * N ∨ 24 + 5 * N < k) → rdI M2 120 k = rdI M 120 k := fun k h3 hk => by
          rw [f2]
          unfold rmbG
          rw [up2_k _ _ h3, up2_k _ _ (by omega), up2_k _ _ (by omega), up2_k _ _ (by omega), up2_k _ _ (by omega), up2_k _ _ (by omega), fS]
        have hS1 : rdI M2 120 (21 + 5 * N) = t := by
          rw [f2]
          unfold rmbG
          rw [up2_k _ _ (by omega), up2_k _ _ (by omega), up2_k _ _ (by omega), up2_k _ _ (by omega), up2_eq]
        refine lwR_mk hR ⟨N + 1, P, Z, ⟨by omega, bP, bZ⟩, ⟨by rw [hC 2 0 (by decide)]; rfl, by rw [f2]; exact up2_eq _ _ _ _⟩, ⟨by rw [hC 11 0 (by decide)]; exact p1, by rw [hS0 5 (by decide) (by omega)]; exact p2⟩, ⟨by rw [hC 24 0 (by decide)]; exact z1, by rw [hS0 7 (by decide) (by omega)]; exact z2⟩, ⟨by rw [hC 1 0 (by decide), hS0 0 (by decide) (by omega)]; exact m1, by rw [hS0 0 (by decide) (by omega)]; exact m2, by rw [hS0 0 (by decide) (by omega)]; exact m3⟩, fun i hi => ?_, fun j hj => ?_, fun j hj => ?_⟩ (by rw [hC 0 2 (by decide)]; rfl) (by rw [hC 119 3 (by decide)]; rfl) (fun c k hc => ?_)
        · by_cases e : i = N
          · subst e
            rw [hC 4 i (by decide), hS1]
            unfold xmbG
            rw [up2_c _ _ (by decide), up2_c _ _ (by decide), up2_c _ _ (by decide), up2_c _ _ (by decide), up2_eq]
          · rw [hC 4 i (by decide), hS0 (21 + 5 * i) (by omega) (by omega)]
            unfold xmbG
            rw [up2_c _ _ (by decide), up2_c _ _ (by decide), up2_c _ _ (by decide), up2_c _ _ (by decide), up2_k _ _ e, up2_c _ _ (by decide)]
            exact rT i (by omega)
        · rw [hC 12 j (by decide), hC 18 j (by decide), hS0 (160 + 10 * j) (by omega) (by omega), hS0 (166 + 10 * j) (by omega) (by omega)]
          exact rK j hj
        · rw [hC 25 j (by decide), hC 26 j (by decide), hC 27 j (by decide), hS0 (920 + 3 * j) (by omega) (by omega), hS0 (921 + 3 * j) (by omega) (by omega), hS0 (922 + 3 * j) (by omega) (by omega)]
          exact rZ j hj
        · by_cases e : c = 120
          · omega
          · rw [hC c k e]
            unfold xmbG
            rw [up2_c _ _ (by omega), up2_c _ _ (by omega), up2_c _ _ (by omega), up2_c _ _ (by omega), up2_c _ _ (by omega), up2_c _ _ (by omega)]
      · exact absurd ⟨ok, hN⟩ nok
    · rcases f2 with ⟨ok, hN, -⟩ | ⟨-, f2⟩
      · exact absurd ⟨ok, hN⟩ nok
      · exact lwR_keep (fun p _ k _ _ => by rw [f2, f1]) hR
theorem hB_print (hT : aTabOk) : hBoth 196 276 3 true := fun M hM hR as ha => by
  match as, ha with
  | [p, t, l], _ =>
    obtain ⟨N, P, Z, ⟨bN, bP, bZ⟩, ⟨n1, n2⟩, ⟨p1, p2⟩, ⟨z1, z2⟩, ⟨m1, m2, m3⟩, rT, rK, rZ⟩ := id hR.1
    obtain ⟨K1, r1, M1, q1, t1, s1, l1, c1, rfl, f1⟩ := s_end (xpn_run hT hM rfl p1 bP z1 bZ (p := p) (t := t) (l := l)) (show 30 ≤ 149 by decide)
    have fS : ∀ k, rdI M1 120 k = rdI M 120 k := fun k => by
      rw [f1]
      match s1 with
      | 0 => rfl
      | 1 => rfl
      | 2 => rfl
      | _ + 3 => rfl
    obtain ⟨K2, r2, M2, q2, t2, s2, l2, c2, rfl, f2⟩ := s_end (rpn_run hT t1 rfl (by rw [fS]; exact p2) bP (by rw [fS]; exact z2) bZ (p := p) (t := t) (l := l)) (show 30 ≤ 149 by decide)
    have hs := pnC_1 bZ l2 l1 c2 c1
    subst hs
    refine ⟨K1, M1, K2, M2, _, _, q1, t1, q2, t2, ?_, fun _ => rfl⟩
    rw [fS, ← m1] at f2
    match s2, l2, c1, f1, f2 with
    | 0, _, _, f1, f2 =>
      have f1 : rdI M1 = rdI M := f1
      have f2 : rdI M2 = rdI M1 := f2
      exact lwR_keep (fun p _ k _ _ => by rw [f2, f1]) hR
    | 1, _, _, f1, f2 =>
      have f1 : rdI M1 = rdI M := f1
      have f2 : rdI M2 = rdI M1 := f2
      exact lwR_keep (fun p _ k _ _ => by rw [f2, f1]) hR
    | 2, _, ⟨⟨op, _, _⟩, _, _⟩, f1, f2 =>
      obtain ⟨pp, hpp⟩ : ∃ x, x = p.toInt.toNat := ⟨_, rfl⟩
      have f1 : rdI M1 = up2 (rdI M) 18 p.toInt.toNat (rdI M 18 p.toInt.toNat ||| (1 <<< (t &&& 31))) := f1
      have f2 : rdI M2 = up2 (rdI M1) 120 (166 + 10 * p.toInt.toNat) (rdI M1 120 (166 + 10 * p.toInt.toNat) ||| (1 <<< (t &&& 31))) := f2
      rw [← hpp] at f1 f2
      rw [fS] at f2
      have hC : ∀ c k, c ≠ 120 → rdI M2 c k = up2 (rdI M) 18 pp (rdI M 18 pp ||| (1 <<< (t &&& 31))) c k := fun c k hc => by rw [f2, up2_c _ _ hc, f1]
      have hS : ∀ k, k ≠ 166 + 10 * pp → rdI M2 120 k = rdI M 120 k := fun k hk => by rw [f2, up2_k _ _ hk, fS]
      refine lwR_mk hR ⟨N, P, Z, ⟨bN, bP, bZ⟩, ⟨by rw [hC 2 0 (by decide)]; exact n1, by rw [hS 3 (by omega)]; exact n2⟩, ⟨by rw [hC 11 0 (by decide)]; exact p1, by rw [hS 5 (by omega)]; exact p2⟩, ⟨by rw [hC 24 0 (by decide)]; exact z1, by rw [hS 7 (by omega)]; exact z2⟩, ⟨by rw [hC 1 0 (by decide), hS 0 (by omega)]; exact m1, by rw [hS 0 (by omega)]; exact m2, by rw [hS 0 (by omega)]; exact m3⟩, fun i hi => ?_, fun j hj => ?_, fun j hj => ?_⟩ (by rw [hC 0 2 (by decide)]; rfl) (by rw [hC 119 3 (by decide)]; rfl) (fun c k hc => ?_)
      · rw [hC 4 i (by decide), hS (21 + 5 * i) (by omega), up2_c _ _ (by decide)]
        exact rT i hi
      · rw [hC 12 j (by decide), hC 18 j (by decide), hS (160 + 10 * j) (by omega), up2_c _ _ (by decide)]
        refine ⟨(rK j hj).1, ?_⟩
        by_cases e : j = pp
        · subst e
          rw [up2_eq, f2, up2_eq, (rK j hj).2]
        · rw [up2_k _ _ e, hS (166 + 10 * j) (by omega)]
          exact (rK j hj).2
      · rw [hC 25 j (by decide), hC 26 j (by decide), hC 27 j (by decide), up2_c _ _ (by decide), up2_c _ _ (by decide), up2_c _ _ (by decide), hS (920 + 3 * j) (by omega), hS (921 + 3 * j) (by omega), hS (922 + 3 * j) (by omega)]
        exact rZ j hj
      · by_cases e : c = 120
        · omega
        · rw [hC c k e, up2_c _ _ (by omega)]
    | s + 3, _, ⟨⟨op, ot, ol⟩, oz, o0⟩, f1, f2 =>
      have f1 : rdI M1 = up2 (up2 (up2 (up2 (rdI M) 25 Z p) 26 Z t) 27 Z (rdI M 1 0 + l)) 24 0 (Int32.ofNat (Z + 1)) := f1
      have f2 : rdI M2 = up2 (up2 (up2 (up2 (rdI M1) 120 (920 + 3 * Z) p) 120 (921 + 3 * Z) t) 120 (922 + 3 * Z) (rdI M 1 0 + l)) 120 7 (Int32.ofNat (Z + 1)) := f2
      have hC : ∀ c k, c ≠ 120 → rdI M2 c k = up2 (up2 (up2 (up2 (rdI M) 25 Z p) 26 Z t) 27 Z (rdI M 1 0 + l)) 24 0 (Int32.ofNat (Z + 1)) c k := fun c k hc => by rw [f2, up2_c _ _ hc, up2_c _ _ hc, up2_c _ _ hc, up2_c _ _ hc, f1]
      have hS : ∀ k, k ≠ 7 → (k < 920 + 3 * Z ∨ 922 + 3 * Z < k) → rdI M2 120 k = rdI M 120 k := fun k h7 hk => by rw [f2, up2_k _ _ h7, up2_k _ _ (by omega), up2_k _ _ (by omega), up2_k _ _ (by omega), fS]
      refine lwR_mk hR ⟨N, P, Z + 1, ⟨bN, bP, by omega⟩, ⟨by rw [hC 2 0 (by decide)]; exact n1, by rw [hS 3 (by decide) (by omega)]; exact n2⟩, ⟨by rw [hC 11 0 (by decide)]; exact p1, by rw [hS 5 (by decide) (by omega)]; exact p2⟩, ⟨by rw [hC 24 0 (by decide)]; rfl, by rw [f2]; exact up2_eq _ _ _ _⟩, ⟨by rw [hC 1 0 (by decide), hS 0 (by decide) (by omega)]; exact m1, by rw [hS 0 (by decide) (by omega)]; exact m2, by rw [hS 0 (by decide) (by omega)]; exact m3⟩, fun i hi => ?_, fun j hj => ?_, fun j hj => ?_⟩ (by rw [hC 0 2 (by decide)]; rfl) (by rw [hC 119 3 (by decide)]; rfl) (fun c k hc => ?_)
      · rw [hC 4 i (by decide), hS (21 + 5 * i) (by omega) (by omega), up2_c _ _ (by decide), up2_c _ _ (by decide), up2_c _ _ (by decide), up2_c _ _ (by decide)]
        exact rT i hi
      · rw [hC 12 j (by decide), hC 18 j (by decide), hS (160 + 10 * j) (by omega) (by omega), hS (166 + 10 * j) (by omega) (by omega), up2_c _ _ (by decide), up2_c _ _ (by decide), up2_c _ _ (by decide), up2_c _ _ (by decide), up2_c _ _ (by decide), up2_c _ _ (by decide), up2_c _ _ (by decide), up2_c _ _ (by decide)]
        exact rK j hj
      · rw [hC 25 j (by decide), hC 26 j (by decide), hC 27 j (by decide)]
        by_cases e : j = Z
        · subst e
          have a0 : rdI M2 120 (920 + 3 * j) = p := by rw [f2, up2_k _ _ (by omega), up2_k _ _ (by omega), up2_k _ _ (by omega), up2_eq]
          have a1 : rdI M2 120 (921 + 3 * j) = t := by rw [f2, up2_k _ _ (by omega), up2_k _ _ (by omega), up2_eq]
          have a2 : rdI M2 120 (922 + 3 * j) = rdI M 1 0 + l := by rw [f2, up2_k _ _ (by omega), up2_eq]
          rw [a0, a1, a2, up2_c _ _ (by decide), up2_c _ _ (by decide), up2_c _ _ (by decide), up2_eq, up2_c _ _ (by decide), up2_c _ _ (by decide), up2_eq, up2_c _ _ (by decide), up2_eq]
          exact ⟨rfl, rfl, rfl, op.2⟩
        · rw [hS (920 + 3 * j) (by omega) (by omega), hS (921 + 3 * j) (by omega) (by omega), hS (922 + 3 * j) (by omega) (by omega), up2_c _ _ (by decide), up2_c _ _ (by decide), up2_c _ _ (by decide), up2_k _ _ e, up2_c _ _ (by decide), up2_c _ _ (by decide), up2_k _ _ e, up2_c _ _ (by decide), up2_c _ _ (by decide), up2_k _ _ e, up2_c _ _ (by decide), up2_c _ _ (by decide)]
          exact rZ j (by omega)
      · by_cases e : c = 120
        · omega
        · rw [hC c k e, up2_c _ _ (by omega), up2_c _ _ (by omega), up2_c _ _ (by omega), up2_c _ _ (by omega)]
theorem hB_read (hT : aTabOk) : hBoth 197 278 2 true := fun M hM hR as ha => by
  match as, ha with
  | [m, p], _ =>
    obtain ⟨N, P, Z, ⟨bN, bP, bZ⟩, ⟨n1, n2⟩, ⟨p1, p2⟩, ⟨z1, z2⟩, ⟨m1, m2, m3⟩, rT, rK, rZ⟩ := id hR.1
    obtain ⟨K1, r1, M1, q1, x1, rfl, rfl, f1⟩ := s_end (xrd_run hT hM rfl n1 bN p1 bP (m := m) (p := p)) (show 40 ≤ 149 by decide)
    obtain ⟨K2, r2, M2, q2, x2, rfl, rfl, f2⟩ := s_end (rrd_run hT hM rfl n2 bN p2 bP (m := m) (p := p)) (show 40 ≤ 149 by decide)
    exact ⟨K1, _, K2, _, x1, x2, q1, hM, q2, hM, hR, fun _ => rdQ_1 (fun i j hi hj => by
      show rdI M 4 i &&& rdI M 18 j = rdI M 120 (21 + 5 * i) &&& rdI M 120 (166 + 10 * j)
      rw [rT i hi, (rK j hj).2]) f1 f2⟩
theorem ft_cg {kd kd' : Nat → Int32} {P : Nat} (h : ∀ p, p < P → kd p = kd' p) {k a b : Int32} (z : ftP kd P k a b) : ftP kd' P k a b := by
  have hl : lnP kd P a → lnP kd' P a := fun y => ⟨y.1, by rw [← h _ (by have := y.1; omega)]; exact y.2⟩
  unfold ftP at z ⊢
  rcases z with z | z | z | z | z | z | z
  · exact Or.inl z
  · exact Or.inr (Or.inl z)
  · exact Or.inr (Or.inr (Or.inl ⟨z.1, hl z.2.1, z.2.2⟩))
  · exact Or.inr (Or.inr (Or.inr (Or.inl ⟨z.1, hl z.2.1, z.2.2⟩)))
  · exact Or.inr (Or.inr (Or.inr (Or.inr (Or.inl ⟨z.1, hl z.2.1, z.2.2⟩))))
  · refine Or.inr (Or.inr (Or.inr (Or.inr (Or.inr (Or.inl ⟨z.1, z.2.1, z.2.2.1, ?_⟩)))))
    have e : kdO kd' P b = kdO kd P b := by
      unfold kdO
      by_cases c : 0 ≤ b.toInt ∧ b.toInt < (P : Int)
      · rw [if_pos c, if_pos c, h _ (by omega)]
      · rw [if_neg c, if_neg c]
    rw [e]
    exact z.2.2.2
  · exact Or.inr (Or.inr (Or.inr (Or.inr (Or.inr (Or.inr ⟨z.1, hl z.2.1, z.2.2⟩)))))
theorem hg_cg {kd kd' : Nat → Int32} {P : Nat} (h : ∀ p, p < P → kd p = kd' p) {l b on md : Int32} (z : hgP kd P l b on md) : hgP kd' P l b on md := by
  obtain ⟨⟨y1, y2⟩, ⟨y3, y4⟩, y5⟩ := z
  exact ⟨⟨⟨y1.1, by rw [← h _ (by have := y1.1; omega)]; exact y1.2⟩, y2⟩, ⟨y3, by rw [← h _ (by omega)]; exact y4⟩, y5⟩
/-- a paper put behind the others on both sides -/
theorem lwR_np {M M1 M2 : mHe} (hR : lwR M) {N P Z : Nat} (bN : N ≤ 20) (bZ : Z ≤ 30) (hP : P < 40) (n : rdI M 2 0 = Int32.ofNat N ∧ rdI M 120 3 = Int32.ofNat N) (z : rdI M 24 0 = Int32.ofNat Z ∧ rdI M 120 7 = Int32.ofNat Z) (m : rdI M 1 0 = rdI M 120 0 ∧ 0 ≤ (rdI M 120 0).toInt ∧ (rdI M 120 0).toInt ≤ 9999) (rT : ∀ i, i < N → rdI M 4 i = rdI M 120 (21 + 5 * i)) (rK : ∀ p, p < P → rdI M 12 p = rdI M 120 (160 + 10 * p) ∧ rdI M 18 p = rdI M 120 (166 + 10 * p)) (rZ : ∀ i, i < Z → rdI M 25 i = rdI M 120 (920 + 3 * i) ∧ rdI M 26 i = rdI M 120 (921 + 3 * i) ∧ rdI M 27 i = rdI M 120 (922 + 3 * i) ∧ (rdI M 120 (920 + 3 * i)).toInt < (P : Int)) {k a b on on' md : Int32} (f1 : rdI M1 = xnpG (rdI M) P k a b on md) (f2 : rdI M2 = rnpG (rdI M1) P k a b on' md) : lwR M2 := by
  have hS1 : ∀ k, rdI M1 120 k = rdI M 120 k := fun k => by
    rw [f1]
    unfold xnpG
    rw [up2_c _ _ (by decide), xnpS_c (by decide)]
    unfold xnpA
    rw [up2_c _ _ (by decide), up2_c _ _ (by decide), up2_c _ _ (by decide), up2_c _ _ (by decide), up2_c _ _ (by decide), up2_c _ _ (by decide), up2_c _ _ (by decide), up2_c _ _ (by decide), up2_c _ _ (by decide), up2_c _ _ (by decide)]
  have hC : ∀ c k', c ≠ 120 → rdI M2 c k' = xnpG (rdI M) P k a b on md c k' := fun c k' hc => by
    rw [f2]
    unfold rnpG
    rw [up2_c _ _ hc, rnpS_c hc]
    unfold rnpA
    rw [up2_c _ _ hc, up2_c _ _ hc, up2_c _ _ hc, up2_c _ _ hc, up2_c _ _ hc, up2_c _ _ hc, up2_c _ _ hc, up2_c _ _ hc, up2_c _ _ hc, up2_c _ _ hc, f1]
  have hC0 : ∀ c k', c ≠ 120 → (c < 11 ∨ 22 < c) → rdI M2 c k' = rdI M c k' := fun c k' hc h => by
    rw [hC c k' hc]
    unfold xnpG
    rw [up2_c _ _ (by omega), xnpS_c (by omega)]
    unfold xnpA
    rw [up2_c _ _ (by omega), up2_c _ _ (by omega), up2_c _ _ (by omega), up2_c _ _ (by omega), up2_c _ _ (by omega), up2_c _ _ (by omega), up2_c _ _ (by omega), up2_c _ _ (by omega), up2_c _ _ (by omega), up2_c _ _ (by omega)]
  have hS0 : ∀ k, k ≠ 5 → (k < 160 + 10 * P ∨ 169 + 10 * P < k) → (k < 560 ∨ 920 ≤ k) → rdI M2 120 k = rdI M 120 k := fun k h5 h1 h2 => by
    rw [f2]
    unfold rnpG
    rw [up2_k _ _ h5, rnpS_k (by omega)]
    unfold rnpA
    rw [up2_k _ _ (by omega), up2_k _ _ (by omega), up2_k _ _ (by omega), up2_k _ _ (by omega), up2_k _ _ (by omega), up2_k _ _ (by omega), up2_k _ _ (by omega), up2_k _ _ (by omega), up2_k _ _ (by omega), up2_k _ _ (by omega), hS1]
  have hSk : ∀ j, j < 10 → rdI M2 120 (160 + 10 * P + j) = rnpA (rdI M1) P k a b on' md 120 (160 + 10 * P + j) := fun j hj => by
    rw [f2]
    unfold rnpG
    rw [up2_k _ _ (by omega), rnpS_k (by omega)]
  refine lwR_mk hR ⟨N, P + 1, Z, ⟨bN, by omega, bZ⟩, ⟨by rw [hC0 2 0 (by decide) (by decide)]; exact n.1, by rw [hS0 3 (by decide) (by omega) (by omega)]; exact n.2⟩, ⟨by rw [hC 11 0 (by decide)]; exact up2_eq _ _ _ _, by rw [f2]; exact up2_eq _ _ _ _⟩, ⟨by rw [hC0 24 0 (by decide) (by decide)]; exact z.1, by rw [hS0 7 (by decide) (by omega) (by omega)]; exact z.2⟩, ⟨by rw [hC0 1 0 (by decide) (by decide), hS0 0 (by decide) (by omega) (by omega)]; exact m.1, by rw [hS0 0 (by decide) (by omega) (by omega)]; exact m.2.1, by rw [hS0 0 (by decide) (by omega) (by omega)]; exact m.2.2⟩, fun i hi => ?_, fun j hj => ?_, fun j hj => ?_⟩ (hC0 0 2 (by decide) (by decide)) (hC0 119 3 (by decide) (by decide)) (fun c k hc => ?_)
  · rw [hC0 4 i (by decide) (by decide), hS0 (21 + 5 * i) (by omega) (by omega) (by omega)]
    exact rT i hi
  · have c12 : rdI M2 12 j = if j = P then k else rdI M 12 j := by
      rw [hC 12 j (by decide)]
      unfold xnpG
      rw [up2_c _ _ (by decide), xnpS_c (by decide)]
      unfold xnpA
      rw [up2_c _ _ (by decide), up2_c _ _ (by decide), up2_c _ _ (by decide), up2_c _ _ (by decide), up2_c _ _ (by decide), up2_c _ _ (by decide), up2_c _ _ (by decide), up2_c _ _ (by decide), up2_c _ _ (by decide)]
      by_cases e : j = P
      · subst e; rw [up2_eq, if_pos rfl]
      · rw [up2_k _ _ e, if_neg e]
    have c18 : rdI M2 18 j = if j = P then 0 else rdI M 18 j := by
      rw [hC 18 j (by decide)]
      unfold xnpG
      rw [up2_c _ _ (by decide), xnpS_c (by decide)]
      unfold xnpA
      rw [up2_c _ _ (by decide), up2_c _ _ (by decide), up2_c _ _ (by decide)]
      by_cases e : j = P
      · subst e; rw [up2_eq, if_pos rfl]
      · rw [up2_k _ _ e, if_neg e, up2_c _ _ (by decide), up2_c _ _ (by decide), up2_c _ _ (by decide), up2_c _ _ (by decide), up2_c _ _ (by decide), up2_c _ _ (by decide)]
    by_cases e : j = P
    · subst e
      rw [c12, c18, if_pos rfl, if_pos rfl]
      refine ⟨?_, ?_⟩
      · have h := hSk 0 (by decide)
        rw [show 160 + 10 * j + 0 = 160 + 10 * j by omega] at h
        rw [h]
        unfold rnpA
        rw [up2_k _ _ (by omega), up2_k _ _ (by omega), up2_k _ _ (by omega), up2_k _ _ (by omega), up2_k _ _ (by omega), up2_k _ _ (by omega), up2_k _ _ (by omega), up2_k _ _ (by omega), up2_k _ _ (by omega), up2_eq]
      · have h := hSk 6 (by decide)
        rw [show 160 + 10 * j + 6 = 166 + 10 * j by omega] at h
        rw [h]
        unfold rnpA
        rw [up2_k _ _ (by omega), up2_k _ _ (by omega), up2_k _ _ (by omega), up2_eq]
    · rw [c12, c18, if_neg e, if_neg e, hS0 (160 + 10 * j) (by omega) (by omega) (by omega), hS0 (166 + 10 * j) (by omega) (by omega) (by omega)]
      exact rK j (by omega)
  · rw [hC0 25 j (by decide) (by decide), hC0 26 j (by decide) (by decide), hC0 27 j (by decide) (by decide), hS0 (920 + 3 * j) (by omega) (by omega) (by omega), hS0 (921 + 3 * j) (by omega) (by omega) (by omega), hS0 (922 + 3 * j) (by omega) (by omega) (by omega)]
    have h := rZ j hj
    exact ⟨h.1, h.2.1, h.2.2.1, by have := h.2.2.2; omega⟩
  · by_cases e : c = 120
    · omega
    · exact hC0 c k e (by omega)
theorem hB_paper (hT : aTabOk) : hBoth 191 271 3 false := fun M hM hR as ha => by
  match as, ha with
  | [k, a, b], _ =>
    obtain ⟨N, P, Z, ⟨bN, bP, bZ⟩, n, ⟨p1, p2⟩, z, m, rT, rK, rZ⟩ := id hR.1
    obtain ⟨K1, r1, M1, q1, x1, rfl, t1, f1⟩ := s_end (xpp_run hT hM rfl p1 bP (k := k) (a := a) (b := b)) (show 40 ≤ 149 by decide)
    have fS : ∀ k, rdI M1 120 k = rdI M 120 k := fun k => by
      rcases f1 with ⟨-, -, f⟩ | ⟨-, -, -, f⟩ | ⟨-, -, -, f⟩
      · rw [f]
      · rw [f]
        unfold xnpG
        rw [up2_c _ _ (by decide), xnpS_c (by decide)]
        unfold xnpA
        rw [up2_c _ _ (by decide), up2_c _ _ (by decide), up2_c _ _ (by decide), up2_c _ _ (by decide), up2_c _ _ (by decide), up2_c _ _ (by decide), up2_c _ _ (by decide), up2_c _ _ (by decide), up2_c _ _ (by decide), up2_c _ _ (by decide)]
      · rw [f]
    obtain ⟨K2, r2, M2, q2, x2, rfl, t2, f2⟩ := s_end (rpw_run hT t1 rfl (by rw [fS]; exact p2) bP (k := k) (a := a) (b := b)) (show 40 ≤ 149 by decide)
    refine ⟨K1, M1, K2, M2, x1, x2, q1, t1, q2, t2, ?_, fun z => by cases z⟩
    have cg1 : ∀ p, p < P → rdI M 12 p = rkd (rdI M1) p := fun p hp => by
      show rdI M 12 p = rdI M1 120 (160 + 10 * p)
      rw [fS]
      exact (rK p hp).1
    rcases f1 with ⟨h1, -, f1⟩ | ⟨h1, h2, -, f1⟩ | ⟨h1, h2, -, f1⟩
    · rcases f2 with ⟨-, -, f2⟩ | ⟨k1, -, -, -⟩ | ⟨k1, -, -, -⟩
      · exact lwR_keep (fun p _ k _ _ => by rw [f2, f1]) hR
      · exact absurd (ft_cg (fun p hp => (cg1 p hp).symm) k1) h1
      · exact absurd (ft_cg (fun p hp => (cg1 p hp).symm) k1) h1
    · rcases f2 with ⟨k1, -, -⟩ | ⟨-, -, -, f2⟩ | ⟨-, k2, -, -⟩
      · exact absurd (ft_cg cg1 h1) k1
      · exact lwR_np hR bN bZ h2 n z m rT rK rZ f1 f2
      · omega
    · rcases f2 with ⟨-, -, f2⟩ | ⟨-, k2, -, -⟩ | ⟨-, -, -, f2⟩
      · exact lwR_keep (fun p _ k _ _ => by rw [f2, f1]) hR
      · omega
      · exact lwR_keep (fun p _ k _ _ => by rw [f2, f1]) hR
theorem hB_hung (hT : aTabOk) : hBoth 192 272 4 false := fun M hM hR as ha => by
  match as, ha with
  | [l, b, on, md], _ =>
    obtain ⟨N, P, Z, ⟨bN, bP, bZ⟩, n, ⟨p1, p2⟩, z, m, rT, rK, rZ⟩ := id hR.1
    obtain ⟨K1, r1, M1, q1, x1, rfl, t1, f1⟩ := s_end (xhu_run hT hM rfl p1 bP (l := l) (b := b) (on := on) (md := md)) (show 40 ≤ 149 by decide)
    have fS : ∀ k, rdI M1 120 k = rdI M 120 k := fun k => by
      rcases f1 with ⟨-, -, f⟩ | ⟨-, -, -, f⟩ | ⟨-, -, -, f⟩
      · rw [f]
      · rw [f]
        unfold xnpG
        rw [up2_c _ _ (by decide), xnpS_c (by decide)]
        unfold xnpA
        rw [up2_c _ _ (by decide), up2_c _ _ (by decide), up2_c _ _ (by decide), up2_c _ _ (by decide), up2_c _ _ (by decide), up2_c _ _ (by decide), up2_c _ _ (by decide), up2_c _ _ (by decide), up2_c _ _ (by decide), up2_c _ _ (by decide)]
      · rw [f]
    obtain ⟨K2, r2, M2, q2, x2, rfl, t2, f2⟩ := s_end (rhu_run hT t1 rfl (by rw [fS]; exact p2) bP (l := l) (b := b) (on := on) (md := md)) (show 40 ≤ 149 by decide)
    refine ⟨K1, M1, K2, M2, x1, x2, q1, t1, q2, t2, ?_, fun z => by cases z⟩
    have cg1 : ∀ p, p < P → rdI M 12 p = rkd (rdI M1) p := fun p hp => by
      show rdI M 12 p = rdI M1 120 (160 + 10 * p)
      rw [fS]
      exact (rK p hp).1
    rcases f1 with ⟨h1, -, f1⟩ | ⟨h1, h2, -, f1⟩ | ⟨h1, h2, -, f1⟩
    · rcases f2 with ⟨-, -, f2⟩ | ⟨k1, -, -, -⟩ | ⟨k1, -, -, -⟩
      · exact lwR_keep (fun p _ k _ _ => by rw [f2, f1]) hR
      · exact absurd (hg_cg (fun p hp => (cg1 p hp).symm) k1) h1
      · exact absurd (hg_cg (fun p hp => (cg1 p hp).symm) k1) h1
    · rcases f2 with ⟨k1, -, -⟩ | ⟨-, -, -, f2⟩ | ⟨-, k2, -, -⟩
      · exact absurd (hg_cg cg1 h1) k1
      · exact lwR_np hR bN bZ h2 n z m rT rK rZ f1 f2
      · omega
    · rcases f2 with ⟨-, -, f2⟩ | ⟨-, k2, -, -⟩ | ⟨-, -, -, f2⟩
      · exact lwR_keep (fun p _ k _ _ => by rw [f2, f1]) hR
      · omega
      · exact lwR_keep (fun p _ k _ _ => by rw [f2, f1]) hR
/-! THE CASE OF RUN -/
theorem shL_cg {a b c a' b' c' : Nat → Int32} {Z : Nat} (h : ∀ i, i < Z → a i = a' i ∧ b i = b' i ∧ c i = c' i) : shL a b c Z = shL a' b' c' Z := List.map_congr_left (fun i hi => by
  obtain ⟨h1, h2, h3⟩ := h i (List.mem_range.mp hi)
  rw [h1, h2, h3])
theorem hB_run (hT : aTabOk) : hBoth 190 268 1 false := fun M hM hR as ha => by
  match as, ha with
  | [n], _ =>
    obtain ⟨N, P, Z, ⟨bN, bP, bZ⟩, ⟨n1, n2⟩, ⟨p1, p2⟩, ⟨z1, z2⟩, ⟨m1, m2, m3⟩, rT, rK, rZ⟩ := id hR.1
    have hs : ∀ i, i < Z → (0 ≤ (rdI M 25 i).toInt ∧ (rdI M 25 i).toInt < (P : Int)) ∧ (0 ≤ (rdI M 26 i).toInt ∧ (rdI M 26 i).toInt ≤ 6) := fun i hi => by
      obtain ⟨b1, b2⟩ := rsh_b hM (i := i) (by omega)
      obtain ⟨d1, d2, d3, d4⟩ := rZ i hi
      rw [d1, d2]
      exact ⟨⟨b1.1, d4⟩, b2⟩
    obtain ⟨K1, r1, M1, q1, x1, rfl, t1, f1⟩ := s_end (xrn_run hT hM rfl n1 bN p1 bP z1 bZ hs (n := n)) (show 40 ≤ 149 by decide)
    have fS : ∀ k, rdI M1 120 k = rdI M 120 k := fun k => by
      rcases f1 with ⟨-, -, f⟩ | ⟨-, -, -, f⟩ | ⟨-, -, -, ga, g5, ca, -, -, -, i5, f⟩
      · rw [f]
      · rw [f]
      · rw [f, lvG_c (by decide), up2_c _ _ (by decide), i5.1 120 k (by decide) (by decide) (by decide) (by decide), ca 120 k (by decide)]
    obtain ⟨K2, r2, M2, q2, x2, rfl, t2, f2⟩ := s_end (rrn_run hT t1 rfl (N := N) (Z := Z) (by rw [fS]; exact n2) bN (by rw [fS]; exact z2) bZ (by rw [fS]; exact ⟨m2, m3⟩) (n := n)) (show 40 ≤ 149 by decide)
    refine ⟨K1, M1, K2, M2, x1, x2, q1, t1, q2, t2, ?_, fun z => by cases z⟩
    rcases f1 with ⟨c1, -, f1⟩ | ⟨c1, c2, -, f1⟩ | ⟨c1, c2, -, ga, g5, ca, a0, a1, a2, i5, f1⟩
    · rcases f2 with ⟨-, -, f2⟩ | ⟨k1, -, -, -⟩ | ⟨k1, -, -, -⟩
      · exact lwR_keep (fun p _ k _ _ => by rw [f2, f1]) hR
      · exact absurd k1 c1
      · exact absurd k1 c1
    · rcases f2 with ⟨k1, -, -⟩ | ⟨-, -, -, f2⟩ | ⟨-, k2, -, -⟩
      · exact absurd c1 k1
      · exact lwR_keep (fun p _ k _ _ => by rw [f2, f1]) hR
      · rw [fS, ← m1] at k2
        omega
    · rcases f2 with ⟨k1, -, -⟩ | ⟨-, k2, -, -⟩ | ⟨-, -, -, f2⟩
      · exact absurd c1 k1
      · rw [fS, ← m1] at k2
        omega
      · obtain ⟨nn, hnn⟩ : ∃ k : Nat, ((k + 1 : Nat) : Int) = n.toInt := ⟨n.toInt.toNat - 1, by have := c1.1; omega⟩
        have enn : n.toInt.toNat = nn + 1 := by omega
        have c1' := c1.2
        rw [m1] at c2 i5 f1 a0
        have hs2 : (rdI M 120 0 + n).toInt = (rdI M 120 0).toInt + n.toInt := i32_add (by have := c1.1; omega) (by omega)
        have hM2 : (rdI M 120 0 + n).toInt = (rdI M 120 0).toInt + ((nn + 1 : Nat) : Int) := by omega
        have hn2 : n = Int32.ofNat (nn + 1) := i32eq (by rw [i32n (by omega)]; omega)
        rw [enn] at f2
        have hLr : ∀ c, rfP (rdI M1) c = rfP (rdI M) c := fun c => by funext i; exact fS _
        unfold rrnI at f2
        rw [hLr, hLr, hLr, fS, fQ_s, fD_s, ← hM2] at f2
        obtain ⟨j0, j1, j2, j3, j4, j5, j6, j7⟩ := f2
        unfold xcmI at i5
        rw [shL_all] at i5
        obtain ⟨i1, i2, i3, i4⟩ := i5
        obtain ⟨L, hL⟩ : ∃ L, L = shL (rfP (rdI M) 920) (rfP (rdI M) 921) (rfP (rdI M) 922) Z := ⟨_, rfl⟩
        have hLL : shL (ga 25) (ga 26) (ga 27) Z = L := by
          rw [hL]
          refine shL_cg (fun i hi => ?_)
          obtain ⟨d1, d2, d3, d4⟩ := rZ i hi
          exact ⟨(ca 25 i (by decide)).trans d1, (ca 26 i (by decide)).trans d2, (ca 27 i (by decide)).trans d3⟩
        rw [hLL] at i2 i4 f1
        rw [← hL] at j4 j5 j6
        obtain ⟨mm, hmm⟩ : ∃ x, x = (rdI M 120 0 + n).toInt := ⟨_, rfl⟩
        rw [← hmm] at i2 i4 f1 j4 j5 j6
        have hlen : (L.filter (shQ mm)).length ≤ Z := by
          have l2 := List.length_filter_le (shQ mm) L
          have l3 : L.length = Z := by rw [hL]; unfold shL; rw [List.length_map, List.length_range]
          omega
        have hC : ∀ c k, c ≠ 120 → rdI M2 c k = rdI M1 c k := j0
        have hX : ∀ c k, c ≠ 120 → c ≠ 1 → c ≠ 7 → c ≠ 18 → c ≠ 24 → c ≠ 25 → c ≠ 26 → c ≠ 27 → rdI M2 c k = rdI M c k := fun c k h0 h1 h7 h18 h24 h25 h26 h27 => by rw [hC c k h0, f1, lvG_c h7, up2_c _ _ h24, i1 c k h18 h25 h26 h27, ca c k h1]
        have hS : ∀ k, 1 < k → k ≠ 7 → (∀ p, p < 40 → k ≠ 166 + 10 * p) → (k < 920 ∨ 1009 < k) → ¬ (20 ≤ k ∧ k < 20 + 5 * N ∧ k % 5 = 3) → rdI M2 120 k = rdI M 120 k := fun k a b c d e => (j1 k a b c d e).trans (fS k)
        have h24 : rdI M2 24 0 = Int32.ofNat (L.filter (shQ mm)).length := by rw [hC 24 0 (by decide), f1, lvG_c (by decide), up2_eq]
        have hx1 : ∀ c k, c ≠ 7 → c ≠ 24 → c ≠ 120 → rdI M2 c k = g5 c k := fun c k h7 h24 h0 => by rw [hC c k h0, f1, lvG_c h7, up2_c _ _ h24]
        have hm0 : rdI M2 120 0 = rdI M 120 0 + n := by rw [j2, ← hn2]
        refine lwR_mk hR ⟨N, P, (L.filter (shQ mm)).length, ⟨bN, bP, by omega⟩, ⟨by rw [hX 2 0 (by decide) (by decide) (by decide) (by decide) (by decide) (by decide) (by decide) (by decide)]; exact n1, by rw [hS 3 (by decide) (by decide) (fun p hp => by omega) (by omega) (by omega)]; exact n2⟩, ⟨by rw [hX 11 0 (by decide) (by decide) (by decide) (by decide) (by decide) (by decide) (by decide) (by decide)]; exact p1, by rw [hS 5 (by decide) (by decide) (fun p hp => by omega) (by omega) (by omega)]; exact p2⟩, ⟨h24, j4⟩, ⟨by rw [hx1 1 0 (by decide) (by decide) (by decide), i1 1 0 (by decide) (by decide) (by decide) (by decide), a0, hm0], by rw [hm0]; have := c1.1; omega, by rw [hm0]; omega⟩, fun i hi => ?_, fun p hp => ?_, fun i hi => ?_⟩ (hX 0 2 (by decide) (by decide) (by decide) (by decide) (by decide) (by decide) (by decide) (by decide)) (hX 119 3 (by decide) (by decide) (by decide) (by decide) (by decide) (by decide) (by decide) (by decide)) (fun c k hc => ?_)
        · rw [hX 4 i (by decide) (by decide) (by decide) (by decide) (by decide) (by decide) (by decide) (by decide), hS (21 + 5 * i) (by omega) (by omega) (fun p hp => by omega) (by omega) (by omega)]
          exact rT i hi
        · rw [hX 12 p (by decide) (by decide) (by decide) (by decide) (by decide) (by decide) (by decide) (by decide), hS (160 + 10 * p) (by omega) (by omega) (fun p hp => by omega) (by omega) (by omega), hx1 18 p (by decide) (by decide) (by decide), i4 p, j6 p (by omega), ca 18 p (by decide), fS, (rK p hp).2]
          exact ⟨(rK p hp).1, rfl⟩
        · have hi2 : (L.filter (shQ mm))[i]? = some (L.filter (shQ mm))[i] := List.getElem?_eq_getElem hi
          obtain ⟨b1, b2, b3⟩ := i2 i _ hi2
          obtain ⟨d1, d2, d3⟩ := j5 i _ hi2
          rw [hx1 25 i (by decide) (by decide) (by decide), hx1 26 i (by decide) (by decide) (by decide), hx1 27 i (by decide) (by decide) (by decide), b1, b2, b3, d1, d2, d3]
          refine ⟨rfl, rfl, rfl, ?_⟩
          have hm1 := List.mem_of_getElem? hi2
          have hm2 := (List.mem_filter.mp hm1).1
          have h3 : ∀ e : shE, e ∈ L → e.1.toInt < (P : Int) := fun e he => by
            rw [hL] at he
            obtain ⟨t, t1, t2⟩ := List.mem_map.mp he
            rw [← t2]
            exact (rZ t (List.mem_range.mp t1)).2.2.2
          exact h3 _ hm2
        · by_cases e : c = 120
          · omega
          · exact hX c k e (by omega) (by omega) (by omega) (by omega) (by omega) (by omega) (by omega)
theorem sh_pl {C C' : Nat → Nat → Int32} (h : ∀ c k, ((c = 2 ∧ k = 0) ∨ c = 4 ∨ (c = 11 ∧ k = 0) ∨ c = 12 ∨ c = 18 ∨ (c = 24 ∧ k = 0) ∨ c = 25 ∨ c = 26 ∨ c = 27 ∨ (c = 1 ∧ k = 0)) → C' c k = C c k) : ∀ p ∈ lwSC, ∀ k, p.2.1 ≤ k → k ≤ p.2.2 → C' p.1 k = C p.1 k := fun p hp k h1 h2 => h p.1 k (by
  unfold lwSC at hp
  simp only [List.mem_cons, List.not_mem_nil, or_false] at hp
  rcases hp with rfl | rfl | rfl | rfl | rfl | rfl | rfl | rfl | rfl | rfl
  · exact Or.inl ⟨rfl, Nat.le_zero.mp h2⟩
  · exact Or.inr (Or.inl rfl)
  · exact Or.inr (Or.inr (Or.inl ⟨rfl, Nat.le_zero.mp h2⟩))
  · exact Or.inr (Or.inr (Or.inr (Or.inl rfl)))
  · exact Or.inr (Or.inr (Or.inr (Or.inr (Or.inl rfl))))
  · exact Or.inr (Or.inr (Or.inr (Or.inr (Or.inr (Or.inl ⟨rfl, Nat.le_zero.mp h2⟩)))))
  · exact Or.inr (Or.inr (Or.inr (Or.inr (Or.inr (Or.inr (Or.inl rfl))))))
  · exact Or.inr (Or.inr (Or.inr (Or.inr (Or.inr (Or.inr (Or.inr (Or.inl rfl)))))))
  · exact Or.inr (Or.inr (Or.inr (Or.inr (Or.inr (Or.inr (Or.inr (Or.inr (Or.inl rfl))))))))
  · exact Or.inr (Or.inr (Or.inr (Or.inr (Or.inr (Or.inr (Or.inr (Or.inr (Or.inr (⟨rfl, Nat.le_zero.mp h2⟩))))))))))
theorem hB_keep (hT : aTabOk) (hc : tCtOk (356, [(0, 128, 0, 0), (0, 129, 0, 0), (0, 130, 0, 0)], none, [(121, 0, 3999, 1, 0)], 1, [(120, 121)], [])) : hBoth 230 362 0 false := fun M hM hR as ha => by
  match as, ha with
  | [], _ =>
    obtain ⟨K1, r1, M1, q1, ⟨x1, rfl⟩, t1, f1⟩ := s_end (xkeep_run hT hM rfl) (show 30 ≤ 149 by decide)
    obtain ⟨K2, r2, M2, q2, ⟨x2, rfl, -⟩, t2, f2⟩ := s_end (mkeep_run hT hc t1 rfl) (show 30 ≤ 149 by decide)
    rw [f1] at f2
    refine ⟨K1, M1, K2, M2, x1, x2, q1, t1, q2, t2, ?_, fun z => by cases z⟩
    have h1 : shRP (rdI M2) (rdI M2 120) := shRP_cg (C := rdI M) (C' := rdI M2) (S := rdI M 120) (S' := rdI M2 120) (sh_pl (fun c k hc => by show rdI M2 c k = rdI M c k; rw [f2]; rcases hc with ⟨rfl, rfl⟩ | rfl | ⟨rfl, rfl⟩ | rfl | rfl | ⟨rfl, rfl⟩ | rfl | rfl | rfl | ⟨rfl, rfl⟩ <;> rfl)) (fun _ _ _ k _ _ => by rw [f2]; rfl) hR.1
    refine ⟨h1, by rw [f2]; rfl, fun _ => ?_⟩
    exact shRP_cg (C := rdI M) (C' := fun c k => rdI M2 (c + 53) k) (S := rdI M 120) (S' := rdI M2 121) (sh_pl (fun c k hc => by show rdI M2 (c + 53) k = rdI M c k; rw [f2]; rcases hc with ⟨rfl, rfl⟩ | rfl | ⟨rfl, rfl⟩ | rfl | rfl | ⟨rfl, rfl⟩ | rfl | rfl | rfl | ⟨rfl, rfl⟩ <;> rfl)) (fun _ _ _ k _ _ => by rw [f2]; rfl) hR.1
theorem hB_back (hT : aTabOk) (hc : tCtOk (356, [(0, 128, 0, 0), (0, 130, 0, 0), (0, 129, 0, 0)], none, [(120, 0, 3999, 1, 0)], 1, [(121, 120)], [])) : hBoth 231 363 0 false := fun M hM hR as ha => by
  match as, ha with
  | [], _ =>
    obtain ⟨K1, r1, M1, q1, ⟨x1, rfl, -⟩, t1, f1⟩ := s_end (xback_run hT hM rfl) (show 30 ≤ 149 by decide)
    obtain ⟨K2, r2, M2, q2, ⟨x2, rfl, -⟩, t2, f2⟩ := s_end (mback_run hT hc t1 rfl) (show 30 ≤ 149 by decide)
    refine ⟨K1, M1, K2, M2, x1, x2, q1, t1, q2, t2, ?_, fun z => by cases z⟩
    by_cases h : rdI M 0 2 = 0
    · rw [if_pos h] at f1
      rw [f1, if_pos (by rw [← hR.2.1]; exact h)] at f2
      exact lwR_keep (fun p _ k _ _ => by rw [f2]) hR
    · rw [if_neg h] at f1
      have h3 : ¬ rdI M1 119 3 = 0 := by rw [f1]; show ¬ rdI M 119 3 = 0; rw [← hR.2.1]; exact h
      rw [if_neg h3, f1] at f2
      refine ⟨?_, ?_, fun _ => ?_⟩
      · exact shRP_cg (C := fun c k => rdI M (c + 53) k) (C' := rdI M2) (S := rdI M 121) (S' := rdI M2 120) (sh_pl (fun c k hc => by show rdI M2 c k = rdI M (c + 53) k; rw [f2]; rcases hc with ⟨rfl, rfl⟩ | rfl | ⟨rfl, rfl⟩ | rfl | rfl | ⟨rfl, rfl⟩ | rfl | rfl | rfl | ⟨rfl, rfl⟩ <;> rfl)) (fun _ _ _ k _ _ => by rw [f2]; rfl) (hR.2.2 h)
      · rw [f2]
        show rdI M 0 2 = rdI M 119 3
        exact hR.2.1
      · exact shRP_cg (C := fun c k => rdI M (c + 53) k) (C' := fun c k => rdI M2 (c + 53) k) (S := rdI M 121) (S' := rdI M2 121) (sh_pl (fun c k hc => by show rdI M2 (c + 53) k = rdI M (c + 53) k; rw [f2]; rcases hc with ⟨rfl, rfl⟩ | rfl | ⟨rfl, rfl⟩ | rfl | rfl | ⟨rfl, rfl⟩ | rfl | rfl | rfl | ⟨rfl, rfl⟩ <;> rfl)) (fun _ _ _ k _ _ => by rw [f2]; rfl) (hR.2.2 h)
