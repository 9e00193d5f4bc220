/-! THE CASES OF INTERPRETERS -/
theorem lsh_of {M : mHe} (hM : yTy M) (hR : lhRP (rdI M) (rdI M 120)) : ∃ N : Nat, N ≤ 6 ∧ rdI M 40 0 = Int32.ofNat N ∧ rdI M 120 9 = Int32.ofNat N ∧ rOkS (rdI M) N := by
  obtain ⟨-, b1, b2⟩ := rd_obj hM (c := 40) (k := 0) rfl (l := 0) (u := 6) rfl
  obtain ⟨N, hN⟩ : ∃ N : Nat, (N : Int) = (rdI M 40 0).toInt := ⟨(rdI M 40 0).toInt.toNat, by omega⟩
  have e : rdI M 40 0 = Int32.ofNat N := i32eq (by rw [i32n (by omega)]; omega)
  have e9 : rdI M 120 9 = Int32.ofNat N := by rw [← hR.1]; exact e
  refine ⟨N, by omega, e, e9, e9, by omega, fun h hh => ?_, fun k h1 h2 => ?_⟩
  · rcases hR.2.2 h hh with ⟨-, h1⟩ | ⟨a, b, a1, b1, -, -, h1, h2⟩
    · exact Or.inl (by rw [h1]; decide)
    · exact Or.inr ⟨a, b, a1, b1, h1, h2⟩
  · have h3 := rd_reg hM tTy_120 (k := k) (by omega) (r := (3440, 3733, 1, [(0, 1)])) (by decide) (by show (3440 : Int) ≤ _; omega) (by show _ ≤ (3733 : Int); omega)
    have h4 : tV1 [(0, 1)] 1 3440 (k : Int) = (0, 1) := by
      unfold tV1
      have : (((k : Int) - 3440) % Int.ofNat 1).toNat = 0 := by show (((k : Int) - 3440) % 1).toNat = 0; omega
      rw [this]
      rfl
    rw [h4] at h3
    exact h3
theorem i01 {x : Int32} (h : 0 ≤ x.toInt ∧ x.toInt ≤ 1) : x = 0 ∨ x = 1 := by
  by_cases e : x.toInt = 0
  · exact Or.inl (i32eq (by rw [e]; rfl))
  · exact Or.inr (i32eq (by rw [show (1 : Int32).toInt = 1 from rfl]; omega))
theorem and_comm0 (x y : Int32) : x &&& y = 0 ↔ y &&& x = 0 := by rw [Int32.and_comm]
theorem lsh_hear {M : mHe} {N : Nat} (hN6 : N ≤ 6) (hR : lhRP (rdI M) (rdI M 120)) (hS : rOkS (rdI M) N) : ∀ h, h < 8 → ∀ w, w ≤ 6 → (w < N ∨ w = 6) → xHr (rdI M) h w = rH (rdI M) N h w := fun h hh w hw hc => by
  rcases hc with hc | hc
  · rcases hR.2.2 h hh with ⟨h1, h2⟩ | ⟨a, b, a1, b1, hab, h1, h2, h3⟩
    · have e1 : rH (rdI M) N h w = 0 := by
        unfold rH
        rw [if_neg (fun z => by have := z.2.2; rw [h2, show (-1 : Int32).toInt = -1 from rfl] at this; omega)]
      have e2 : xHr (rdI M) h w = 0 := by
        unfold xHr
        rw [h1, if_neg (fun z => z.2 Int32.zero_and)]
      rw [e1, e2]
    · have e1 : rH (rdI M) N h w = rdI M 120 (3440 + 49 * w + 7 * a + b) := by
        unfold rH
        rw [if_pos ⟨hh, hc, by rw [h2, i32n (by omega)]; omega⟩, h2, h3, i32n (by omega), i32n (by omega)]
        rfl
      have hw6 : w < 6 := by omega
      have e2 := hR.2.1 w hw6 a b a1 b1 hab
      have e3 := i01 (hS.2.2.2 (3440 + 49 * w + 7 * a + b) (by omega) (by omega))
      rw [e1]
      unfold xHr
      rw [h1]
      rcases e3 with e3 | e3
      · rw [e3, if_neg (fun z => z.2 ((and_comm0 _ _).mp (e2.mpr e3)))]
      · rw [e3, if_pos ⟨hw6, fun z => by
          have := e2.mp ((and_comm0 _ _).mp z)
          rw [e3] at this
          exact absurd this (by decide)⟩]
  · subst hc
    rw [xH_6, rH_6 hS]
theorem hKeep_c {M M' : mHe} {c0 : Nat} (hc : lwS.all (fun p => !(Nat.beq p.1 c0)) = true) (h : ∀ c k, c ≠ c0 → rdI M' c k = rdI M c k) : hKeep M M' := fun p hp k _ _ => h p.1 k (fun e => by
  have := List.all_eq_true.mp hc p hp
  rw [e, Nat.beq_refl] at this
  cases this)
theorem hB_heard (hT : aTabOk) : hBoth 224 347 1 true := fun M hM hR as ha => by
  match as, ha with
  | [a], _ =>
    obtain ⟨N, hN6, hN, hN9, hS⟩ := lsh_of hM hR.1
    obtain ⟨K1, M1, r1, q1, t1, f1, e1⟩ := xheard_run hT hM rfl hN hN6 (a := a) (d := 149) (by decide)
    have hR1 := lwR_keep (hKeep_c (by decide) f1) hR
    have hS1 := (rOk_eq (g := rdI M) (g1 := rdI M1) (N := N))
    obtain ⟨N', hN6', hN', -, hS'⟩ := lsh_of t1 hR1.1
    have hNN : N' = N := nat_inj32 (by omega) (by omega) (by rw [← hN', ← hN]; exact f1 40 0 (by decide))
    subst hNN
    obtain ⟨K2, M2, r2, q2, t2, f2, e2⟩ := rheard_run hT t1 rfl hS' (a := a) (d := 149) (by decide)
    have hH : rH (rdI M1) N' = rH (rdI M) N' := by
      funext h w
      unfold rH
      rw [f1 120 _ (by decide), f1 120 _ (by decide), f1 120 _ (by decide)]
    refine ⟨K1, M1, K2, M2, r1, r2, q1, t1, q2, t2, lwR_keep (hKeep_c (by decide) f2) hR1, fun _ => ?_⟩
    rw [e1, e2, hH]
    by_cases c : 1 ≤ a.toInt ∧ a.toInt ≤ 8
    · rw [if_pos c, if_pos c, row_cg (by omega) (lsh_hear hN6 hR.1 hS) _ (Nat.le_refl _)]
    · rw [if_neg c, if_neg c]
theorem hB_shift (hT : aTabOk) : hBoth 225 348 2 true := fun M hM hR as ha => by
  match as, ha with
  | [a, b], _ =>
    obtain ⟨N, hN6, hN, hN9, hS⟩ := lsh_of hM hR.1
    obtain ⟨K1, M1, r1, q1, t1, f1, e1, e1'⟩ := xshift_run hT hM rfl hN hN6 (a := a) (b := b) (d := 149) (by decide)
    have hR1 := lwR_keep (hKeep_c (by decide) f1) hR
    obtain ⟨N', hN6', hN', -, hS'⟩ := lsh_of t1 hR1.1
    have hNN : N' = N := nat_inj32 (by omega) (by omega) (by rw [← hN', ← hN]; exact f1 40 0 (by decide))
    subst hNN
    obtain ⟨K2, M2, r2, q2, t2, f2, e2, e2'⟩ := rshift_run hT t1 rfl hS' (a := a) (b := b) (d := 149) (by decide)
    have hH : rH (rdI M1) N' = rH (rdI M) N' := by
      funext h w
      unfold rH
      rw [f1 120 _ (by decide), f1 120 _ (by decide), f1 120 _ (by decide)]
    refine ⟨K1, M1, K2, M2, r1, r2, q1, t1, q2, t2, lwR_keep (hKeep_c (by decide) f2) hR1, fun _ => ?_⟩
    by_cases c : shOk a b
    · have c' : (1 ≤ a.toInt ∧ a.toInt ≤ 8) ∧ (0 ≤ b.toInt ∧ b.toInt ≤ a.toInt - 1) := c
      rw [e1 c, e2 c, hH]
      unfold shA
      rw [go_cg (by omega) (lsh_hear hN6 hR.1 hS) _ (by omega)]
    · rw [e1' c, e2' c]
/-- the rest of what is held stays -/
theorem lwR_mk {M M2 : mHe} (hR : lwR M) (h1 : lhRP (rdI M2) (rdI M2 120)) (h2 : rdI M2 0 2 = rdI M 0 2) (h3 : rdI M2 119 3 = rdI M 119 3) (h4 : ∀ c k, (c = 93 ∨ c = 94 ∨ c = 95 ∨ c = 121) → rdI M2 c k = rdI M c k) : lwR M2 := by
  refine ⟨h1, by rw [h2, h3]; exact hR.2.1, fun hk => ?_⟩
  rw [h2] at hk
  exact lhRP_cg (h4 93 0 (by omega)) (fun i _ => h4 94 i (by omega)) (fun i _ => h4 95 i (by omega)) (h4 121 9 (by omega)) (fun k _ _ => h4 121 k (by omega)) (hR.2.2 hk)
theorem hB_int (hT : aTabOk) : hBoth 221 341 0 false := fun M hM hR as ha => by
  match as, ha with
  | [], _ =>
    obtain ⟨N, hN6, hN, hN9, hS⟩ := lsh_of hM hR.1
    obtain ⟨K1, r1, M1, q1, ⟨x1, rfl⟩, t1, f1⟩ := s_end (xint_run hT hM rfl hN hN6) (show 20 ≤ 149 by decide)
    by_cases c : N < 6
    · rw [if_pos c] at f1
      have hN1 : rdI M1 120 9 = Int32.ofNat N := by rw [f1]; exact hN9
      obtain ⟨K2, r2, M2, q2, ⟨x2, rfl⟩, t2, f2⟩ := s_end (rint_run hT t1 rfl hN1 hN6) (show 10 ≤ 149 by decide)
      rw [if_pos c] at f2
      refine ⟨K1, M1, K2, M2, x1, x2, q1, t1, q2, t2, ?_, fun z => by cases z⟩
      have hC : ∀ c' k, c' ≠ 120 → rdI M2 c' k = up2 (up2 (rdI M) 41 N 0) 40 0 (Int32.ofNat (N + 1)) c' k := fun c' k hc => by
        rw [f2, up2_c _ _ hc, ← f1]
        exact if_neg (fun z => hc z.1)
      have hSS : ∀ k, k ≠ 9 → rdI M2 120 k = if 3440 + 49 * N ≤ k ∧ k < 3440 + 49 * N + 49 then 0 else rdI M 120 k := fun k hk => by
        rw [f2, up2_k _ _ hk]
        unfold zr2
        by_cases e : 3440 + 49 * N ≤ k ∧ k < 3440 + 49 * N + 49
        · rw [if_pos e, if_pos ⟨rfl, e⟩]
        · rw [if_neg e, if_neg (fun z => e z.2), f1]
          rfl
      refine lwR_mk hR ⟨?_, fun i hi a b ha hb hab => ?_, fun h hh => ?_⟩ (by rw [hC 0 2 (by decide)]; rfl) (by rw [hC 119 3 (by decide)]; rfl) (fun c' k hc => ?_)
      · rw [hC 40 0 (by decide), up2_eq, f2, up2_eq]
      · rw [hC 41 i (by decide), up2_c _ _ (by decide), hSS _ (by omega)]
        by_cases e : i = N
        · subst e
          rw [up2_eq, if_pos ⟨by omega, by omega⟩]
          exact ⟨fun _ => rfl, fun _ => Int32.zero_and⟩
        · rw [up2_k _ _ e, if_neg (fun z => by omega)]
          exact hR.1.2.1 i hi a b ha hb hab
      · rw [hC 42 h (by decide), hSS _ (by omega), hSS (3740 + 2 * h + 1) (by omega), if_neg (fun z => by omega), if_neg (fun z => by omega)]
        exact hR.1.2.2 h hh
      · by_cases e : c' = 120
        · omega
        · rw [hC c' k e, up2_c _ _ (by omega), up2_c _ _ (by omega)]
    · rw [if_neg c] at f1
      have hN1 : rdI M1 120 9 = Int32.ofNat N := by rw [f1]; exact hN9
      obtain ⟨K2, r2, M2, q2, ⟨x2, rfl⟩, t2, f2⟩ := s_end (rint_run hT t1 rfl hN1 hN6) (show 10 ≤ 149 by decide)
      rw [if_neg c, f1] at f2
      exact ⟨K1, M1, K2, M2, x1, x2, q1, t1, q2, t2, lwR_keep (fun p _ k _ _ => by rw [f2]) hR, fun z => by cases z⟩
theorem bit_dj : ∀ a : Fin 7, ∀ b : Fin 7, ∀ c : Fin 7, ∀ d : Fin 7, (a ≠ b ∧ c ≠ d) → (hBit a b &&& hBit c d = 0 ↔ ¬ ((c = a ∧ d = b) ∨ (c = b ∧ d = a))) := by decide +kernel
theorem hB_spk (hT : aTabOk) : hBoth 222 342 3 false := fun M hM hR as ha => by
  match as, ha with
  | [i, a, b], _ =>
    obtain ⟨N, hN6, hN, hN9, hS⟩ := lsh_of hM hR.1
    obtain ⟨K1, r1, M1, q1, ⟨x1, rfl, -, -⟩, t1, f1, f1'⟩ := s_end (xsk_run hT hM rfl hN hN6 (i := i) (a := a) (b := b)) (show 30 ≤ 149 by decide)
    by_cases c : spOk N i a b
    · have f1 := f1 c
      have hN1 : rdI M1 120 9 = Int32.ofNat N := by rw [f1]; exact hN9
      obtain ⟨K2, r2, M2, q2, ⟨x2, rfl, -, -⟩, t2, f2, -⟩ := s_end (rsk_run hT t1 rfl hN1 hN6 (i := i) (a := a) (b := b)) (show 20 ≤ 149 by decide)
      have f2 := f2 c
      refine ⟨K1, M1, K2, M2, x1, x2, q1, t1, q2, t2, ?_, fun z => by cases z⟩
      obtain ⟨⟨i1, i2⟩, ⟨a1, a2⟩, ⟨b1, b2⟩, hab⟩ := c
      have hne : a.toInt ≠ b.toInt := fun z => hab (Int32.toInt_inj.mp z)
      obtain ⟨ii, hii⟩ : ∃ x, x = i.toInt.toNat := ⟨_, rfl⟩
      obtain ⟨aa, haa⟩ : ∃ x, x = a.toInt.toNat := ⟨_, rfl⟩
      obtain ⟨bb, hbb⟩ : ∃ x, x = b.toInt.toNat := ⟨_, rfl⟩
      rw [← hii, ← haa, ← hbb] at f1 f2
      have hC : ∀ c' k, c' ≠ 120 → rdI M2 c' k = up2 (rdI M) 41 ii (rdI M 41 ii ||| hBit aa bb) c' k := fun c' k hc => by
        rw [f2, up2_c _ _ hc, up2_c _ _ hc, f1]
      have hSS : ∀ k, rdI M2 120 k = if k = 3440 + 49 * ii + 7 * aa + bb ∨ k = 3440 + 49 * ii + 7 * bb + aa then 1 else rdI M 120 k := fun k => by
        rw [f2]
        by_cases e2 : k = 3440 + 49 * ii + 7 * bb + aa
        · rw [if_pos (Or.inr e2), e2, up2_eq]
        · rw [up2_k _ _ e2]
          by_cases e1 : k = 3440 + 49 * ii + 7 * aa + bb
          · rw [if_pos (Or.inl e1), e1, up2_eq]
          · rw [up2_k _ _ e1, if_neg (fun z => z.elim e1 e2), f1]
            rfl
      refine lwR_mk hR ⟨?_, fun j hj c d hc hd hcd => ?_, fun h hh => ?_⟩ (by rw [hC 0 2 (by decide)]; rfl) (by rw [hC 119 3 (by decide)]; rfl) (fun c' k hc => ?_)
      · rw [hC 40 0 (by decide), hSS, if_neg (fun z => by omega)]
        exact hR.1.1
      · have h0 := hR.1.2.1 j hj c d hc hd hcd
        rw [hC 41 j (by decide), hSS]
        by_cases e : j = ii
        · subst e
          have h1 := bit_dj ⟨aa, by omega⟩ ⟨bb, by omega⟩ ⟨c, hc⟩ ⟨d, hd⟩ ⟨fun z => by have := congrArg Fin.val z; simp only at this; omega, fun z => by have := congrArg Fin.val z; simp only at this; omega⟩
          simp only [Fin.mk.injEq] at h1
          rw [up2_eq, or_and0, h0, h1]
          by_cases e2 : (c = aa ∧ d = bb) ∨ (c = bb ∧ d = aa)
          · rw [if_pos (by omega)]
            exact ⟨fun z => absurd e2 z.2, fun z => absurd z (by decide)⟩
          · rw [if_neg (by omega)]
            exact ⟨fun z => z.1, fun z => ⟨z, e2⟩⟩
        · rw [up2_k _ _ e, if_neg (by omega)]
          exact h0
      · rw [hC 42 h (by decide), hSS, hSS, if_neg (by omega), if_neg (by omega)]
        exact hR.1.2.2 h hh
      · by_cases e : c' = 120
        · omega
        · rw [hC c' k e, up2_c _ _ (by omega)]
    · have f1 := f1' c
      have hN1 : rdI M1 120 9 = Int32.ofNat N := by rw [f1]; exact hN9
      obtain ⟨K2, r2, M2, q2, ⟨x2, rfl, -, -⟩, t2, -, f2⟩ := s_end (rsk_run hT t1 rfl hN1 hN6 (i := i) (a := a) (b := b)) (show 20 ≤ 149 by decide)
      have f2 := f2 c
      rw [f1] at f2
      exact ⟨K1, M1, K2, M2, x1, x2, q1, t1, q2, t2, lwR_keep (fun p _ k _ _ => by rw [f2]) hR, fun z => by cases z⟩
theorem hB_sph (hT : aTabOk) : hBoth 223 343 3 false := fun M hM hR as ha => by
  match as, ha with
  | [h, a, b], _ =>
    obtain ⟨K1, r1, M1, q1, ⟨x1, rfl⟩, t1, s1, l1, o1, f1⟩ := s_end (xse_run hT hM rfl (h := h) (a := a) (b := b)) (show 30 ≤ 149 by decide)
    obtain ⟨K2, r2, M2, q2, ⟨x2, rfl⟩, t2, s2, l2, o2, f2⟩ := s_end (rse_run hT t1 rfl (h := h) (a := a) (b := b)) (show 20 ≤ 149 by decide)
    have hs := seOk_1 l2 l1 o2 o1
    subst hs
    refine ⟨K1, M1, K2, M2, x1, x2, q1, t1, q2, t2, ?_, fun z => by cases z⟩
    match s2, l2, o2, f1, f2 with
    | 0, _, _, f1, f2 =>
      have f1 : rdI M1 = rdI M := f1
      have f2 : rdI M2 = rdI M1 := f2
      exact lwR_keep (fun p _ k _ _ => by rw [f2, f1]) hR
    | 1, _, o, f1, f2 =>
      have f1 : rdI M1 = up2 (rdI M) 42 h.toInt.toNat 0 := f1
      have f2 : rdI M2 = up2 (up2 (rdI M1) 120 (3740 + 2 * h.toInt.toNat) (-1)) 120 (3740 + 2 * h.toInt.toNat + 1) (-1) := f2
      have o1 := o.1
      obtain ⟨hh, hhe⟩ : ∃ x, x = h.toInt.toNat := ⟨_, rfl⟩
      rw [← hhe] at f1 f2
      have hC : ∀ c' k, c' ≠ 120 → rdI M2 c' k = up2 (rdI M) 42 hh 0 c' k := fun c' k hc => by rw [f2, up2_c _ _ hc, up2_c _ _ hc, f1]
      have hSS : ∀ k, k ≠ 3740 + 2 * hh → k ≠ 3740 + 2 * hh + 1 → rdI M2 120 k = rdI M 120 k := fun k h1 h2 => by rw [f2, up2_k _ _ h2, up2_k _ _ h1, f1]; rfl
      refine lwR_mk hR ⟨?_, fun j hj c d hc hd hcd => ?_, fun u hu => ?_⟩ (by rw [hC 0 2 (by decide)]; rfl) (by rw [hC 119 3 (by decide)]; rfl) (fun c' k hc => ?_)
      · rw [hC 40 0 (by decide), hSS 9 (by omega) (by omega)]
        exact hR.1.1
      · rw [hC 41 j (by decide), up2_c _ _ (by decide), hSS _ (by omega) (by omega)]
        exact hR.1.2.1 j hj c d hc hd hcd
      · by_cases e : u = hh
        · subst e
          left
          rw [hC 42 u (by decide), up2_eq, f2, up2_k _ _ (by omega), up2_eq]
          exact ⟨rfl, rfl⟩
        · rw [hC 42 u (by decide), up2_k _ _ e, hSS _ (by omega) (by omega), hSS (3740 + 2 * u + 1) (by omega) (by omega)]
          exact hR.1.2.2 u hu
      · by_cases e : c' = 120
        · omega
        · rw [hC c' k e, up2_c _ _ (by omega)]
    | 2, _, o, f1, f2 =>
      have f1 : rdI M1 = up2 (rdI M) 42 h.toInt.toNat (hBit a.toInt.toNat b.toInt.toNat) := f1
      have f2 : rdI M2 = up2 (up2 (rdI M1) 120 (3740 + 2 * h.toInt.toNat) a) 120 (3740 + 2 * h.toInt.toNat + 1) b := f2
      obtain ⟨o1, -, ⟨a1, a2⟩, ⟨b1, b2⟩, hab⟩ := o
      have hne : a.toInt ≠ b.toInt := fun z => hab (Int32.toInt_inj.mp z)
      obtain ⟨hh, hhe⟩ : ∃ x, x = h.toInt.toNat := ⟨_, rfl⟩
      rw [← hhe] at f1 f2
      have hC : ∀ c' k, c' ≠ 120 → rdI M2 c' k = up2 (rdI M) 42 hh (hBit a.toInt.toNat b.toInt.toNat) c' k := fun c' k hc => by rw [f2, up2_c _ _ hc, up2_c _ _ hc, f1]
      have hSS : ∀ k, k ≠ 3740 + 2 * hh → k ≠ 3740 + 2 * hh + 1 → rdI M2 120 k = rdI M 120 k := fun k h1 h2 => by rw [f2, up2_k _ _ h2, up2_k _ _ h1, f1]; rfl
      refine lwR_mk hR ⟨?_, fun j hj c d hc hd hcd => ?_, fun u hu => ?_⟩ (by rw [hC 0 2 (by decide)]; rfl) (by rw [hC 119 3 (by decide)]; rfl) (fun c' k hc => ?_)
      · rw [hC 40 0 (by decide), hSS 9 (by omega) (by omega)]
        exact hR.1.1
      · rw [hC 41 j (by decide), up2_c _ _ (by decide), hSS _ (by omega) (by omega)]
        exact hR.1.2.1 j hj c d hc hd hcd
      · by_cases e : u = hh
        · subst e
          right
          refine ⟨a.toInt.toNat, b.toInt.toNat, by omega, by omega, by omega, ?_, ?_, ?_⟩
          · rw [hC 42 u (by decide), up2_eq]
          · rw [f2, up2_k _ _ (by omega), up2_eq]
            exact i32eq (by rw [i32n (by omega)]; omega)
          · rw [f2, up2_eq]
            exact i32eq (by rw [i32n (by omega)]; omega)
        · rw [hC 42 u (by decide), up2_k _ _ e, hSS _ (by omega) (by omega), hSS (3740 + 2 * u + 1) (by omega) (by omega)]
          exact hR.1.2.2 u hu
      · by_cases e : c' = 120
        · omega
        · rw [hC c' k e, up2_c _ _ (by omega)]
theorem hB_keep (hT : aTabOk) (hc : tCtOk (356, [(0, 128, 0, 0), (0, 129, 0, 0), (0, 130, 0, 0)], none, [(121, 0, 3999, 1, 0)], 1, [(120, 121)], [])) : hBoth 230 362 0 false := fun M hM hR as ha => by
  match as, ha with
  | [], _ =>
    obtain ⟨K1, r1, M1, q1, ⟨x1, rfl⟩, t1, f1⟩ := s_end (xkeep_run hT hM rfl) (show 30 ≤ 149 by decide)
    obtain ⟨K2, r2, M2, q2, ⟨x2, rfl, -⟩, t2, f2⟩ := s_end (mkeep_run hT hc t1 rfl) (show 30 ≤ 149 by decide)
    rw [f1] at f2
    refine ⟨K1, M1, K2, M2, x1, x2, q1, t1, q2, t2, ?_, fun z => by cases z⟩
    have h1 : lhRP (rdI M2) (rdI M2 120) := lhRP_cg (by rw [f2]; rfl) (fun i _ => by rw [f2]; rfl) (fun i _ => by rw [f2]; rfl) (by rw [f2]; rfl) (fun k _ _ => by rw [f2]; rfl) hR.1
    refine ⟨h1, by rw [f2]; rfl, fun _ => ?_⟩
    exact lhRP_cg (by rw [f2]; rfl) (fun i _ => by rw [f2]; rfl) (fun i _ => by rw [f2]; rfl) (by rw [f2]; rfl) (fun k _ _ => by rw [f2]; rfl) hR.1
theorem hB_back (hT : aTabOk) (hc : tCtOk (356, [(0, 128, 0, 0), (0, 130, 0, 0), (0, 129, 0, 0)], none, [(120, 0, 3999, 1, 0)], 1, [(121, 120)], [])) : hBoth 231 363 0 false := fun M hM hR as ha => by
  match as, ha with
  | [], _ =>
    obtain ⟨K1, r1, M1, q1, ⟨x1, rfl, -⟩, t1, f1⟩ := s_end (xback_run hT hM rfl) (show 30 ≤ 149 by decide)
    obtain ⟨K2, r2, M2, q2, ⟨x2, rfl, -⟩, t2, f2⟩ := s_end (mback_run hT hc t1 rfl) (show 30 ≤ 149 by decide)
    refine ⟨K1, M1, K2, M2, x1, x2, q1, t1, q2, t2, ?_, fun z => by cases z⟩
    by_cases h : rdI M 0 2 = 0
    · rw [if_pos h] at f1
      rw [f1, if_pos (by rw [← hR.2.1]; exact h)] at f2
      exact lwR_keep (fun p _ k _ _ => by rw [f2]) hR
    · rw [if_neg h] at f1
      have h3 : ¬ rdI M1 119 3 = 0 := by rw [f1]; show ¬ rdI M 119 3 = 0; rw [← hR.2.1]; exact h
      rw [if_neg h3, f1] at f2
      refine ⟨?_, ?_, fun _ => ?_⟩
      · exact lhRP_cg (by rw [f2]; rfl) (fun i _ => by rw [f2]; rfl) (fun i _ => by rw [f2]; rfl) (by rw [f2]; rfl) (fun k _ _ => by rw [f2]; rfl) (hR.2.2 h)
      · rw [f2]
        show rdI M 0 2 = rdI M 119 3
        exact hR.2.1
      · exact lhRP_cg (by rw [f2]; rfl) (fun i _ => by rw [f2]; rfl) (fun i _ => by rw [f2]; rfl) (by rw [f2]; rfl) (fun k _ _ => by rw [f2]; rfl) (hR.2.2 h)
