/-! THE TYPED MACHINE: memory, loads -/
/-- a number of a paper -/
def yPk (f : Nat → Int32) (k o : Nat) : Int := (f (160 + 10 * k + o)).toInt
/-- what a paper's kind tells of the others it names -/
def yPap (f : Nat → Int32) (k : Nat) : Prop :=
  (((2 ≤ yPk f k 0 ∧ yPk f k 0 ≤ 5) ∨ yPk f k 0 = 7) → 0 ≤ yPk f k 1 ∧ yPk f k 1 < (k : Int) ∧ yPk f (yPk f k 1).toNat 0 = 1) ∧
  (yPk f k 0 = 6 → 0 ≤ yPk f k 2 ∧ yPk f k 2 < (k : Int)) ∧
  (yPk f k 0 = 3 → 0 ≤ yPk f k 4 ∧ yPk f k 4 < (k : Int) ∧ 2 ≤ yPk f (yPk f k 4).toNat 0 ∧ yPk f (yPk f k 4).toNat 0 ≤ 3)
/-- a step of a text, by the pile's height -/
def yStp (w v d d' : Int) : Prop := (w ≠ 2 → d' = d + 1 ∧ (w = 0 ∨ (0 ≤ v ∧ v < 128))) ∧ (w = 2 → v = 33 → 1 ≤ d ∧ d' = d) ∧ (w = 2 → v ≠ 33 → 2 ≤ d ∧ d' = d - 1)
def yTx1 (f : Nat → Int32) (t : Nat) : Prop := (f (1010 + 200 * t + 3)).toInt ≤ 96 ∧ ∃ dep : Nat → Int, dep 0 = 0 ∧ ∀ j : Nat, (j : Int) < (f (1010 + 200 * t + 3)).toInt → yStp (f (1010 + 200 * t + 4 + 2 * j)).toInt (f (1010 + 200 * t + 4 + 2 * j + 1)).toInt (dep j) (dep (j + 1))
def yP (f : Nat → Int32) : Prop := (f 5).toInt ≤ 40 ∧ (∀ k : Nat, (k : Int) < (f 5).toInt → yPap f k) ∧ (f 6).toInt ≤ 12 ∧ ∀ t : Nat, t < 12 → yTx1 f t ∧ ((f 6).toInt ≤ (t : Int) → (f (1010 + 200 * t + 3)).toInt = 0)
def yFt (ft : Nat × Nat × Int × Int) (v : Value) : Prop := match ft with
  | (0, r, _, _) => v = .ref r
  | (_, _, lo, hi) => ∃ x : Int32, v = .int x ∧ lo ≤ x.toInt ∧ x.toInt ≤ hi
def yFs (fts : List (Nat × Nat × Int × Int)) (fs : List Value) : Prop := fs.length = fts.length ∧ ∀ (k : Nat) (ft : Nat × Nat × Int × Int), fts[k]? = some ft → ∃ v, fs[k]? = some v ∧ yFt ft v
def yCel (t : tC) (c : mCe) : Prop := match t, c with
  | .inl (n, tag, regs), .inl (n', f) => n' = n ∧ yT regs n f ∧ (tag = 1 → yP f)
  | .inr (ci, fts), .inr (ci', fs) => ci' = ci ∧ yFs fts fs
  | _, _ => False
def yTy (M : mHe) : Prop := M.length = tNc ∧ ∀ (c : Nat) (t : tC), tTy c = some t → ∃ m, M[c]? = some m ∧ yCel t m
theorem yTy_arr {M : mHe} {c n tag : Nat} {regs : List tR} (h : yTy M) (ht : tTy c = some (.inl (n, tag, regs))) : ∃ f, M[c]? = some (.inl (n, f)) ∧ yT regs n f ∧ (tag = 1 → yP f) := by
  obtain ⟨m, h1, h2⟩ := h.2 c _ ht
  unfold yCel at h2
  split at h2
  · next e2 => cases e2; exact ⟨_, by rw [h1, h2.1], h2.2.1, h2.2.2⟩
  · next e2 => cases e2
  · exact h2.elim
theorem yTy_obj {M : mHe} {c ci : Nat} {fts : List (Nat × Nat × Int × Int)} (h : yTy M) (ht : tTy c = some (.inr (ci, fts))) : ∃ fs, M[c]? = some (.inr (ci, fs)) ∧ yFs fts fs := by
  obtain ⟨m, h1, h2⟩ := h.2 c _ ht
  unfold yCel at h2
  split at h2
  · next e2 => cases e2
  · next e2 => cases e2; exact ⟨_, by rw [h1, h2.1], h2.2⟩
  · exact h2.elim
theorem tTy_lt {c : Nat} {t : tC} (h : tTy c = some t) : c < 144 := by
  unfold tTy at h
  split at h
  · cases h
  · next l hl =>
    have := (List.getElem?_eq_some_iff.mp hl).1
    have h2 : tTys.length = 12 := rfl
    omega
theorem yRd_arr (xs : Nat × (Nat → Int32)) {M : mHe} {c n k : Nat} {f : Nat → Int32} (hc : c < 144) (h : M[c]? = some (.inl (n, f))) (hk : k < n) : yRd xs M c k = some (.int (f k)) := by
  unfold yRd
  rw [if_neg (by omega), h]
  simp only
  rw [if_pos hk]
theorem yRd_obj (xs : Nat × (Nat → Int32)) {M : mHe} {c ci : Nat} {fs : List Value} (hc : c < 144) (h : M[c]? = some (.inr (ci, fs))) (k : Nat) : yRd xs M c k = fs[k]? := by
  unfold yRd
  rw [if_neg (by omega), h]
theorem xE_new {E : List Int} {cs : aC} {l h e : Int} (hE : xE E cs) (hr : -2147483648 ≤ e ∧ e ≤ 2147483647) (h1 : l ≤ e) (h2 : e ≤ h) : xE (E ++ [e]) (cs.1 ++ [(l, h)], cs.2) := by
  obtain ⟨a1, a2, a3, a4⟩ := hE
  refine ⟨by simp [a1], fun i e' hi => ?_, fun i l' u e' hb hi => ?_, fun t ht => ?_⟩
  · by_cases hlt : i < E.length
    · rw [List.getElem?_append_left hlt] at hi; exact a2 i e' hi
    · rw [List.getElem?_append_right (by omega)] at hi
      have := (List.getElem?_eq_some_iff.mp hi).1
      simp at this
      have : i - E.length = 0 := by omega
      rw [this] at hi
      cases hi; exact hr
  · simp only at hb
    by_cases hlt : i < E.length
    · rw [List.getElem?_append_left hlt] at hi
      rw [List.getElem?_append_left (by omega)] at hb
      exact a3 i l' u e' hb hi
    · rw [List.getElem?_append_right (by omega)] at hi
      rw [List.getElem?_append_right (by omega)] at hb
      have := (List.getElem?_eq_some_iff.mp hi).1
      simp at this
      have h3 : i - E.length = 0 := by omega
      have h4 : i - cs.1.length = 0 := by omega
      rw [h3] at hi
      rw [h4] at hb
      cases hi; cases hb; exact ⟨h1, h2⟩
  · obtain ⟨e1, e2, b1, b2, b3⟩ := a4 t ht
    exact ⟨e1, e2, get_app b1, get_app b2, b3⟩
theorem get_new (E : List Int) (e : Int) : (E ++ [e])[E.length]? = some e := by simp
abbrev tLr : Type := List (aV × aC × tF)
/-- a new number -/
def tNw (cs : aC) (fs : tF) (p : Option tP) (l h : Int) : tLr := bif ieq l h then [(kI l, cs, fs)] else [((4, cs.1.length, 0, 0), (cs.1 ++ [(l, h)], cs.2), (match p with
  | none => fs
  | some p => (p, (4, cs.1.length, 0, 0)) :: fs))]
/-- what a load's results have to hold -/
def yLr (xs : Nat × (Nat → Int32)) (E : List Int) (M : mHe) (v : Value) (r : tLr) : Prop := ∃ b ∈ r, ∃ X : List Int, xE (E ++ X) b.2.1 ∧ yV (E ++ X) b.1 v ∧ yF xs (E ++ X) b.2.2 M
theorem yLr_0 {xs : Nat × (Nat → Int32)} {E : List Int} {M : mHe} {v : Value} {cs : aC} {fs : tF} {a : aV} (hE : xE E cs) (hF : yF xs E fs M) (hv : yV E a v) : yLr xs E M v [(a, cs, fs)] := ⟨_, List.mem_singleton_self _, [], by simpa using hE, by simpa using hv, by simpa using hF⟩
theorem tNw_ok {xs : Nat × (Nat → Int32)} {E : List Int} {M : mHe} {cs : aC} {fs : tF} {p : Option tP} {l h : Int} {x : Int32} (hE : xE E cs) (hF : yF xs E fs M) (h1 : l ≤ x.toInt) (h2 : x.toInt ≤ h) (hp : ∀ q, p = some q → ∃ k : Nat, yIx E q = some (k : Int) ∧ yRd xs M q.1 k = some (.int x)) : yLr xs E M (.int x) (tNw cs fs p l h) := by
  unfold tNw
  cases hc : ieq l h
  · rw [cond_false]
    have hE' := xE_new (h := h) (l := l) hE ⟨i32_lo x, i32_hi x⟩ h1 h2
    have hn : yI (E ++ [x.toInt]) (4, cs.1.length, 0, 0) x := ⟨rfl, x.toInt, by rw [← hE.1]; exact get_new E _, by omega⟩
    refine ⟨_, List.mem_singleton_self _, [x.toInt], hE', hn, ?_⟩
    cases p with
    | none => exact yF_app hF
    | some p =>
      intro q hq
      rcases List.mem_cons.mp hq with rfl | hq
      · obtain ⟨k, k1, k2⟩ := hp p rfl
        exact ⟨k, yIx_app k1, _, k2, hn⟩
      · exact yF1_app (hF q hq)
  · have := (ieq_iff l h).mp hc
    exact yLr_0 hE hF (yI_kI E (by omega))
/-- a number that is known -/
def tOl (cs : aC) (fs : tF) (p : tP) (v : aV) : tLr := match v with
  | (2, _, l, h) => tNw cs fs (some p) l h
  | (9, i, a, j) => (match tBd cs (9, i, a, j) with
    | (l, h) => tNw cs fs (some p) l h)
  | _ => [(v, cs, fs)]
theorem tOl_ok {xs : Nat × (Nat → Int32)} {E : List Int} {M : mHe} {cs : aC} {fs : tF} {p : tP} {v : aV} {x : Int32} {k : Nat} (hE : xE E cs) (hF : yF xs E fs M) (hv : yI E v x) (hp : yIx E p = some (k : Int)) (hr : yRd xs M p.1 k = some (.int x)) : yLr xs E M (.int x) (tOl cs fs p v) := by
  have hq : ∀ q, some p = some q → ∃ k : Nat, yIx E q = some (k : Int) ∧ yRd xs M q.1 k = some (.int x) := fun q e => by cases e; exact ⟨k, hp, hr⟩
  unfold tOl
  split
  · exact tNw_ok hE hF hv.2.1 hv.2.2 hq
  · next i a j =>
    have := tBd_N hE hv.2
    generalize tBd cs (9, i, a, j) = r at this ⊢
    obtain ⟨l, h⟩ := r
    exact tNw_ok hE hF this.1 this.2 hq
  · exact yLr_0 hE hF hv
/-- the bounds of a paper's kind, where it is known -/
def tKd (cs : aC) (fs : tF) (c i : Nat) : Int × Int := match tFind fs (c, i, 160, 10) with
  | none => (-2147483648, 2147483647)
  | some v => tBd cs v
/-- an atom is a paper's number -/
def tLtN (cs : aC) (fs : tF) (c i : Nat) : Bool := (match aBs cs i with
  | (l, _) => ile 0 l) && (match tFind fs (c, 0, 5, 0) with
  | none => false
  | some n => tImp cs (4, i, 0, 0) n (-1))
/-- what the kind tells: the number is a paper's that is ahead; of which kinds -/
def tRul (cs : aC) (fs : tF) (p : tP) : Option (Option (Int × Int)) := bif Nat.beq p.2.2.2 10 && ile 161 p.2.2.1 && ile p.2.2.1 164 then (match tKd cs fs p.1 p.2.1 with
  | (kl, kh) => bif ieq p.2.2.1 161 then (bif ((ile 2 kl && ile kh 5) || (ieq kl 7 && ieq kh 7)) && tLtN cs fs p.1 p.2.1 then some (some (1, 1)) else none) else bif ieq p.2.2.1 162 then (bif ieq kl 6 && ieq kh 6 && tLtN cs fs p.1 p.2.1 then some none else none) else bif ieq p.2.2.1 164 then (bif ieq kl 3 && ieq kh 3 && tLtN cs fs p.1 p.2.1 then some (some (2, 3)) else none) else none) else none
def tLdR (cs : aC) (fs : tF) (p : tP) (kd : Option (Int × Int)) : tLr := (tLe (cs.1 ++ [(0, 39)], cs.2) (4, cs.1.length, 0, 0) (4, p.2.1, 0, 0) (-1)).map (fun c => ((4, cs.1.length, 0, 0), c, (match kd with
  | none => []
  | some (a, z) => [((p.1, cs.1.length, 160, 10), (2, 0, a, z))]) ++ (p, (4, cs.1.length, 0, 0)) :: fs))
def tLd1 (cs : aC) (fs : tF) (tag : Nat) (regs : List tR) (l h : Int) (p : Option tP) : tLr := match p with
  | none => (match tRd regs l h none with
    | (a, z) => tNw cs fs none a z)
  | some p => match tFind fs p with
    | some v => tOl cs fs p v
    | none => match (bif Nat.beq tag 1 then tRul cs fs p else none) with
      | some kd => tLdR cs fs p kd
      | none => match tRd regs l h (some p) with
        | (a, z) => tNw cs fs (some p) a z
/-- an array's number -/
def tLd (cs : aC) (fs : tF) (c : Nat) (i : aV) : Option tLr := match tTy c with
  | some (.inl (n, tag, regs)) => match tBd cs i with
    | (l, h) => bif tIsI i && ile 0 l && ilt h (Int.ofNat n) then some (tLd1 cs fs tag regs l h (tPl cs c i)) else none
  | _ => none
section TLD
variable {xs : Nat × (Nat → Int32)} {E : List Int} {M : mHe} {cs : aC} {fs : tF}
theorem yF_at {p : tP} {v : aV} {n : Int} {w : Value} {k : Nat} (h : yF1 xs E M (p, v)) (hp : yIx E p = some n) (hk : n = (k : Int)) (hr : yRd xs M p.1 k = some w) : yV E v w := by
  obtain ⟨k', h1, w', h2, h3⟩ := h
  simp only at h1 h2 h3
  rw [hp] at h1
  have : k' = k := by
    have := Option.some.inj h1
    omega
  subst this
  rw [hr] at h2
  cases h2; exact h3
theorem yIx_10 {c i : Nat} {a e : Int} (he : E[i]? = some e) : yIx E (c, i, a, 10) = some (e * 10 + a) := by
  unfold yIx
  simp only
  rw [if_neg (by omega), he]
  rfl
/-- kind and number of a paper that is known -/
theorem tKd_ok {c i n : Nat} {f : Nat → Int32} {e : Int} (hE : xE E cs) (hF : yF xs E fs M) (hc : c < 144) (hM : M[c]? = some (.inl (n, f))) (hi : E[i]? = some e) (h0 : 0 ≤ e) (hn : 160 + 10 * e.toNat < n) : (tKd cs fs c i).1 ≤ yPk f e.toNat 0 ∧ yPk f e.toNat 0 ≤ (tKd cs fs c i).2 := by
  unfold tKd
  split
  · exact ⟨i32_lo _, i32_hi _⟩
  · next v hv =>
    have h1 := yF_find hF hv
    have hx := yIx_10 (c := c) (a := 160) hi
    have hr := yRd_arr xs hc hM hn
    have h2 := yF_at (k := 160 + 10 * e.toNat) h1 hx (by omega) hr
    exact tBd_N hE h2.2
theorem tLtN_ok {c i n : Nat} {f : Nat → Int32} {e : Int} (hE : xE E cs) (hF : yF xs E fs M) (hc : c < 144) (hM : M[c]? = some (.inl (n, f))) (hn : 5 < n) (hi : E[i]? = some e) (h : tLtN cs fs c i = true) : 0 ≤ e ∧ e < (f 5).toInt := by
  unfold tLtN at h
  rw [Bool.and_eq_true] at h
  have hb := aBs_ok hE hi
  have h1 : 0 ≤ e := by
    have := h.1
    generalize aBs cs i = r at this hb
    obtain ⟨l, u⟩ := r
    simp only [ile_iff] at this hb
    omega
  refine ⟨h1, ?_⟩
  have h2 := h.2
  split at h2
  · cases h2
  · next v hv =>
    have h3 := yF_at (n := 5) (k := 5) (yF_find hF hv) rfl rfl (yRd_arr xs hc hM hn)
    have h4 : yN E (4, i, 0, 0) e := ⟨e, hi, by omega⟩
    have := tImp_ok hE h4 h3.2 h2
    omega
theorem tRul_ok {p : tP} {n k : Nat} {f : Nat → Int32} {kd : Option (Int × Int)} (hE : xE E cs) (hF : yF xs E fs M) (hc : p.1 < 144) (hM : M[p.1]? = some (.inl (n, f))) (hn : n = 4000) (hP : yP f) (hk : yIx E p = some (k : Int)) (h : tRul cs fs p = some kd) :
    ∃ e : Int, E[p.2.1]? = some e ∧ e ≤ 39 ∧ 0 ≤ (f k).toInt ∧ (f k).toInt < e ∧ ∀ a z, kd = some (a, z) → a ≤ yPk f (f k).toInt.toNat 0 ∧ yPk f (f k).toInt.toNat 0 ≤ z := by
  obtain ⟨c, i, a, b⟩ := p
  subst hn
  unfold tRul at h
  simp only at h hc hM hk ⊢
  cases hb : (Nat.beq b 10 && ile 161 a && ile a 164)
  · rw [hb] at h; cases h
  · rw [hb, cond_true] at h
    rw [Bool.and_eq_true, Bool.and_eq_true, ile_iff, ile_iff] at hb
    have hb1 := Nat.eq_of_beq_eq_true hb.1.1
    subst hb1
    obtain ⟨e, he, hke⟩ : ∃ e, E[i]? = some e ∧ e * 10 + a = (k : Int) := by
      unfold yIx at hk
      simp only at hk
      rw [if_neg (by omega)] at hk
      obtain ⟨e, he, h2⟩ := Option.map_eq_some_iff.mp hk
      exact ⟨e, he, h2⟩
    have core : tLtN cs fs c i = true → 0 ≤ e ∧ e ≤ 39 ∧ yPap f e.toNat ∧ (tKd cs fs c i).1 ≤ yPk f e.toNat 0 ∧ yPk f e.toNat 0 ≤ (tKd cs fs c i).2 ∧ ∀ o : Nat, a = 160 + o → (f k).toInt = yPk f e.toNat o := by
      intro hl
      have h1 := tLtN_ok hE hF hc hM (by omega) he hl
      have h2 := hP.1
      have h3 := hP.2.1 e.toNat (by omega)
      have h4 := tKd_ok hE hF hc hM he h1.1 (by omega)
      refine ⟨h1.1, by omega, h3, h4.1, h4.2, fun o ho => ?_⟩
      unfold yPk
      rw [show k = 160 + 10 * e.toNat + o by omega]
    refine ⟨e, he, ?_⟩
    generalize tKd cs fs c i = r at h core
    obtain ⟨kl, kh⟩ := r
    simp only at h core
    cases h1 : ieq a 161
    · rw [h1, cond_false] at h
      cases h2 : ieq a 162
      · rw [h2, cond_false] at h
        cases h3 : ieq a 164
        · rw [h3] at h; cases h
        · rw [h3, cond_true] at h
          have h3 := (ieq_iff _ _).mp h3
          cases hz : (ieq kl 3 && ieq kh 3 && tLtN cs fs c i)
          · rw [hz] at h; cases h
          · rw [hz, cond_true] at h
            cases h
            rw [Bool.and_eq_true, Bool.and_eq_true, ieq_iff, ieq_iff] at hz
            obtain ⟨c1, c2, c3, c4, c5, c6⟩ := core hz.2
            have c6 := c6 4 (by omega)
            obtain ⟨d1, d2, d3, d4⟩ := c3.2.2 (by omega)
            refine ⟨c2, by omega, by omega, fun a z ea => ?_⟩
            cases ea
            rw [c6]; exact ⟨d3, d4⟩
      · rw [h2, cond_true] at h
        have h2 := (ieq_iff _ _).mp h2
        cases hz : (ieq kl 6 && ieq kh 6 && tLtN cs fs c i)
        · rw [hz] at h; cases h
        · rw [hz, cond_true] at h
          cases h
          rw [Bool.and_eq_true, Bool.and_eq_true, ieq_iff, ieq_iff] at hz
          obtain ⟨c1, c2, c3, c4, c5, c6⟩ := core hz.2
          have c6 := c6 2 (by omega)
          obtain ⟨d1, d2⟩ := c3.2.1 (by omega)
          exact ⟨c2, by omega, by omega, fun a z ea => by cases ea⟩
    · rw [h1, cond_true] at h
      have h1 := (ieq_iff _ _).mp h1
      cases hz : (((ile 2 kl && ile kh 5) || (ieq kl 7 && ieq kh 7)) && tLtN cs fs c i)
      · rw [hz] at h; cases h
      · rw [hz, cond_true] at h
        cases h
        rw [Bool.and_eq_true, Bool.or_eq_true, Bool.and_eq_true, Bool.and_eq_true, ile_iff, ile_iff, ieq_iff, ieq_iff] at hz
        obtain ⟨c1, c2, c3, c4, c5, c6⟩ := core hz.2
        have c6 := c6 1 (by omega)
        obtain ⟨d1, d2, d3⟩ := c3.1 (by omega)
        refine ⟨c2, by omega, by omega, fun a z ea => ?_⟩
        cases ea
        rw [c6, d3]; exact ⟨Int.le_refl _, Int.le_refl _⟩
theorem tLdR_ok {p : tP} {n k : Nat} {f : Nat → Int32} {kd : Option (Int × Int)} (hE : xE E cs) (hF : yF xs E fs M) (hc : p.1 < 144) (hM : M[p.1]? = some (.inl (n, f))) (hn : n = 4000) (hkn : k < n) (hP : yP f) (hk : yIx E p = some (k : Int)) (h : tRul cs fs p = some kd) : yLr xs E M (.int (f k)) (tLdR cs fs p kd) := by
  obtain ⟨e, he, h39, h0, h1, h2⟩ := tRul_ok hE hF hc hM hn hP hk h
  have hE' := xE_new (l := 0) (h := 39) hE ⟨i32_lo (f k), i32_hi (f k)⟩ h0 (by omega)
  have hv : yN (E ++ [(f k).toInt]) (4, cs.1.length, 0, 0) (f k).toInt := ⟨_, by rw [← hE.1]; exact get_new E _, by omega⟩
  have hi : yN (E ++ [(f k).toInt]) (4, p.2.1, 0, 0) e := ⟨e, get_app he, by omega⟩
  obtain ⟨c, hcm, hcE⟩ := tLe_ok hE' hv hi (d := -1) (by omega)
  refine ⟨_, List.mem_map.mpr ⟨c, hcm, rfl⟩, [(f k).toInt], hcE, ⟨rfl, hv⟩, ?_⟩
  intro q hq
  rcases List.mem_append.mp hq with hq | hq
  · cases kd with
    | none => cases hq
    | some az =>
      obtain ⟨a, z⟩ := az
      rw [List.mem_singleton.mp hq]
      have h3 := h2 a z rfl
      have hlt : 160 + 10 * (f k).toInt.toNat < n := by omega
      refine ⟨160 + 10 * (f k).toInt.toNat, ?_, .int (f (160 + 10 * (f k).toInt.toNat)), yRd_arr xs hc hM hlt, rfl, h3⟩
      rw [yIx_10 (by rw [← hE.1]; exact get_new E _)]
      congr 1; omega
  · rcases List.mem_cons.mp hq with rfl | hq
    · exact ⟨k, yIx_app hk, _, yRd_arr xs hc hM hkn, rfl, hv⟩
    · exact yF1_app (hF q hq)
theorem tLd_ok {c : Nat} {i : aV} {x : Int32} {r : tLr} (hE : xE E cs) (hF : yF xs E fs M) (hT : yTy M) (hi : yN E i x.toInt) (h : tLd cs fs c i = some r) :
    ∃ n f, M[c]? = some (.inl (n, f)) ∧ ¬ x < 0 ∧ x.toNatClampNeg < n ∧ yLr xs E M (.int (f x.toNatClampNeg)) r := by
  unfold tLd at h
  split at h
  · next n tag regs ht =>
    have hc := tTy_lt ht
    obtain ⟨f, hM, hf, hP⟩ := yTy_arr hT ht
    have hb := tBd_N hE hi
    have hpl : ∀ p, tPl cs c i = some p → p.1 = c ∧ yIx E p = some x.toInt := fun p hp => tPl_ok hE hi hp
    generalize tPl cs c i = pp at h hpl
    generalize tBd cs i = bb at h hb
    obtain ⟨l, u⟩ := bb
    simp only at h hb
    cases hz : (tIsI i && ile 0 l && ilt u (Int.ofNat n))
    · rw [hz] at h; cases h
    · rw [hz, cond_true] at h
      cases h
      rw [Bool.and_eq_true, Bool.and_eq_true, ile_iff, ilt_iff] at hz
      have hnn : (Int.ofNat n : Int) = (n : Int) := rfl
      have hx0 : 0 ≤ x.toInt := by omega
      have hk : (x.toNatClampNeg : Int) = x.toInt := by
        show ((x.toInt.toNat : Nat) : Int) = x.toInt
        omega
      have hkn : x.toNatClampNeg < n := by omega
      refine ⟨n, f, hM, ?_, hkn, ?_⟩
      · intro hlt
        rw [Int32.lt_iff_toInt_lt] at hlt
        have : (0 : Int32).toInt = 0 := rfl
        omega
      generalize x.toNatClampNeg = k at hk hkn
      rw [← hk] at hpl
      have hq : ∀ q, pp = some q → yIx E q = some (k : Int) := fun q hq => (hpl q hq).2
      have hrd := yRd_arr xs hc hM hkn
      unfold tLd1
      split
      · have := tRd_ok (E := E) (l := l) (h := u) (p := none) hf hkn (by omega) (by omega) (fun q e => by cases e)
        generalize tRd regs l u none = r at this ⊢
        obtain ⟨a, z⟩ := r
        exact tNw_ok hE hF this.1 this.2 (fun q e => by cases e)
      · next p =>
        obtain ⟨hp1, hp2⟩ := hpl p rfl
        subst hp1
        split
        · next v hv => exact tOl_ok hE hF (yF_at (yF_find hF hv) hp2 rfl hrd) hp2 hrd
        · split
          · next kd hkd =>
            cases htag : Nat.beq tag 1
            · rw [htag] at hkd; cases hkd
            · rw [htag, cond_true] at hkd
              have htag := Nat.eq_of_beq_eq_true htag
              have hn : n = 4000 := by
                subst htag
                have hall : ∀ c, c < 144 → ∀ n regs, tTy c = some (.inl (n, 1, regs)) → n = 4000 := by
                  intro c hc n regs ht
                  have hz : ((List.range 144).all (fun c => match tTy c with
                    | some (.inl (n, tag, _)) => !(Nat.beq tag 1) || Nat.beq n 4000
                    | _ => true)) = true := by decide +kernel
                  have := List.all_eq_true.mp hz c (List.mem_range.mpr hc)
                  rw [ht] at this
                  simpa using this
                exact hall _ hc n regs ht
              exact tLdR_ok hE hF hc hM hn hkn (hP htag) hp2 hkd
          · have := tRd_ok (E := E) (l := l) (h := u) (p := some p) hf hkn (by omega) (by omega) hq
            generalize tRd regs l u (some p) = r at this ⊢
            obtain ⟨a, z⟩ := r
            exact tNw_ok hE hF this.1 this.2 (fun q e => by cases e; exact ⟨k, hp2, hrd⟩)
  · cases h
/-- an object's field -/
def tLf (cs : aC) (fs : tF) (c k : Nat) (ft : Nat × Nat × Int × Int) : tLr := match ft with
  | (0, r, _, _) => [(kR r, cs, fs)]
  | (_, _, lo, hi) => match tFind fs (c, 0, Int.ofNat k, 0) with
    | some v => tOl cs fs (c, 0, Int.ofNat k, 0) v
    | none => tNw cs fs (some (c, 0, Int.ofNat k, 0)) lo hi
theorem tLf_ok {c k : Nat} {ft : Nat × Nat × Int × Int} {v : Value} (hE : xE E cs) (hF : yF xs E fs M) (hv : yFt ft v) (hr : yRd xs M c k = some v) : yLr xs E M v (tLf cs fs c k ft) := by
  unfold tLf
  unfold yFt at hv
  split
  · subst hv
    exact yLr_0 hE hF (yV_kR E _)
  · next lo hi hne =>
    split at hv
    · next heq => exact (hne (congrArg Prod.fst heq)).elim
    · next q1 q2 lo' hi' hne' heq =>
      cases heq
      obtain ⟨x, rfl, h1, h2⟩ := hv
      have hx : yIx E (c, 0, Int.ofNat k, 0) = some (k : Int) := rfl
      split
      · next a ha => exact tOl_ok hE hF (yF_at (yF_find hF ha) hx rfl hr) hx hr
      · exact tNw_ok hE hF h1 h2 (fun q e => by cases e; exact ⟨k, hx, hr⟩)
end TLD
