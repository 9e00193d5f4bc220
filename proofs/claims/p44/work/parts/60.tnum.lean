/-! THE TYPED MACHINE: its numbers. Kinds of values: 1 a reference, 2 an interval, 3 one of longs, 4 an atom and a number, 5 the same of longs, 6 an atom divided, 8 an atom times a number, and a number, 9 an atom less an atom, and a number; 11, 12, 13 ints with the sign of: atom less atom and number, atom and number, number less atom -/
def tBd (cs : aC) (v : aV) : Int × Int := match v with
  | (2, _, a, b) => (a, b)
  | (3, _, a, b) => (a, b)
  | (4, i, a, _) => match aBs cs i with
    | (l, h) => (l + a, h + a)
  | (5, i, a, _) => match aBs cs i with
    | (l, h) => (l + a, h + a)
  | (6, i, _, b) => match aBs cs i with
    | (l, h) => (l / b, h / b)
  | (8, i, a, b) => match aBs cs i with
    | (l, h) => (l * b + a, h * b + a)
  | (9, i, a, j) => match aBs cs i, aBs cs j.toNat with
    | (l, h), (l2, h2) => (l - h2 + a, h - l2 + a)
  | _ => (-2147483648, 2147483647)
def tIsI (v : aV) : Bool := match v with
  | (2, _, _, _) => true
  | (4, _, _, _) => true
  | (6, _, _, _) => true
  | (8, _, _, _) => true
  | (9, _, _, _) => true
  | (11, _, _, _) => true
  | (12, _, _, _) => true
  | (13, _, _, _) => true
  | _ => false
/-- a constant, if it is one -/
def tK (cs : aC) (v : aV) : Option Int := match tBd cs v with
  | (l, h) => bif ieq l h then some l else none
def ySg (n m : Int) : Prop := (n < 0 ↔ m < 0) ∧ (n = 0 ↔ m = 0)
def yRg (n : Int) : Prop := -2147483648 ≤ n ∧ n ≤ 2147483647
/-- a number that a value stands for -/
def yN (E : List Int) (a : aV) (n : Int) : Prop := match a with
  | (2, _, l, h) => l ≤ n ∧ n ≤ h
  | (3, _, l, h) => l ≤ n ∧ n ≤ h
  | (4, i, c, _) => ∃ e : Int, E[i]? = some e ∧ n = e + c
  | (5, i, c, _) => ∃ e : Int, E[i]? = some e ∧ n = e + c
  | (6, i, _, b) => ∃ e : Int, E[i]? = some e ∧ 0 < b ∧ n = e / b
  | (8, i, c, b) => ∃ e : Int, E[i]? = some e ∧ 0 < b ∧ n = e * b + c
  | (9, i, c, j) => ∃ e e2 : Int, E[i]? = some e ∧ E[j.toNat]? = some e2 ∧ n = e - e2 + c
  | (11, i, c, j) => yRg n ∧ ∃ e e2 : Int, E[i]? = some e ∧ E[j.toNat]? = some e2 ∧ ySg n (e - e2 + c)
  | (12, i, c, _) => yRg n ∧ ∃ e : Int, E[i]? = some e ∧ ySg n (e + c)
  | (13, i, c, _) => yRg n ∧ ∃ e : Int, E[i]? = some e ∧ ySg n (c - e)
  | _ => False
def yI (E : List Int) (a : aV) (x : Int32) : Prop := tIsI a = true ∧ yN E a x.toInt
def yL (E : List Int) (a : aV) (x : Int64) : Prop := aIsL a = true ∧ yN E a x.toInt
def yV (E : List Int) (a : aV) (v : Value) : Prop := match v with
  | .ref r => a.1 = 1 ∧ a.2.1 = r
  | .int x => yI E a x
  | .long x => yL E a x
  | _ => False
theorem tIsI_1 {a : aV} (h : tIsI a = true) : a.1 ≠ 1 ∧ aIsL a = false := by
  unfold tIsI at h
  split at h <;> first | exact ⟨by simp, rfl⟩ | cases h
theorem aIsL_1 {a : aV} (h : aIsL a = true) : a.1 ≠ 1 ∧ tIsI a = false := by
  unfold aIsL at h
  split at h <;> first | exact ⟨by simp, rfl⟩ | cases h
theorem yV_int {E : List Int} {a : aV} {v : Value} (ha : tIsI a = true) (h : yV E a v) : ∃ x : Int32, v = .int x ∧ yI E a x := by
  unfold yV at h
  split at h
  · exact absurd h.1 (tIsI_1 ha).1
  · exact ⟨_, rfl, h⟩
  · have := (tIsI_1 ha).2
    rw [h.1] at this; cases this
  · exact h.elim
theorem yV_long {E : List Int} {a : aV} {v : Value} (ha : aIsL a = true) (h : yV E a v) : ∃ x : Int64, v = .long x ∧ yL E a x := by
  unfold yV at h
  split at h
  · exact absurd h.1 (aIsL_1 ha).1
  · have := (aIsL_1 ha).2
    rw [h.1] at this; cases this
  · exact ⟨_, rfl, h⟩
  · exact h.elim
theorem yV_ref {E : List Int} {r : Nat} {b c : Int} {v : Value} (h : yV E (1, r, b, c) v) : v = .ref r := by
  unfold yV at h
  split at h
  · exact congrArg Value.ref h.2.symm
  · have := h.1; cases this
  · have := h.1; cases this
  · exact h.elim
theorem yV_kR (E : List Int) (r : Nat) : yV E (kR r) (.ref r) := ⟨rfl, rfl⟩
theorem yV_cat {E : List Int} {a : aV} {v : Value} (h : yV E a v) : v.category = aCat a := by
  unfold yV at h
  unfold aCat
  split at h
  · have : aIsL a = false := by
      obtain ⟨k, r, b, c⟩ := a
      have h1 : k = 1 := h.1
      subst h1; rfl
    rw [this]; rfl
  · rw [(tIsI_1 h.1).2]; rfl
  · rw [h.1]; rfl
  · exact h.elim
theorem yI_rg {E : List Int} {a : aV} {x : Int32} (_ : yI E a x) : yRg x.toInt := ⟨i32_lo x, i32_hi x⟩
theorem tBd_N {E : List Int} {cs : aC} {a : aV} {n : Int} (hE : xE E cs) (h : yN E a n) : (tBd cs a).1 ≤ n ∧ n ≤ (tBd cs a).2 := by
  unfold yN at h
  split at h
  · exact h
  · exact h
  · obtain ⟨e, he, h2⟩ := h
    have := aBs_ok hE he
    simp only [tBd]; omega
  · obtain ⟨e, he, h2⟩ := h
    have := aBs_ok hE he
    simp only [tBd]; omega
  · obtain ⟨e, he, hb, h2⟩ := h
    have := aBs_ok hE he
    simp only [tBd]
    rw [h2]
    exact ⟨ediv_mono this.1 hb, ediv_mono this.2 hb⟩
  · obtain ⟨e, he, hb, h2⟩ := h
    have := aBs_ok hE he
    have a1 := Int.mul_le_mul_of_nonneg_right this.1 (Int.le_of_lt hb)
    have a2 := Int.mul_le_mul_of_nonneg_right this.2 (Int.le_of_lt hb)
    simp only [tBd]
    omega
  · obtain ⟨e, e2, he, he2, h2⟩ := h
    have a1 := aBs_ok hE he
    have a2 := aBs_ok hE he2
    simp only [tBd]; omega
  · exact h.1
  · exact h.1
  · exact h.1
  · exact h.elim
theorem tK_ok {E : List Int} {cs : aC} {a : aV} {n k : Int} (hE : xE E cs) (h : yN E a n) (hk : tK cs a = some k) : n = k := by
  have hb := tBd_N hE h
  unfold tK at hk
  generalize tBd cs a = p at hk hb
  obtain ⟨l, u⟩ := p
  simp only at hk hb
  cases hc : ieq l u
  · rw [hc] at hk; cases hk
  · rw [hc] at hk
    have := (ieq_iff l u).mp hc
    simp only [cond_true, Option.some.injEq] at hk
    omega
theorem yI_2 (E : List Int) {l h : Int} {x : Int32} (h1 : l ≤ x.toInt) (h2 : x.toInt ≤ h) (j : Nat) : yI E (2, j, l, h) x := ⟨rfl, h1, h2⟩
theorem yI_kI (E : List Int) {c : Int} {x : Int32} (h : x.toInt = c) : yI E (kI c) x := yI_2 E (by omega) (by omega) 0
theorem yI_kF (E : List Int) (x : Int32) : yI E kF x := yI_2 E (i32_lo x) (i32_hi x) 0
theorem yI_mk (E : List Int) {l h : Int} {x : Int32} (h1 : in32 l h = true → l ≤ x.toInt ∧ x.toInt ≤ h) : yI E (mkI l h) x := by
  unfold mkI
  cases hc : in32 l h
  · exact yI_kF E x
  · exact yI_2 E (h1 hc).1 (h1 hc).2 0
/-- a value and a constant -/
def tAk (x : aV) (k : Int) : Option aV := match x with
  | (8, i, a, b) => some (8, i, a + k, b)
  | (4, i, a, _) => some (4, i, a + k, 0)
  | _ => none
theorem tAk_ok {E : List Int} {a v : aV} {n k : Int} (h : tAk a k = some v) (ha : yN E a n) : tIsI v = true ∧ yN E v (n + k) := by
  unfold tAk at h
  split at h
  · cases h
    obtain ⟨e, he, hb, h2⟩ := ha
    exact ⟨rfl, e, he, hb, by omega⟩
  · cases h
    obtain ⟨e, he, h2⟩ := ha
    exact ⟨rfl, e, he, by omega⟩
  · cases h
def tAk2 (c : Bool) (x : aV) (k : Int) : Option aV := bif c then tAk x k else none
theorem tAk2_ok {E : List Int} {a v : aV} {n k : Int} {c : Bool} (h : tAk2 c a k = some v) (ha : yN E a n) : c = true ∧ tIsI v = true ∧ yN E v (n + k) := by
  unfold tAk2 at h
  cases c
  · cases h
  · exact ⟨rfl, tAk_ok h ha⟩
def tAdd2 (x y : aV) (l1 h1 l2 h2 : Int) : aV := match tAk2 (ieq l2 h2) x l2 with
  | some v => v
  | none => match tAk2 (ieq l1 h1) y l1 with
    | some v => v
    | none => (2, 0, l1 + l2, h1 + h2)
def tAdd (cs : aC) (x y : aV) : aV := match tBd cs x, tBd cs y with
  | (l1, h1), (l2, h2) => bif in32 (l1 + l2) (h1 + h2) then tAdd2 x y l1 h1 l2 h2 else kF
theorem tAdd_ok {E : List Int} {cs : aC} {a b : aV} {x y : Int32} (hE : xE E cs) (ha : yI E a x) (hb : yI E b y) : yI E (tAdd cs a b) (x + y) := by
  have h1 := tBd_N hE ha.2
  have h2 := tBd_N hE hb.2
  unfold tAdd
  generalize tBd cs a = p at h1 ⊢
  generalize tBd cs b = r at h2 ⊢
  obtain ⟨l1, u1⟩ := p
  obtain ⟨l2, u2⟩ := r
  simp only at h1 h2 ⊢
  cases hc : in32 (l1 + l2) (u1 + u2)
  · exact yI_kF E _
  · have hr := (in32_iff _ _).mp hc
    have hs : (x + y).toInt = x.toInt + y.toInt := i32_add (by omega) (by omega)
    simp only [cond_true]
    unfold tAdd2
    split
    · next v hv =>
      obtain ⟨k1, k2, k3⟩ := tAk2_ok hv ha.2
      have := (ieq_iff _ _).mp k1
      refine ⟨k2, ?_⟩
      rw [hs, show y.toInt = l2 by omega]; exact k3
    · split
      · next v hv =>
        obtain ⟨k1, k2, k3⟩ := tAk2_ok hv hb.2
        have := (ieq_iff _ _).mp k1
        refine ⟨k2, ?_⟩
        rw [hs, Int.add_comm, show x.toInt = l1 by omega]; exact k3
      · exact yI_2 E (by omega) (by omega) 0
def tSb2 (x y : aV) (l1 h1 l2 h2 : Int) : aV := match x, y with
  | (4, i, a, _), (4, j, b, _) => bif Nat.beq i j then kI (a - b) else (9, i, a - b, .ofNat j)
  | _, _ => (2, 0, l1 - h2, h1 - l2)
def tSb (cs : aC) (x y : aV) : aV := match tBd cs x, tBd cs y with
  | (l1, h1), (l2, h2) => bif in32 (l1 - h2) (h1 - l2) then (match tAk2 (ieq l2 h2) x (-l2) with
    | some v => v
    | none => tSb2 x y l1 h1 l2 h2) else kF
theorem tSb_ok {E : List Int} {cs : aC} {a b : aV} {x y : Int32} (hE : xE E cs) (ha : yI E a x) (hb : yI E b y) : yI E (tSb cs a b) (x - y) := by
  have h1 := tBd_N hE ha.2
  have h2 := tBd_N hE hb.2
  unfold tSb
  generalize tBd cs a = p at h1 ⊢
  generalize tBd cs b = r at h2 ⊢
  obtain ⟨l1, u1⟩ := p
  obtain ⟨l2, u2⟩ := r
  simp only at h1 h2 ⊢
  cases hc : in32 (l1 - u2) (u1 - l2)
  · exact yI_kF E _
  · have hr := (in32_iff _ _).mp hc
    have hs : (x - y).toInt = x.toInt - y.toInt := i32_sub (by omega) (by omega)
    simp only [cond_true]
    split
    · next v hv =>
      obtain ⟨k1, k2, k3⟩ := tAk2_ok hv ha.2
      have := (ieq_iff _ _).mp k1
      refine ⟨k2, ?_⟩
      rw [hs, show x.toInt - y.toInt = x.toInt + -l2 by omega]; exact k3
    · unfold tSb2
      split
      · next i c _ j d _ _ =>
        obtain ⟨-, e, he, hx⟩ := ha
        obtain ⟨-, e', he', hy⟩ := hb
        cases h3 : Nat.beq i j
        · refine ⟨rfl, e, e', he, by simpa using he', ?_⟩
          omega
        · have hij : i = j := Nat.eq_of_beq_eq_true h3
          subst hij
          rw [he] at he'
          cases he'
          exact yI_kI E (by omega)
      · exact yI_2 E (by omega) (by omega) 0
def tMk (c : Bool) (x : aV) (k : Int) : Option aV := bif c && ilt 1 k then (match x with
  | (4, i, a, _) => some (8, i, a * k, k)
  | _ => none) else none
theorem tMk_ok {E : List Int} {a v : aV} {n k : Int} {c : Bool} (h : tMk c a k = some v) (ha : yN E a n) : c = true ∧ tIsI v = true ∧ yN E v (n * k) := by
  unfold tMk at h
  cases hc : (c && ilt 1 k)
  · rw [hc] at h; cases h
  · rw [hc, cond_true] at h
    rw [Bool.and_eq_true, ilt_iff] at hc
    split at h
    · cases h
      obtain ⟨e, he, h2⟩ := ha
      refine ⟨hc.1, rfl, e, he, by omega, ?_⟩
      rw [h2, Int.add_mul]
    · cases h
def tMul2 (x y : aV) (l1 h1 l2 h2 lo hi : Int) : aV := match tMk (ieq l1 h1) y l1 with
  | some v => v
  | none => match tMk (ieq l2 h2) x l2 with
    | some v => v
    | none => (2, 0, lo, hi)
def tMul3 (x y : aV) (l1 h1 l2 h2 lo hi : Int) : aV := bif in32 lo hi then tMul2 x y l1 h1 l2 h2 lo hi else kF
def tMul (cs : aC) (x y : aV) : aV := match tBd cs x, tBd cs y with
  | (l1, h1), (l2, h2) => tMul3 x y l1 h1 l2 h2 (imin (imin (l1 * l2) (l1 * h2)) (imin (h1 * l2) (h1 * h2))) (imax (imax (l1 * l2) (l1 * h2)) (imax (h1 * l2) (h1 * h2)))
theorem tMul_ok {E : List Int} {cs : aC} {a b : aV} {x y : Int32} (hE : xE E cs) (ha : yI E a x) (hb : yI E b y) : yI E (tMul cs a b) (x * y) := by
  have h1 := tBd_N hE ha.2
  have h2 := tBd_N hE hb.2
  unfold tMul
  generalize tBd cs a = p at h1 ⊢
  generalize tBd cs b = r at h2 ⊢
  obtain ⟨l1, u1⟩ := p
  obtain ⟨l2, u2⟩ := r
  simp only at h1 h2 ⊢
  have hm := mul_mono h1.1 h1.2 h2.1 h2.2
  generalize imin (imin (l1 * l2) (l1 * u2)) (imin (u1 * l2) (u1 * u2)) = lo at hm ⊢
  generalize imax (imax (l1 * l2) (l1 * u2)) (imax (u1 * l2) (u1 * u2)) = hi at hm ⊢
  unfold tMul3
  cases hc : in32 lo hi
  · exact yI_kF E _
  · have hr := (in32_iff _ _).mp hc
    have hs : (x * y).toInt = x.toInt * y.toInt := i32_mul (by omega) (by omega)
    simp only [cond_true]
    unfold tMul2
    split
    · next v hv =>
      obtain ⟨k1, k2, k3⟩ := tMk_ok hv hb.2
      have := (ieq_iff _ _).mp k1
      refine ⟨k2, ?_⟩
      rw [hs, Int.mul_comm, show x.toInt = l1 by omega]; exact k3
    · split
      · next v hv =>
        obtain ⟨k1, k2, k3⟩ := tMk_ok hv ha.2
        have := (ieq_iff _ _).mp k1
        refine ⟨k2, ?_⟩
        rw [hs, show y.toInt = l2 by omega]; exact k3
      · exact yI_2 E (by omega) (by omega) 0
def tDiv (cs : aC) (x y : aV) : Option aV := match tBd cs x, tBd cs y with
  | (l1, h1), (l2, h2) => bif ieq l2 h2 && ilt 0 l2 && ile 0 l1 then (match x with
    | (4, i, a, _) => bif ieq a 0 && !(ieq (l1 / l2) (h1 / l2)) then some (6, i, 0, l2) else some (2, 0, l1 / l2, h1 / l2)
    | _ => some (2, 0, l1 / l2, h1 / l2)) else (bif ilt 0 l2 || ilt h2 0 then some kF else none)
theorem tDiv_ok {E : List Int} {cs : aC} {a b v : aV} {x y : Int32} (hE : xE E cs) (ha : yI E a x) (hb : yI E b y) (h : tDiv cs a b = some v) : ¬ y = 0 ∧ yI E v (x / y) := by
  have h1 := tBd_N hE ha.2
  have h2 := tBd_N hE hb.2
  unfold tDiv at h
  generalize tBd cs a = p at h1 h
  generalize tBd cs b = r at h2 h
  obtain ⟨l1, u1⟩ := p
  obtain ⟨l2, u2⟩ := r
  simp only at h1 h2 h
  cases hk : (ieq l2 u2 && ilt 0 l2 && ile 0 l1)
  · rw [hk, cond_false] at h
    cases hz : (ilt 0 l2 || ilt u2 0)
    · rw [hz] at h; cases h
    · rw [hz, cond_true] at h
      cases h
      rw [Bool.or_eq_true, ilt_iff, ilt_iff] at hz
      exact ⟨i32_ne0 (by omega), yI_kF E _⟩
  · rw [hk, cond_true] at h
    rw [Bool.and_eq_true, Bool.and_eq_true, ieq_iff, ilt_iff, ile_iff] at hk
    obtain ⟨⟨k1, k2⟩, k3⟩ := hk
    have hd := i32_div (x := x) (y := y) (by omega) (by omega)
    have hyl : y.toInt = l2 := by omega
    have hI : yI E (2, 0, l1 / l2, u1 / l2) (x / y) := by
      refine yI_2 E ?_ ?_ 0
      · rw [hd, hyl]; exact ediv_mono h1.1 k2
      · rw [hd, hyl]; exact ediv_mono h1.2 k2
    refine ⟨i32_ne0 (by omega), ?_⟩
    split at h
    · next i c b1 =>
      cases hz : (ieq c 0 && !ieq (l1 / l2) (u1 / l2))
      · rw [hz, cond_false] at h; cases h; exact hI
      · rw [hz, cond_true] at h
        cases h
        rw [Bool.and_eq_true, ieq_iff] at hz
        obtain ⟨-, e, he, hx⟩ := ha
        exact ⟨rfl, e, he, k2, by rw [hd, hyl]; congr 1; omega⟩
    · cases h; exact hI
/-- what is left of a number whose quotient is known -/
def tRemQ (x : aV) (l1 h1 l2 : Int) : aV := match x with
  | (4, i, c, _) => (4, i, c - l1 / l2 * l2, 0)
  | _ => (2, 0, l1 - l1 / l2 * l2, h1 - l1 / l2 * l2)
theorem tRemQ_ok {E : List Int} {a : aV} {n l1 h1 l2 : Int} (hi : tIsI a = true) (ha : yN E a n) (hb : l1 ≤ n ∧ n ≤ h1) : tIsI (tRemQ a l1 h1 l2) = true ∧ yN E (tRemQ a l1 h1 l2) (n - l1 / l2 * l2) := by
  unfold tRemQ
  generalize l1 / l2 * l2 = z
  split
  · next i c z' =>
    obtain ⟨e, he, h2⟩ := ha
    exact ⟨rfl, e, he, by omega⟩
  · exact ⟨rfl, by show l1 - z ≤ n - z; omega, by show n - z ≤ h1 - z; omega⟩
def tRem (cs : aC) (x y : aV) : Option aV := match tBd cs x, tBd cs y with
  | (l1, h1), (l2, h2) => bif ieq l2 h2 && ilt 0 l2 && ile 0 l1 then (bif ieq l1 h1 then some (kI (l1 % l2)) else bif ieq (l1 / l2) (h1 / l2) then some (tRemQ x l1 h1 l2) else some (2, 0, 0, l2 - 1)) else (bif ilt 0 l2 || ilt h2 0 then some kF else none)
theorem tRem_ok {E : List Int} {cs : aC} {a b v : aV} {x y : Int32} (hE : xE E cs) (ha : yI E a x) (hb : yI E b y) (h : tRem cs a b = some v) : ¬ y = 0 ∧ yI E v (x - x / y * y) := by
  have h1 := tBd_N hE ha.2
  have h2 := tBd_N hE hb.2
  unfold tRem at h
  generalize tBd cs a = p at h1 h
  generalize tBd cs b = r at h2 h
  obtain ⟨l1, u1⟩ := p
  obtain ⟨l2, u2⟩ := r
  simp only at h1 h2 h
  cases hk : (ieq l2 u2 && ilt 0 l2 && ile 0 l1)
  · rw [hk, cond_false] at h
    cases hz : (ilt 0 l2 || ilt u2 0)
    · rw [hz] at h; cases h
    · rw [hz, cond_true] at h
      cases h
      rw [Bool.or_eq_true, ilt_iff, ilt_iff] at hz
      exact ⟨i32_ne0 (by omega), yI_kF E _⟩
  · rw [hk, cond_true] at h
    rw [Bool.and_eq_true, Bool.and_eq_true, ieq_iff, ilt_iff, ile_iff] at hk
    obtain ⟨⟨k1, k2⟩, k3⟩ := hk
    have hd := i32_div (x := x) (y := y) (by omega) (by omega)
    have hyl : y.toInt = l2 := by omega
    have hx0 : 0 ≤ x.toInt := by omega
    have e1 : x.toInt % l2 = x.toInt - l2 * (x.toInt / l2) := Int.emod_def _ _
    have e2 : 0 ≤ x.toInt % l2 := Int.emod_nonneg _ (by omega)
    have e3 : x.toInt % l2 < l2 := Int.emod_lt_of_pos _ k2
    have e4 : 0 ≤ x.toInt / l2 := Int.ediv_nonneg hx0 (by omega)
    have e5 : 0 ≤ l2 * (x.toInt / l2) := Int.mul_nonneg (by omega) e4
    have hxh := i32_hi x
    have hm : (x / y * y).toInt = l2 * (x.toInt / l2) := by
      have hq : (x / y).toInt * y.toInt = l2 * (x.toInt / l2) := by rw [hd, hyl, Int.mul_comm]
      rw [i32_mul (by rw [hq]; omega) (by rw [hq]; omega), hq]
    have hs : (x - x / y * y).toInt = x.toInt % l2 := by
      rw [i32_sub (by rw [hm]; omega) (by rw [hm]; omega), hm, e1]
    refine ⟨i32_ne0 (by omega), ?_⟩
    cases hz : ieq l1 u1
    · rw [hz, cond_false] at h
      cases hw : ieq (l1 / l2) (u1 / l2)
      · rw [hw, cond_false] at h
        cases h
        exact yI_2 E (by omega) (by omega) 0
      · rw [hw, cond_true] at h
        cases h
        have hw := (ieq_iff _ _).mp hw
        have m1 := ediv_mono h1.1 k2
        have m2 := ediv_mono h1.2 k2
        have hq : x.toInt / l2 = l1 / l2 := by omega
        obtain ⟨q1, q2⟩ := tRemQ_ok (l2 := l2) ha.1 ha.2 h1
        refine ⟨q1, ?_⟩
        rw [hs, e1, hq, Int.mul_comm]
        exact q2
    · rw [hz, cond_true] at h
      cases h
      have := (ieq_iff _ _).mp hz
      exact yI_kI E (by rw [hs]; congr 1; omega)
theorem tEx_ok {E : List Int} {f : Int32 → Int32 → Int32} {x y : Int32} {a b : Int} (h1 : x.toInt = a) (h2 : y.toInt = b) : yI E (aEx f a b) (f x y) := by
  subst h1; subst h2
  unfold aEx
  rw [Int32.ofInt_toInt, Int32.ofInt_toInt]
  exact yI_kI E rfl
def tEx2 (f : Int32 → Int32 → Int32) (cs : aC) (x y : aV) : aV := match tBd cs x, tBd cs y with
  | (l1, h1), (l2, h2) => bif ieq l1 h1 && ieq l2 h2 then aEx f l1 l2 else kF
theorem tEx2_ok {E : List Int} {cs : aC} {f : Int32 → Int32 → Int32} {a b : aV} {x y : Int32} (hE : xE E cs) (ha : yI E a x) (hb : yI E b y) : yI E (tEx2 f cs a b) (f x y) := by
  have h1 := tBd_N hE ha.2
  have h2 := tBd_N hE hb.2
  unfold tEx2
  generalize tBd cs a = p at h1 ⊢
  generalize tBd cs b = r at h2 ⊢
  obtain ⟨l1, u1⟩ := p
  obtain ⟨l2, u2⟩ := r
  simp only at h1 h2 ⊢
  cases hk : (ieq l1 u1 && ieq l2 u2)
  · exact yI_kF E _
  · rw [Bool.and_eq_true, ieq_iff, ieq_iff] at hk
    exact tEx_ok (by omega) (by omega)
def tAnd (cs : aC) (x y : aV) : aV := match tBd cs x, tBd cs y with
  | (l1, h1), (l2, h2) => bif ieq l1 h1 && ieq l2 h2 then aEx (fun a b => a &&& b) l1 l2 else (bif ile 0 l2 then (2, 0, 0, h2) else (bif ile 0 l1 then (2, 0, 0, h1) else kF))
theorem tAnd_ok {E : List Int} {cs : aC} {a b : aV} {x y : Int32} (hE : xE E cs) (ha : yI E a x) (hb : yI E b y) : yI E (tAnd cs a b) (x &&& y) := by
  have h1 := tBd_N hE ha.2
  have h2 := tBd_N hE hb.2
  unfold tAnd
  generalize tBd cs a = p at h1 ⊢
  generalize tBd cs b = r at h2 ⊢
  obtain ⟨l1, u1⟩ := p
  obtain ⟨l2, u2⟩ := r
  simp only at h1 h2 ⊢
  cases hk : (ieq l1 u1 && ieq l2 u2)
  · simp only [cond_false]
    cases hq : ile 0 l2
    · simp only [cond_false]
      cases hq1 : ile 0 l1
      · exact yI_kF E _
      · have := (ile_iff _ _).mp hq1
        have := i32_and (x := y) (y := x) (by omega)
        rw [i32_and_comm]
        exact yI_2 E (by omega) (by omega) 0
    · have := (ile_iff _ _).mp hq
      have := i32_and (x := x) (y := y) (by omega)
      exact yI_2 E (by omega) (by omega) 0
  · rw [Bool.and_eq_true, ieq_iff, ieq_iff] at hk
    exact tEx_ok (by omega) (by omega)
def tNeg (cs : aC) (x : aV) : aV := match tBd cs x with
  | (l, h) => mkI (-h) (-l)
theorem tNeg_ok {E : List Int} {cs : aC} {a : aV} {x : Int32} (hE : xE E cs) (ha : yI E a x) : yI E (tNeg cs a) (-x) := by
  have h1 := tBd_N hE ha.2
  unfold tNeg
  generalize tBd cs a = p at h1 ⊢
  obtain ⟨l1, u1⟩ := p
  simp only at h1 ⊢
  refine yI_mk E (fun hc => ?_)
  have hr := (in32_iff _ _).mp hc
  rw [Int32.toInt_neg, Int.bmod_eq_of_le (by omega) (by omega)]
  omega
def tI2l (cs : aC) (v : aV) : aV := match v with
  | (4, i, a, _) => (5, i, a, 0)
  | _ => match tBd cs v with
    | (l, h) => (3, 0, l, h)
theorem tI2l_ok {E : List Int} {cs : aC} {a : aV} {x : Int32} (hE : xE E cs) (ha : yI E a x) : yL E (tI2l cs a) x.toInt64 := by
  have h1 := tBd_N hE ha.2
  unfold tI2l
  split
  · obtain ⟨-, e, he, h2⟩ := ha
    exact ⟨rfl, e, he, by rw [Int32.toInt_toInt64]; exact h2⟩
  · generalize tBd cs a = p at h1 ⊢
    obtain ⟨l1, u1⟩ := p
    simp only at h1 ⊢
    exact ⟨rfl, by rw [Int32.toInt_toInt64]; exact h1.1, by rw [Int32.toInt_toInt64]; exact h1.2⟩
/-- a long that is an atom and a number, and a constant -/
def tLak (x : aV) (c : Bool) (k : Int) : Option aV := match x with
  | (5, i, a, _) => bif c then some (5, i, a + k, 0) else none
  | _ => none
theorem tLak_ok {E : List Int} {a v : aV} {n k : Int} {c : Bool} (h : tLak a c k = some v) (ha : yN E a n) : c = true ∧ aIsL v = true ∧ yN E v (n + k) := by
  unfold tLak at h
  split at h
  · cases c
    · cases h
    · cases h
      obtain ⟨e, he, h2⟩ := ha
      exact ⟨rfl, rfl, e, he, by omega⟩
  · cases h
def tLadd2 (x y : aV) (l1 h1 l2 h2 : Int) : aV := match tLak x (ieq l2 h2) l2 with
  | some v => v
  | none => match tLak y (ieq l1 h1) l1 with
    | some v => v
    | none => (3, 0, l1 + l2, h1 + h2)
def tLadd (cs : aC) (x y : aV) : aV := match tBd cs x, tBd cs y with
  | (l1, h1), (l2, h2) => bif in64 (l1 + l2) (h1 + h2) then tLadd2 x y l1 h1 l2 h2 else (3, 0, -9223372036854775808, 9223372036854775807)
theorem tLadd_ok {E : List Int} {cs : aC} {a b : aV} {x y : Int64} (hE : xE E cs) (ha : yL E a x) (hb : yL E b y) : yL E (tLadd cs a b) (x + y) := by
  have h1 := tBd_N hE ha.2
  have h2 := tBd_N hE hb.2
  unfold tLadd
  generalize tBd cs a = p at h1 ⊢
  generalize tBd cs b = r at h2 ⊢
  obtain ⟨l1, u1⟩ := p
  obtain ⟨l2, u2⟩ := r
  simp only at h1 h2 ⊢
  cases hk : in64 (l1 + l2) (u1 + u2)
  · have b1 := (x + y).le_toInt
    have b2 := (x + y).toInt_lt
    exact ⟨rfl, by omega, by omega⟩
  · have hr := (in64_iff _ _).mp hk
    have hs := i64_add (x := x) (y := y) (by omega) (by omega)
    rw [cond_true]
    unfold tLadd2
    split
    · next v hv =>
      obtain ⟨c1, c2, c3⟩ := tLak_ok hv ha.2
      have := (ieq_iff _ _).mp c1
      refine ⟨c2, ?_⟩
      rw [hs]
      rw [show y.toInt = l2 by omega]
      exact c3
    · split
      · next v hv =>
        obtain ⟨c1, c2, c3⟩ := tLak_ok hv hb.2
        have := (ieq_iff _ _).mp c1
        refine ⟨c2, ?_⟩
        rw [hs, Int.add_comm]
        rw [show x.toInt = l1 by omega]
        exact c3
      · exact ⟨rfl, by omega, by omega⟩
/-! constraints where x - y is d at most -/
def tLe3 (cs : aC) (i : Nat) (a : Int) (j : Nat) (b d l1 h1 l2 h2 : Int) : List aC := bif Nat.beq i j then (bif ile (a - b) d then [cs] else []) else bif ieq l2 h2 then rLe cs i (l2 + d - a) else bif ieq l1 h1 then rGe cs j (l1 - b - d) else rD cs i j (d + b - a)
def tLe2 (cs : aC) (x y : aV) (d l1 h1 l2 h2 : Int) : List aC := match x, y with
  | (4, i, a, _), (4, j, b, _) => tLe3 cs i a j b d l1 h1 l2 h2
  | (5, i, a, _), (5, j, b, _) => tLe3 cs i a j b d l1 h1 l2 h2
  | (4, i, a, _), _ => rLe cs i (h2 + d - a)
  | (5, i, a, _), _ => rLe cs i (h2 + d - a)
  | (9, i, a, j), _ => rD cs i j.toNat (h2 + d - a)
  | (6, i, _, b), _ => rLe cs i ((h2 + d + 1) * b - 1)
  | _, (4, j, b, _) => rGe cs j (l1 - b - d)
  | _, (5, j, b, _) => rGe cs j (l1 - b - d)
  | _, (9, i, a, j) => rD cs j.toNat i (d + a - l1)
  | _, (6, j, _, b) => rGe cs j ((l1 - d) * b)
  | _, _ => [cs]
def tLe (cs : aC) (x y : aV) (d : Int) : List aC := match tBd cs x, tBd cs y with
  | (l1, h1), (l2, h2) => bif ilt d (l1 - h2) then [] else bif ile (h1 - l2) d then [cs] else tLe2 cs x y d l1 h1 l2 h2
set_option maxHeartbeats 1000000 in
theorem tLe_ok {E : List Int} {cs : aC} {a b : aV} {m n d : Int} (hE : xE E cs) (ha : yN E a m) (hb : yN E b n) (h : m - n ≤ d) : ∃ cs' ∈ tLe cs a b d, xE E cs' := by
  have h1 := tBd_N hE ha
  have h2 := tBd_N hE hb
  have keep : ∃ cs' ∈ [cs], xE E cs' := ⟨cs, List.mem_cons_self, hE⟩
  unfold tLe
  generalize tBd cs a = p at h1 ⊢
  generalize tBd cs b = r at h2 ⊢
  obtain ⟨l1, u1⟩ := p
  obtain ⟨l2, u2⟩ := r
  simp only at h1 h2 ⊢
  have hz : ilt d (l1 - u2) = false := by
    cases hz : ilt d (l1 - u2)
    · rfl
    · have := (ilt_iff _ _).mp hz; omega
  rw [hz, cond_false]
  cases hy : ile (u1 - l2) d
  · simp only [cond_false]
    have two : ∀ (i j : Nat) (c c' : Int), (∃ e : Int, E[i]? = some e ∧ m = e + c) → (∃ e : Int, E[j]? = some e ∧ n = e + c') → ∃ cs' ∈ tLe3 cs i c j c' d l1 u1 l2 u2, xE E cs' := by
      intro i j c c' hi hj
      obtain ⟨e, he, hm⟩ := hi
      obtain ⟨e', he', hn⟩ := hj
      unfold tLe3
      cases hq : Nat.beq i j
      · simp only [cond_false]
        cases hk : ieq l2 u2
        · simp only [cond_false]
          cases hk1 : ieq l1 u1
          · exact rD_ok hE he he' (by omega)
          · have := (ieq_iff _ _).mp hk1
            exact rGe_ok hE he' (by omega)
        · have := (ieq_iff _ _).mp hk
          exact rLe_ok hE he (by omega)
      · have := Nat.eq_of_beq_eq_true hq
        subst this
        rw [he] at he'
        cases he'
        have : ile (c - c') d = true := (ile_iff _ _).mpr (by omega)
        rw [this]
        exact keep
    unfold tLe2
    split
    · exact two _ _ _ _ ha hb
    · exact two _ _ _ _ ha hb
    · obtain ⟨e, he, hm⟩ := ha
      exact rLe_ok hE he (by omega)
    · obtain ⟨e, he, hm⟩ := ha
      exact rLe_ok hE he (by omega)
    · obtain ⟨e, e2, he, he2, hm⟩ := ha
      exact rD_ok hE he he2 (by omega)
    · obtain ⟨e, he, hb0, hm⟩ := ha
      have hlt : m < u2 + d + 1 := by omega
      rw [hm] at hlt
      have := (Int.ediv_lt_iff_lt_mul hb0).mp hlt
      exact rLe_ok hE he (by omega)
    · obtain ⟨e, he, hn⟩ := hb
      exact rGe_ok hE he (by omega)
    · obtain ⟨e, he, hn⟩ := hb
      exact rGe_ok hE he (by omega)
    · obtain ⟨e, e2, he, he2, hn⟩ := hb
      exact rD_ok hE he2 he (by omega)
    · obtain ⟨e, he, hb0, hn⟩ := hb
      have hle : l1 - d ≤ n := by omega
      rw [hn] at hle
      have := (Int.le_ediv_iff_mul_le hb0).mp hle
      exact rGe_ok hE he (by omega)
    · exact keep
  · exact keep
def tEq (cs : aC) (x y : aV) : List aC := (tLe cs x y 0).flatMap (fun c => tLe c y x 0)
theorem tEq_ok {E : List Int} {cs : aC} {a b : aV} {m n : Int} (hE : xE E cs) (ha : yN E a m) (hb : yN E b n) (h : m = n) : ∃ cs' ∈ tEq cs a b, xE E cs' := by
  obtain ⟨c1, h1, hE1⟩ := tLe_ok hE ha hb (d := 0) (by omega)
  obtain ⟨c2, h2, hE2⟩ := tLe_ok hE1 hb ha (d := 0) (by omega)
  exact ⟨c2, List.mem_flatMap.mpr ⟨c1, h1, h2⟩, hE2⟩
def tCd (cs : aC) (k : Jvm.ClassFile.Cond) (x y : aV) : List aC := match k with
  | .lt => tLe cs x y (-1)
  | .ge => tLe cs y x 0
  | .gt => tLe cs y x (-1)
  | .le => tLe cs x y 0
  | .eq => tEq cs x y
  | .ne => tLe cs x y (-1) ++ tLe cs y x (-1)
/-- a comparison of numbers -/
def yCd (k : Jvm.ClassFile.Cond) (m n : Int) : Prop := match k with
  | .lt => m < n
  | .ge => n ≤ m
  | .gt => n < m
  | .le => m ≤ n
  | .eq => m = n
  | .ne => m ≠ n
theorem tCd_ok {E : List Int} {cs : aC} {k : Jvm.ClassFile.Cond} {a b : aV} {m n : Int} (hE : xE E cs) (ha : yN E a m) (hb : yN E b n) (h : yCd k m n) : ∃ cs' ∈ tCd cs k a b, xE E cs' := by
  cases k <;> simp only [yCd, tCd] at h ⊢
  · exact tEq_ok hE ha hb h
  · rcases Int.lt_or_gt_of_ne h with hlt | hgt
    · obtain ⟨c, h1, h2⟩ := tLe_ok hE ha hb (d := -1) (by omega)
      exact ⟨c, List.mem_append_left _ h1, h2⟩
    · obtain ⟨c, h1, h2⟩ := tLe_ok hE hb ha (d := -1) (by omega)
      exact ⟨c, List.mem_append_right _ h1, h2⟩
  · exact tLe_ok hE ha hb (by omega)
  · exact tLe_ok hE hb ha (by omega)
  · exact tLe_ok hE hb ha (by omega)
  · exact tLe_ok hE ha hb (by omega)
theorem mCd_y {k : Jvm.ClassFile.Cond} {x y : Int32} : mCd k x y = true ↔ yCd k x.toInt y.toInt := by
  cases k <;> simp only [mCd, yCd, beq_iff_eq, bne_iff_ne, ne_eq, decide_eq_true_eq, ge_iff_le, gt_iff_lt, Int32.lt_iff_toInt_lt, Int32.le_iff_toInt_le, Int32.toInt_inj]
def tSgn (v : aV) : Option (aV × aV) := match v with
  | (11, i, c, j) => some ((5, i, c, 0), (5, j.toNat, 0, 0))
  | (12, i, c, _) => some ((5, i, c, 0), kL 0)
  | (13, i, c, _) => some (kL c, (5, i, 0, 0))
  | _ => none
/-- a comparison with 0 -/
def tC0 (cs : aC) (k : Jvm.ClassFile.Cond) (v : aV) : List aC := match tSgn v with
  | some (x, y) => tCd cs k x y
  | none => tCd cs k v (kI 0)
theorem ySg_cd {k : Jvm.ClassFile.Cond} {n a b : Int} (h : ySg n (a - b)) (hc : yCd k n 0) : yCd k a b := by
  obtain ⟨h1, h2⟩ := h
  cases k <;> simp only [yCd] at hc ⊢ <;> omega
theorem tC0_ok {E : List Int} {cs : aC} {k : Jvm.ClassFile.Cond} {a : aV} {n : Int} (hE : xE E cs) (ha : yN E a n) (h : yCd k n 0) : ∃ cs' ∈ tC0 cs k a, xE E cs' := by
  unfold tC0
  split
  · next x y hs =>
    unfold tSgn at hs
    split at hs
    · cases hs
      obtain ⟨-, e, e2, he, he2, hq⟩ := ha
      have h9 : ∀ c : Int, e + c - (e2 + 0) = e - e2 + c := fun c => by omega
      exact tCd_ok hE ⟨e, he, rfl⟩ ⟨e2, he2, rfl⟩ (ySg_cd (n := n) (by rw [h9]; exact hq) h)
    · cases hs
      obtain ⟨-, e, he, hq⟩ := ha
      have h9 : ∀ c : Int, e + c - 0 = e + c := fun c => by omega
      exact tCd_ok (n := 0) hE ⟨e, he, rfl⟩ ⟨Int.le_refl _, Int.le_refl _⟩ (ySg_cd (n := n) (by rw [h9]; exact hq) h)
    · cases hs
      obtain ⟨-, e, he, hq⟩ := ha
      have h9 : ∀ c : Int, c - (e + 0) = c - e := fun c => by omega
      exact tCd_ok hE ⟨Int.le_refl _, Int.le_refl _⟩ ⟨e, he, rfl⟩ (ySg_cd (n := n) (by rw [h9]; exact hq) h)
    · cases hs
  · exact tCd_ok hE ha (n := 0) ⟨Int.le_refl _, Int.le_refl _⟩ h
theorem yCd_n {k : Jvm.ClassFile.Cond} {m n : Int} (h : ¬ yCd k m n) : yCd (aCn k) m n := by
  cases k <;> simp only [yCd, aCn] at h ⊢ <;> omega
