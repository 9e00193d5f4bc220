/-! WHAT THE ABSTRACT VALUES MEAN -/
theorem ile_iff (a b : Int) : ile a b = true ↔ a ≤ b := by
  cases a <;> cases b <;> simp only [ile, Nat.ble_eq, Int.ofNat_eq_natCast, Int.negSucc_eq, Bool.false_eq_true, true_iff, false_iff] <;> omega
theorem ilt_iff (a b : Int) : ilt a b = true ↔ a < b := by
  have h := ile_iff b a
  unfold ilt
  cases hc : ile b a <;> simp only [hc, Bool.not_false, Bool.not_true] at h ⊢ <;> simp at h ⊢ <;> omega
theorem ieq_iff (a b : Int) : ieq a b = true ↔ a = b := by
  unfold ieq
  rw [Bool.and_eq_true, ile_iff, ile_iff]
  omega
theorem imin_le (a b : Int) : imin a b ≤ a ∧ imin a b ≤ b := by
  unfold imin
  cases h : ile a b
  · have : ¬ a ≤ b := fun z => by rw [(ile_iff a b).mpr z] at h; cases h
    simp only [cond_false]; omega
  · have := (ile_iff a b).mp h
    simp only [cond_true]; omega
theorem imax_ge (a b : Int) : a ≤ imax a b ∧ b ≤ imax a b := by
  unfold imax
  cases h : ile a b
  · have : ¬ a ≤ b := fun z => by rw [(ile_iff a b).mpr z] at h; cases h
    simp only [cond_false]; omega
  · have := (ile_iff a b).mp h
    simp only [cond_true]; omega
theorem imin_glb {a b x : Int} (h1 : x ≤ a) (h2 : x ≤ b) : x ≤ imin a b := by
  unfold imin; cases ile a b <;> simp only [cond_false, cond_true] <;> assumption
theorem imax_lub {a b x : Int} (h1 : a ≤ x) (h2 : b ≤ x) : imax a b ≤ x := by
  unfold imax; cases ile a b <;> simp only [cond_false, cond_true] <;> assumption
theorem in32_iff (l h : Int) : in32 l h = true ↔ -2147483648 ≤ l ∧ h ≤ 2147483647 := by
  unfold in32; rw [Bool.and_eq_true, ile_iff, ile_iff]
theorem in64_iff (l h : Int) : in64 l h = true ↔ -9223372036854775808 ≤ l ∧ h ≤ 9223372036854775807 := by
  unfold in64; rw [Bool.and_eq_true, ile_iff, ile_iff]
def xV (E : List Int) (a : aV) (v : Value) : Prop := match a with
  | (0, _, _, _) => v = .null
  | (1, i, _, _) => v = .ref i
  | (2, _, l, h) => ∃ x : Int32, v = .int x ∧ l ≤ x.toInt ∧ x.toInt ≤ h
  | (3, _, l, h) => ∃ x : Int64, v = .long x ∧ l ≤ x.toInt ∧ x.toInt ≤ h
  | (4, i, c, _) => ∃ (x : Int32) (e : Int), v = .int x ∧ E[i]? = some e ∧ x.toInt = e + c
  | (5, i, c, _) => ∃ (x : Int64) (e : Int), v = .long x ∧ E[i]? = some e ∧ x.toInt = e + c
  | (6, i, _, b) => ∃ (x : Int32) (e : Int), v = .int x ∧ E[i]? = some e ∧ 0 < b ∧ x.toInt = e / b
  | (7, _, c, _) => ∃ x : Int32, v = .int x ∧ (x &&& 63).toInt = c
  | _ => False
def xE (E : List Int) (cs : aC) : Prop := E.length = cs.1.length ∧ (∀ (i : Nat) (e : Int), E[i]? = some e → -2147483648 ≤ e ∧ e ≤ 2147483647) ∧ (∀ (i : Nat) (l u e : Int), cs.1[i]? = some (l, u) → E[i]? = some e → l ≤ e ∧ e ≤ u) ∧ ∀ t ∈ cs.2, ∃ e1 e2 : Int, E[t.1]? = some e1 ∧ E[t.2.1]? = some e2 ∧ e1 - e2 ≤ t.2.2
theorem i32_lo (x : Int32) : -2147483648 ≤ x.toInt := x.le_toInt
theorem i32_hi (x : Int32) : x.toInt ≤ 2147483647 := by have := x.toInt_lt; omega
theorem xV_int {E : List Int} {a : aV} {v : Value} (ha : aIsI a = true) (h : xV E a v) : ∃ x : Int32, v = .int x := by
  unfold aIsI at ha
  split at ha
  · obtain ⟨x, h, -⟩ := h; exact ⟨x, h⟩
  · obtain ⟨x, e, h, -⟩ := h; exact ⟨x, h⟩
  · obtain ⟨x, e, h, -⟩ := h; exact ⟨x, h⟩
  · obtain ⟨x, h, -⟩ := h; exact ⟨x, h⟩
  · cases ha
theorem xV_long {E : List Int} {a : aV} {v : Value} (ha : aIsL a = true) (h : xV E a v) : ∃ x : Int64, v = .long x := by
  unfold aIsL at ha
  split at ha
  · obtain ⟨x, h, -⟩ := h; exact ⟨x, h⟩
  · obtain ⟨x, e, h, -⟩ := h; exact ⟨x, h⟩
  · cases ha
theorem xV_cat {E : List Int} {a : aV} {v : Value} (h : xV E a v) : v.category = aCat a := by
  unfold xV at h
  split at h
  · subst h; rfl
  · subst h; rfl
  · obtain ⟨x, rfl, -⟩ := h; rfl
  · obtain ⟨x, rfl, -⟩ := h; rfl
  · obtain ⟨x, e, rfl, -⟩ := h; rfl
  · obtain ⟨x, e, rfl, -⟩ := h; rfl
  · obtain ⟨x, e, rfl, -⟩ := h; rfl
  · obtain ⟨x, rfl, -⟩ := h; rfl
  · exact h.elim
theorem aBs_ok {E : List Int} {cs : aC} {i : Nat} {e : Int} (hE : xE E cs) (h : E[i]? = some e) : (aBs cs i).1 ≤ e ∧ e ≤ (aBs cs i).2 := by
  unfold aBs
  cases hc : cs.1[i]? with
  | none =>
    have h1 := hE.2.1 i e h
    simpa using h1
  | some p => exact hE.2.2.1 i p.1 p.2 e hc h
theorem ediv_mono {a b c : Int} (h : a ≤ b) (hc : 0 < c) : a / c ≤ b / c := Int.ediv_le_ediv hc h
theorem aBd_I {E : List Int} {cs : aC} {a : aV} {x : Int32} (hE : xE E cs) (h : xV E a (.int x)) : (aBd cs a).1 ≤ x.toInt ∧ x.toInt ≤ (aBd cs a).2 := by
  have hf : (-2147483648 : Int) ≤ x.toInt ∧ x.toInt ≤ 2147483647 := ⟨i32_lo x, i32_hi x⟩
  unfold xV at h
  split at h
  · cases h
  · cases h
  · obtain ⟨y, e, h1, h2⟩ := h; cases e; exact ⟨h1, h2⟩
  · obtain ⟨y, e, -⟩ := h; cases e
  · obtain ⟨y, e, e1, he, h2⟩ := h
    cases e1
    have := aBs_ok hE he
    simp only [aBd]
    omega
  · obtain ⟨y, e, e1, -⟩ := h; cases e1
  · next i c b =>
    obtain ⟨y, e, e1, he, hb, h2⟩ := h
    cases e1
    have := aBs_ok hE he
    simp only [aBd]
    rw [h2]
    exact ⟨ediv_mono this.1 hb, ediv_mono this.2 hb⟩
  · exact hf
  · exact h.elim
theorem aBd_L {E : List Int} {cs : aC} {a : aV} {x : Int64} (hE : xE E cs) (h : xV E a (.long x)) : (aBd cs a).1 ≤ x.toInt ∧ x.toInt ≤ (aBd cs a).2 := by
  unfold xV at h
  split at h
  · cases h
  · cases h
  · obtain ⟨y, e, -⟩ := h; cases e
  · obtain ⟨y, e, h1, h2⟩ := h; cases e; exact ⟨h1, h2⟩
  · obtain ⟨y, e, e1, -⟩ := h; cases e1
  · obtain ⟨y, e, e1, he, h2⟩ := h
    cases e1
    have := aBs_ok hE he
    simp only [aBd]
    omega
  · obtain ⟨y, e, e1, -⟩ := h; cases e1
  · obtain ⟨y, e1, -⟩ := h; cases e1
  · exact h.elim
theorem xV_kI (E : List Int) {c : Int} {x : Int32} (h : x.toInt = c) : xV E (kI c) (.int x) := ⟨x, rfl, by omega, by omega⟩
theorem xV_kL (E : List Int) {c : Int} {x : Int64} (h : x.toInt = c) : xV E (kL c) (.long x) := ⟨x, rfl, by omega, by omega⟩
theorem xV_kF (E : List Int) (x : Int32) : xV E kF (.int x) := ⟨x, rfl, i32_lo x, i32_hi x⟩
theorem xV_I2 (E : List Int) {l h : Int} {x : Int32} (h1 : l ≤ x.toInt) (h2 : x.toInt ≤ h) (j : Nat) : xV E (2, j, l, h) (.int x) := ⟨x, rfl, h1, h2⟩
theorem xV_mkI (E : List Int) {l h : Int} {x : Int32} (h1 : in32 l h = true → l ≤ x.toInt ∧ x.toInt ≤ h) : xV E (mkI l h) (.int x) := by
  unfold mkI
  cases hc : in32 l h
  · exact xV_kF E x
  · exact xV_I2 E (h1 hc).1 (h1 hc).2 0
theorem aK_ok {E : List Int} {cs : aC} {a : aV} {x : Int32} {k : Int} (hE : xE E cs) (h : xV E a (.int x)) (hk : aK cs a = some k) : x.toInt = k := by
  have hb := aBd_I hE h
  unfold aK at hk
  generalize aBd cs a = p at hk hb
  obtain ⟨l, u⟩ := p
  simp only at hk hb
  cases hc : ieq l u
  · rw [hc] at hk; cases hk
  · rw [hc] at hk
    have := (ieq_iff l u).mp hc
    simp only [cond_true, Option.some.injEq] at hk
    omega
theorem i32_add {x y : Int32} (h1 : -2147483648 ≤ x.toInt + y.toInt) (h2 : x.toInt + y.toInt ≤ 2147483647) : (x + y).toInt = x.toInt + y.toInt := by
  rw [Int32.toInt_add]
  exact Int.bmod_eq_of_le (by omega) (by omega)
theorem i32_sub {x y : Int32} (h1 : -2147483648 ≤ x.toInt - y.toInt) (h2 : x.toInt - y.toInt ≤ 2147483647) : (x - y).toInt = x.toInt - y.toInt := by
  rw [Int32.toInt_sub]
  exact Int.bmod_eq_of_le (by omega) (by omega)
theorem i32_mul {x y : Int32} (h1 : -2147483648 ≤ x.toInt * y.toInt) (h2 : x.toInt * y.toInt ≤ 2147483647) : (x * y).toInt = x.toInt * y.toInt := by
  rw [Int32.toInt_mul]
  exact Int.bmod_eq_of_le (by omega) (by omega)
theorem i64_add {x y : Int64} (h1 : -9223372036854775808 ≤ x.toInt + y.toInt) (h2 : x.toInt + y.toInt ≤ 9223372036854775807) : (x + y).toInt = x.toInt + y.toInt := by
  rw [Int64.toInt_add]
  exact Int.bmod_eq_of_le (by omega) (by omega)
set_option maxHeartbeats 1000000 in
theorem aAdd_ok {E : List Int} {cs : aC} {a b : aV} {x y : Int32} (hE : xE E cs) (ha : xV E a (.int x)) (hb : xV E b (.int y)) : xV E (aAdd cs a b) (.int (x + y)) := by
  have h1 := aBd_I hE ha
  have h2 := aBd_I hE hb
  unfold aAdd
  generalize aBd cs a = p at h1 ⊢
  generalize aBd cs b = r at h2 ⊢
  obtain ⟨l1, u1⟩ := p
  obtain ⟨l2, u2⟩ := r
  simp only at h1 h2 ⊢
  cases hc : in32 (l1 + l2) (u1 + u2)
  · exact xV_kF E _
  · have hr := (in32_iff _ _).mp hc
    have hs : (x + y).toInt = x.toInt + y.toInt := i32_add (by omega) (by omega)
    simp only [cond_true]
    have hI : xV E (2, 0, l1 + l2, u1 + u2) (.int (x + y)) := xV_I2 E (by omega) (by omega) 0
    cases hk : (ieq l1 u1 && ieq l2 u2)
    · simp only [cond_false]
      split
      · next i c b1 j d b2 =>
        obtain ⟨x', e, e1, he, hx⟩ := ha
        cases e1
        obtain ⟨y', e', e1, he', hy⟩ := hb
        cases e1
        cases h3 : ieq l2 u2
        · cases h4 : ieq l1 u1
          · exact hI
          · have := (ieq_iff _ _).mp h4
            exact ⟨_, e', rfl, he', by show _ = e' + (d + l1); omega⟩
        · have := (ieq_iff _ _).mp h3
          exact ⟨_, e, rfl, he, by omega⟩
      · next i c b1 hne =>
        obtain ⟨x', e, e1, he, hx⟩ := ha
        cases e1
        cases h3 : ieq l2 u2
        · exact hI
        · have := (ieq_iff _ _).mp h3
          exact ⟨_, e, rfl, he, by omega⟩
      · next j d b2 hne =>
        obtain ⟨y', e', e1, he', hy⟩ := hb
        cases e1
        cases h4 : ieq l1 u1
        · exact hI
        · have := (ieq_iff _ _).mp h4
          exact ⟨_, e', rfl, he', by omega⟩
      · exact hI
    · rw [Bool.and_eq_true, ieq_iff, ieq_iff] at hk
      exact xV_kI E (by omega)
set_option maxHeartbeats 1000000 in
theorem aSb_ok {E : List Int} {cs : aC} {a b : aV} {x y : Int32} (hE : xE E cs) (ha : xV E a (.int x)) (hb : xV E b (.int y)) : xV E (aSb cs a b) (.int (x - y)) := by
  have h1 := aBd_I hE ha
  have h2 := aBd_I hE hb
  unfold aSb
  generalize aBd cs a = p at h1 ⊢
  generalize aBd cs b = r at h2 ⊢
  obtain ⟨l1, u1⟩ := p
  obtain ⟨l2, u2⟩ := r
  simp only at h1 h2 ⊢
  cases hc : in32 (l1 - u2) (u1 - l2)
  · exact xV_kF E _
  · have hr := (in32_iff _ _).mp hc
    have hs : (x - y).toInt = x.toInt - y.toInt := i32_sub (by omega) (by omega)
    simp only [cond_true]
    have hI : xV E (2, 0, l1 - u2, u1 - l2) (.int (x - y)) := xV_I2 E (by omega) (by omega) 0
    cases hk : (ieq l1 u1 && ieq l2 u2)
    · simp only [cond_false]
      split
      · next i c b1 j d b2 =>
        obtain ⟨x', e, e1, he, hx⟩ := ha
        cases e1
        obtain ⟨y', e', e1, he', hy⟩ := hb
        cases e1
        cases h3 : Nat.beq i j
        · cases h4 : ieq l2 u2
          · exact hI
          · have := (ieq_iff _ _).mp h4
            exact ⟨_, e, rfl, he, by omega⟩
        · have hij : i = j := Nat.eq_of_beq_eq_true h3
          subst hij
          rw [he] at he'
          cases he'
          exact xV_kI E (by omega)
      · next i c b1 hne =>
        obtain ⟨x', e, e1, he, hx⟩ := ha
        cases e1
        cases h3 : ieq l2 u2
        · exact hI
        · have := (ieq_iff _ _).mp h3
          exact ⟨_, e, rfl, he, by omega⟩
      · exact hI
    · rw [Bool.and_eq_true, ieq_iff, ieq_iff] at hk
      exact xV_kI E (by omega)
