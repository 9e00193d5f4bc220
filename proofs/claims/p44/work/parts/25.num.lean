/-! NUMBERS, and constraints -/
theorem mul_mono1 {l u x y : Int} (h1 : l ≤ x) (h2 : x ≤ u) : imin (l * y) (u * y) ≤ x * y ∧ x * y ≤ imax (l * y) (u * y) := by
  have hm := imin_le (l * y) (u * y)
  have hM := imax_ge (l * y) (u * y)
  rcases Int.le_total 0 y with hy | hy
  · have a1 := Int.mul_le_mul_of_nonneg_right h1 hy
    have a2 := Int.mul_le_mul_of_nonneg_right h2 hy
    omega
  · have a1 := Int.mul_le_mul_of_nonpos_right h1 hy
    have a2 := Int.mul_le_mul_of_nonpos_right h2 hy
    omega
theorem mul_mono {l1 u1 l2 u2 x y : Int} (h1 : l1 ≤ x) (h2 : x ≤ u1) (h3 : l2 ≤ y) (h4 : y ≤ u2) :
    imin (imin (l1 * l2) (l1 * u2)) (imin (u1 * l2) (u1 * u2)) ≤ x * y ∧ x * y ≤ imax (imax (l1 * l2) (l1 * u2)) (imax (u1 * l2) (u1 * u2)) := by
  have a := mul_mono1 (y := y) h1 h2
  have b := mul_mono1 (l := l2) (u := u2) (x := y) (y := l1) h3 h4
  have c := mul_mono1 (l := l2) (u := u2) (x := y) (y := u1) h3 h4
  rw [Int.mul_comm l2, Int.mul_comm u2, Int.mul_comm y] at b c
  have i1 := imin_le (imin (l1 * l2) (l1 * u2)) (imin (u1 * l2) (u1 * u2))
  have i2 := imax_ge (imax (l1 * l2) (l1 * u2)) (imax (u1 * l2) (u1 * u2))
  have j1 := imin_glb (a := l1 * y) (b := u1 * y) (x := imin (imin (l1 * l2) (l1 * u2)) (imin (u1 * l2) (u1 * u2))) (by omega) (by omega)
  have j2 := imax_lub (a := l1 * y) (b := u1 * y) (x := imax (imax (l1 * l2) (l1 * u2)) (imax (u1 * l2) (u1 * u2))) (by omega) (by omega)
  omega
theorem aMul_ok {E : List Int} {cs : aC} {a b : aV} {x y : Int32} (hE : xE E cs) (ha : xV E a (.int x)) (hb : xV E b (.int y)) : xV E (aMul cs a b) (.int (x * y)) := by
  have h1 := aBd_I hE ha
  have h2 := aBd_I hE hb
  unfold aMul
  generalize aBd cs a = p at h1 ⊢
  generalize aBd cs b = r at h2 ⊢
  obtain ⟨l1, u1⟩ := p
  obtain ⟨l2, u2⟩ := r
  simp only at h1 h2 ⊢
  have hm := mul_mono h1.1 h1.2 h2.1 h2.2
  refine xV_mkI E (fun hc => ?_)
  have hr := (in32_iff _ _).mp hc
  rw [i32_mul (by omega) (by omega)]
  exact hm
theorem i32_div {x y : Int32} (h1 : 0 ≤ x.toInt) (h2 : 0 < y.toInt) : (x / y).toInt = x.toInt / y.toInt := by
  rw [Int32.toInt_div, Int.tdiv_eq_ediv_of_nonneg h1]
  have a1 : 0 ≤ x.toInt / y.toInt := Int.ediv_nonneg h1 (by omega)
  have a2 : x.toInt / y.toInt ≤ x.toInt := Int.ediv_le_self _ h1
  have a3 := i32_hi x
  exact Int.bmod_eq_of_le (by omega) (by omega)
theorem i32_ne0 {y : Int32} (h : y.toInt ≠ 0) : ¬ y = 0 := fun z => h (by rw [z]; rfl)
theorem aDiv_ok {E : List Int} {cs : aC} {a b v : aV} {x y : Int32} (hE : xE E cs) (ha : xV E a (.int x)) (hb : xV E b (.int y)) (h : aDiv cs a b = some v) : ¬ y = 0 ∧ xV E v (.int (x / y)) := by
  have h1 := aBd_I hE ha
  have h2 := aBd_I hE hb
  unfold aDiv at h
  generalize aBd cs a = p at h1 h
  generalize aBd cs b = r at h2 h
  obtain ⟨l1, u1⟩ := p
  obtain ⟨l2, u2⟩ := r
  simp only at h1 h2 h
  cases hk : (ieq l2 u2 && ilt 0 l2 && ile 0 l1)
  · rw [hk, cond_false] at h
    cases hz : (ilt 0 l2 || ilt u2 0)
    · rw [hz] at h; cases h
    · rw [hz, cond_true] at h
      cases h
      rw [Bool.or_eq_true, ilt_iff, ilt_iff] at hz
      exact ⟨i32_ne0 (by omega), xV_kF E _⟩
  · rw [hk, cond_true] at h
    rw [Bool.and_eq_true, Bool.and_eq_true, ieq_iff, ilt_iff, ile_iff] at hk
    obtain ⟨⟨k1, k2⟩, k3⟩ := hk
    have hd := i32_div (x := x) (y := y) (by omega) (by omega)
    have hyl : y.toInt = l2 := by omega
    have hI : xV E (2, 0, l1 / l2, u1 / l2) (.int (x / y)) := by
      refine xV_I2 E ?_ ?_ 0
      · rw [hd, hyl]; exact ediv_mono h1.1 k2
      · rw [hd, hyl]; exact ediv_mono h1.2 k2
    refine ⟨i32_ne0 (by omega), ?_⟩
    split at h
    · next i c b1 =>
      cases hz : (ieq c 0 && !ieq l1 u1)
      · rw [hz, cond_false] at h; cases h; exact hI
      · rw [hz, cond_true] at h
        cases h
        rw [Bool.and_eq_true, ieq_iff] at hz
        obtain ⟨x', e, e1, he, hx⟩ := ha
        cases e1
        exact ⟨_, e, rfl, he, k2, by rw [hd, hyl]; congr 1; omega⟩
    · cases h; exact hI
theorem aRem_ok {E : List Int} {cs : aC} {a b v : aV} {x y : Int32} (hE : xE E cs) (ha : xV E a (.int x)) (hb : xV E b (.int y)) (h : aRem cs a b = some v) : ¬ y = 0 ∧ xV E v (.int (x - x / y * y)) := by
  have h1 := aBd_I hE ha
  have h2 := aBd_I hE hb
  unfold aRem at h
  generalize aBd cs a = p at h1 h
  generalize aBd cs b = r at h2 h
  obtain ⟨l1, u1⟩ := p
  obtain ⟨l2, u2⟩ := r
  simp only at h1 h2 h
  cases hk : (ieq l2 u2 && ilt 0 l2 && ile 0 l1)
  · rw [hk, cond_false] at h
    cases hz : (ilt 0 l2 || ilt u2 0)
    · rw [hz] at h; cases h
    · rw [hz, cond_true] at h
      cases h
      rw [Bool.or_eq_true, ilt_iff, ilt_iff] at hz
      exact ⟨i32_ne0 (by omega), xV_kF E _⟩
  · rw [hk, cond_true] at h
    rw [Bool.and_eq_true, Bool.and_eq_true, ieq_iff, ilt_iff, ile_iff] at hk
    obtain ⟨⟨k1, k2⟩, k3⟩ := hk
    have hd := i32_div (x := x) (y := y) (by omega) (by omega)
    have hyl : y.toInt = l2 := by omega
    have hx0 : 0 ≤ x.toInt := by omega
    have e1 : x.toInt % l2 = x.toInt - l2 * (x.toInt / l2) := Int.emod_def _ _
    have e2 : 0 ≤ x.toInt % l2 := Int.emod_nonneg _ (by omega)
    have e3 : x.toInt % l2 < l2 := Int.emod_lt_of_pos _ k2
    have e4 : 0 ≤ x.toInt / l2 := Int.ediv_nonneg hx0 (by omega)
    have e5 : 0 ≤ l2 * (x.toInt / l2) := Int.mul_nonneg (by omega) e4
    have hxh := i32_hi x
    have hm : (x / y * y).toInt = l2 * (x.toInt / l2) := by
      have hq : (x / y).toInt * y.toInt = l2 * (x.toInt / l2) := by rw [hd, hyl, Int.mul_comm]
      rw [i32_mul (by rw [hq]; omega) (by rw [hq]; omega), hq]
    have hs : (x - x / y * y).toInt = x.toInt % l2 := by
      rw [i32_sub (by rw [hm]; omega) (by rw [hm]; omega), hm, e1]
    refine ⟨i32_ne0 (by omega), ?_⟩
    cases hz : ieq l1 u1
    · rw [hz, cond_false] at h
      cases h
      exact xV_I2 E (by omega) (by omega) 0
    · rw [hz, cond_true] at h
      cases h
      have := (ieq_iff _ _).mp hz
      exact xV_kI E (by rw [hs]; congr 1; omega)
theorem i32_toNat (x : Int32) : x.toInt = if x.toBitVec.toNat < 2147483648 then (x.toBitVec.toNat : Int) else (x.toBitVec.toNat : Int) - 4294967296 := by
  show x.toBitVec.toInt = _
  rw [BitVec.toInt_eq_toNat_cond]
  split <;> split <;> omega
theorem i32_and {x y : Int32} (h : 0 ≤ y.toInt) : 0 ≤ (x &&& y).toInt ∧ (x &&& y).toInt ≤ y.toInt := by
  have h1 := i32_toNat (x &&& y)
  have h2 := i32_toNat y
  have h3 : (x &&& y).toBitVec.toNat = x.toBitVec.toNat &&& y.toBitVec.toNat := by
    rw [Int32.toBitVec_and, BitVec.toNat_and]
  have h4 : x.toBitVec.toNat &&& y.toBitVec.toNat ≤ y.toBitVec.toNat := Nat.and_le_right
  have h5 := y.toBitVec.isLt
  split at h1 <;> split at h2 <;> omega
theorem i32_and_comm (x y : Int32) : x &&& y = y &&& x := by
  apply Int32.toBitVec_inj.mp
  rw [Int32.toBitVec_and, Int32.toBitVec_and, BitVec.and_comm]
theorem aEx_ok {E : List Int} {f : Int32 → Int32 → Int32} {x y : Int32} {a b : Int} (h1 : x.toInt = a) (h2 : y.toInt = b) : xV E (aEx f a b) (.int (f x y)) := by
  subst h1; subst h2
  unfold aEx
  rw [Int32.ofInt_toInt, Int32.ofInt_toInt]
  exact xV_kI E rfl
theorem aEx2_ok {E : List Int} {cs : aC} {f : Int32 → Int32 → Int32} {a b : aV} {x y : Int32} (hE : xE E cs) (ha : xV E a (.int x)) (hb : xV E b (.int y)) : xV E (aEx2 f cs a b) (.int (f x y)) := by
  have h1 := aBd_I hE ha
  have h2 := aBd_I hE hb
  unfold aEx2
  generalize aBd cs a = p at h1 ⊢
  generalize aBd cs b = r at h2 ⊢
  obtain ⟨l1, u1⟩ := p
  obtain ⟨l2, u2⟩ := r
  simp only at h1 h2 ⊢
  cases hk : (ieq l1 u1 && ieq l2 u2)
  · exact xV_kF E _
  · rw [Bool.and_eq_true, ieq_iff, ieq_iff] at hk
    exact aEx_ok (by omega) (by omega)
theorem aAnd_ok {E : List Int} {cs : aC} {a b : aV} {x y : Int32} (hE : xE E cs) (ha : xV E a (.int x)) (hb : xV E b (.int y)) : xV E (aAnd cs a b) (.int (x &&& y)) := by
  have h1 := aBd_I hE ha
  have h2 := aBd_I hE hb
  unfold aAnd
  generalize aBd cs a = p at h1 ⊢
  generalize aBd cs b = r at h2 ⊢
  obtain ⟨l1, u1⟩ := p
  obtain ⟨l2, u2⟩ := r
  simp only at h1 h2 ⊢
  cases hk : (ieq l1 u1 && ieq l2 u2)
  · simp only [cond_false]
    have hy : ile 0 l2 = true → xV E (2, 0, 0, u2) (.int (x &&& y)) := by
      intro h
      have := (ile_iff _ _).mp h
      have := i32_and (x := x) (y := y) (by omega)
      exact xV_I2 E (by omega) (by omega) 0
    have hx : ile 0 l1 = true → xV E (2, 0, 0, u1) (.int (x &&& y)) := by
      intro h
      have := (ile_iff _ _).mp h
      have := i32_and (x := y) (y := x) (by omega)
      rw [i32_and_comm]
      exact xV_I2 E (by omega) (by omega) 0
    split
    · next i c b1 =>
      cases hz : (ieq l2 63 && ieq u2 63)
      · simp only [cond_false]
        cases hq : ile 0 l2
        · exact xV_kF E _
        · exact hy hq
      · rw [Bool.and_eq_true, ieq_iff, ieq_iff] at hz
        obtain ⟨x', e1, hx'⟩ := ha
        cases e1
        have : y = 63 := Int32.toInt_inj.mp (by show y.toInt = 63; omega)
        subst this
        exact xV_kI E hx'
    · cases hq : ile 0 l2
      · simp only [cond_false]
        cases hq1 : ile 0 l1
        · exact xV_kF E _
        · exact hx hq1
      · exact hy hq
  · rw [Bool.and_eq_true, ieq_iff, ieq_iff] at hk
    exact aEx_ok (by omega) (by omega)
theorem aNeg_ok {E : List Int} {cs : aC} {a : aV} {x : Int32} (hE : xE E cs) (ha : xV E a (.int x)) : xV E (aNeg cs a) (.int (-x)) := by
  have h1 := aBd_I hE ha
  unfold aNeg
  generalize aBd cs a = p at h1 ⊢
  obtain ⟨l1, u1⟩ := p
  simp only at h1 ⊢
  refine xV_mkI E (fun hc => ?_)
  have hr := (in32_iff _ _).mp hc
  rw [Int32.toInt_neg, Int.bmod_eq_of_le (by omega) (by omega)]
  omega
theorem aI2l_ok {E : List Int} {a : aV} {x : Int32} (ha : xV E a (.int x)) : xV E (aI2l a) (.long x.toInt64) := by
  have hf : xV E (3, 0, -2147483648, 2147483647) (.long x.toInt64) := ⟨_, rfl, by rw [Int32.toInt_toInt64]; exact i32_lo x, by rw [Int32.toInt_toInt64]; exact i32_hi x⟩
  unfold aI2l
  split
  · obtain ⟨y, e1, h1, h2⟩ := ha
    cases e1
    exact ⟨_, rfl, by rw [Int32.toInt_toInt64]; exact h1, by rw [Int32.toInt_toInt64]; exact h2⟩
  · obtain ⟨y, e, e1, he, h2⟩ := ha
    cases e1
    exact ⟨_, e, rfl, he, by rw [Int32.toInt_toInt64]; exact h2⟩
  · exact hf
theorem aLadd_ok {E : List Int} {cs : aC} {a b : aV} {x y : Int64} (hE : xE E cs) (ha : xV E a (.long x)) (hb : xV E b (.long y)) : xV E (aLadd cs a b) (.long (x + y)) := by
  have h1 := aBd_L hE ha
  have h2 := aBd_L hE hb
  unfold aLadd
  generalize aBd cs a = p at h1 ⊢
  generalize aBd cs b = r at h2 ⊢
  obtain ⟨l1, u1⟩ := p
  obtain ⟨l2, u2⟩ := r
  simp only at h1 h2 ⊢
  cases hk : in64 (l1 + l2) (u1 + u2)
  · have b1 := (x + y).le_toInt
    have b2 := (x + y).toInt_lt
    exact ⟨_, rfl, by omega, by omega⟩
  · have hr := (in64_iff _ _).mp hk
    have := i64_add (x := x) (y := y) (by omega) (by omega)
    exact ⟨_, rfl, by omega, by omega⟩
