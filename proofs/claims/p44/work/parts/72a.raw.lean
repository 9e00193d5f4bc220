/-! ROWS FOR WALKS over the small machine -/
section RAW
variable {sc : Option (Nat × (Nat → Int32))} {d y pc : Nat} {lv : List (Nat × Value)} {st : List Value} {M M' : mHe} {q : mMd} {e : aIn} {fr' : mFr}
theorem e_eq (hT : aTabOk) (hq : mjM y = some q) (he : aTab y pc = some e) : mStep sc d (y, pc, lv, st) M = mOp sc d q y pc e.2.1 lv st M e.1 ∧ aChk q.2.2.2.2 e = true := by
  obtain ⟨h1, h2⟩ := hT y q pc e hq he
  refine ⟨?_, h2⟩
  unfold mStep
  rw [hq]
  simp only
  rw [h1]
theorem e_st (hT : aTabOk) (hq : mjM y = some q) (he : aTab y pc = some e) (h : mOp sc d q y pc e.2.1 lv st M e.1 = some (.inl (fr', M'))) : mTo sc d (y, pc, lv, st) M fr' M' :=
  mTo_step (by rw [(e_eq hT hq he).1]; exact h)
theorem e_icT {k : Jvm.ClassFile.Cond} {off : Int} {r : Nat × Nat × Nat × Int × Nat × Nat × Nat} {a b : Int32} {t : Nat} (hT : aTabOk) (hq : mjM y = some q) (he : aTab y pc = some (.if_icmp k off, r)) (h3 : r.1 = 3) (ht : mTg pc off = some t) (hc : mCd k a b = true) : mTo sc d (y, pc, lv, .int b :: .int a :: st) M (y, t, lv, st) M := by
  refine mTo_step ?_
  rw [(e_eq hT hq he).1]
  refine mOr_r (fun s hs => by have := mG1 hs; cases this) (mOr_r (fun s hs => by have := mG2 hs; cases this) (mOr_r (fun s hs => by have := mG3 hs; cases this) (mOr_l ?_)))
  simp only [mOp4, h3, if_true, ht, hc, mGo]
theorem e_icF {k : Jvm.ClassFile.Cond} {off : Int} {r : Nat × Nat × Nat × Int × Nat × Nat × Nat} {a b : Int32} {t : Nat} (hT : aTabOk) (hq : mjM y = some q) (he : aTab y pc = some (.if_icmp k off, r)) (h3 : r.1 = 3) (ht : mTg pc off = some t) (hc : mCd k a b = false) : mTo sc d (y, pc, lv, .int b :: .int a :: st) M (y, pc + 3, lv, st) M := by
  refine mTo_step ?_
  rw [(e_eq hT hq he).1]
  refine mOr_r (fun s hs => by have := mG1 hs; cases this) (mOr_r (fun s hs => by have := mG2 hs; cases this) (mOr_r (fun s hs => by have := mG3 hs; cases this) (mOr_l ?_)))
  simp only [mOp4, h3, if_true, ht, hc, mGo, Bool.false_eq_true, if_false]
theorem e_ifT {k : Jvm.ClassFile.Cond} {off : Int} {r : Nat × Nat × Nat × Int × Nat × Nat × Nat} {a : Int32} {t : Nat} (hT : aTabOk) (hq : mjM y = some q) (he : aTab y pc = some (.ifCond k off, r)) (h3 : r.1 = 3) (ht : mTg pc off = some t) (hc : mCd k a 0 = true) : mTo sc d (y, pc, lv, .int a :: st) M (y, t, lv, st) M := by
  refine mTo_step ?_
  rw [(e_eq hT hq he).1]
  refine mOr_r (fun s hs => by have := mG1 hs; cases this) (mOr_r (fun s hs => by have := mG2 hs; cases this) (mOr_r (fun s hs => by have := mG3 hs; cases this) (mOr_l ?_)))
  simp only [mOp4, h3, if_true, ht, hc, mGo]
theorem e_ifF {k : Jvm.ClassFile.Cond} {off : Int} {r : Nat × Nat × Nat × Int × Nat × Nat × Nat} {a : Int32} {t : Nat} (hT : aTabOk) (hq : mjM y = some q) (he : aTab y pc = some (.ifCond k off, r)) (h3 : r.1 = 3) (ht : mTg pc off = some t) (hc : mCd k a 0 = false) : mTo sc d (y, pc, lv, .int a :: st) M (y, pc + 3, lv, st) M := by
  refine mTo_step ?_
  rw [(e_eq hT hq he).1]
  refine mOr_r (fun s hs => by have := mG1 hs; cases this) (mOr_r (fun s hs => by have := mG2 hs; cases this) (mOr_r (fun s hs => by have := mG3 hs; cases this) (mOr_l ?_)))
  simp only [mOp4, h3, if_true, ht, hc, mGo, Bool.false_eq_true, if_false]
theorem e_getf {idx ci r : Nat} {k : Int} {x : Nat × Nat × Nat} {fs : List Value} {v : Value} {cl : vw_C} (hT : aTabOk) (hq : mjM y = some q) (he : aTab y pc = some (.getfield idx, 3, 0, ci, k, x)) (hcl : vwCl[ci]? = some cl) (hk : k.toNat < cl.2.2) (h9 : 9 ≤ r) (hM : M[r - 9]? = some (.inr (ci, fs))) (hv : fs[k.toNat]? = some v) : mTo sc d (y, pc, lv, .ref r :: st) M (y, pc + 3, lv, v :: st) M := by
  refine mTo_step ?_
  obtain ⟨h1, h2⟩ := e_eq (sc := sc) (d := d) (lv := lv) (st := .ref r :: st) (M := M) hT hq he
  rw [h1]
  obtain ⟨o1, o2, hR, -⟩ := aChk_R (k := idx) rfl h2 (by simp)
  refine mOr_r (fun s hs => by have := mG1 hs; cases this) (mOr_r (fun s hs => by have := mG2 hs; cases this) (mOr_r (fun s hs => by have := mG3 hs; cases this) (mOr_r (fun s hs => by have := mG4 hs; cases this) (mOr_l ?_))))
  simp only [mOp5, hR, h9, and_self, if_true, hM, hcl, hk, hv, mGo]
theorem e_putf {idx ci r : Nat} {k : Int} {x : Nat × Nat × Nat} {fs : List Value} {z : Int32} {cl : vw_C} {ty : FieldType} (hT : aTabOk) (hq : mjM y = some q) (he : aTab y pc = some (.putfield idx, 3, 0, ci, k, x)) (hcl : vwCl[ci]? = some cl) (hty : mTy ci k.toNat = some ty) (hk : k.toNat < cl.2.2 ∧ (cl.2.1 k.toNat).2.2.2 = false ∧ ty = .int) (h9 : 9 ≤ r) (hM : M[r - 9]? = some (.inr (ci, fs))) (hl : k.toNat < fs.length) : mTo sc d (y, pc, lv, .int z :: .ref r :: st) M (y, pc + 3, lv, st) (M.set (r - 9) (.inr (ci, fs.set k.toNat (.int z)))) := by
  refine mTo_step ?_
  obtain ⟨h1, h2⟩ := e_eq (sc := sc) (d := d) (lv := lv) (st := .int z :: .ref r :: st) (M := M) hT hq he
  rw [h1]
  obtain ⟨o1, o2, hR, -⟩ := aChk_R (k := idx) rfl h2 (by simp)
  refine mOr_r (fun s hs => by have := mG1 hs; cases this) (mOr_r (fun s hs => by have := mG2 hs; cases this) (mOr_r (fun s hs => by have := mG3 hs; cases this) (mOr_r (fun s hs => by have := mG4 hs; cases this) (mOr_l ?_))))
  obtain ⟨k1, k2, rfl⟩ := hk
  simp only [mOp5, hR, h9, and_self, if_true, hM, hcl, hty]
  rw [if_pos ⟨trivial, k1, hl, rfl, Or.inl k2⟩]
  rfl
theorem e_ald {n r : Nat} {f : Nat → Int32} {i : Int32} {x : Nat × Nat × Nat × Int × Nat × Nat × Nat} (hT : aTabOk) (hq : mjM y = some q) (he : aTab y pc = some (.iaload, x)) (h9 : x.1 = 1 ∧ 9 ≤ r) (hM : M[r - 9]? = some (.inl (n, f))) (hi : 0 ≤ i.toInt ∧ i.toInt < n) : mTo sc d (y, pc, lv, .int i :: .ref r :: st) M (y, pc + 1, lv, .int (f i.toInt.toNat) :: st) M := by
  refine mTo_step ?_
  rw [(e_eq hT hq he).1]
  have hno : ¬ (i < 0 ∨ n ≤ i.toNatClampNeg) := by
    intro z
    rcases z with z | z
    · rw [Int32.lt_iff_toInt_lt] at z
      have : (0 : Int32).toInt = 0 := rfl
      omega
    · have : i.toNatClampNeg = i.toInt.toNat := rfl
      omega
  have hr0 : ¬ r = 0 := by omega
  refine mOr_r (fun s hs => by have := mG1 hs; cases this) (mOr_r (fun s hs => by have := mG2 hs; cases this) (mOr_r (fun s hs => by have := mG3 hs; cases this) (mOr_r (fun s hs => by have := mG4 hs; cases this) (mOr_l ?_))))
  simp only [mOp5, h9.1, h9.2, if_true, if_neg hr0, hM, if_neg hno, mGo]
  rfl
theorem e_ast {n r : Nat} {f : Nat → Int32} {i z : Int32} {x : Nat × Nat × Nat × Int × Nat × Nat × Nat} (hT : aTabOk) (hq : mjM y = some q) (he : aTab y pc = some (.iastore, x)) (h9 : x.1 = 1 ∧ 9 ≤ r) (hM : M[r - 9]? = some (.inl (n, f))) (hi : 0 ≤ i.toInt ∧ i.toInt < n) : mTo sc d (y, pc, lv, .int z :: .int i :: .ref r :: st) M (y, pc + 1, lv, st) (M.set (r - 9) (.inl (n, upd f i.toInt.toNat z))) := by
  refine mTo_step ?_
  rw [(e_eq hT hq he).1]
  have hno : ¬ (i < 0 ∨ n ≤ i.toNatClampNeg) := by
    intro z
    rcases z with z | z
    · rw [Int32.lt_iff_toInt_lt] at z
      have : (0 : Int32).toInt = 0 := rfl
      omega
    · have : i.toNatClampNeg = i.toInt.toNat := rfl
      omega
  refine mOr_r (fun s hs => by have := mG1 hs; cases this) (mOr_r (fun s hs => by have := mG2 hs; cases this) (mOr_r (fun s hs => by have := mG3 hs; cases this) (mOr_r (fun s hs => by have := mG4 hs; cases this) (mOr_l ?_))))
  simp only [mOp5, h9.1, h9.2, and_self, if_true, hM, if_neg hno, mGo]
  rfl
/-- a virtual call -/
theorem e_call {idx y' np mx oc r N1 : Nat} {v : Int} {rest : List Value} {fs : List Value} {res : Option Value} (hT : aTabOk) (hq : mjM y = some q) (he : aTab y pc = some (.invokevirtual idx, 3, 1, y', v, np, mx, oc)) (hd : st.drop np = .ref r :: rest) (h9 : 9 ≤ r ∧ np ≤ st.length) (hM : M[r - 9]? = some (.inr (oc, fs))) (hcat : mCat rest ≤ 8) (hsl : mCat (.ref r :: (st.take np).reverse) ≤ mx) (hmx : mx ≤ 100 ∧ oc ≠ 13)
    (hc : mRun none N1 d (y', 0, lv_args 0 (.ref r :: (st.take np).reverse), []) M = some (res, M')) : mTo sc (d + 1) (y, pc, lv, st) M (y, pc + 3, lv, res.toList ++ rest) M' := by
  obtain ⟨h1, h2⟩ := e_eq (sc := sc) (d := d + 1) (lv := lv) (st := st) (M := M) hT hq he
  obtain ⟨o1, o2, hR, hC⟩ := aChk_R (k := idx) rfl h2 (by simp)
  obtain ⟨hnp, q2, hq1, hq2, hq3⟩ := hC (Nat.le_refl _) (by show 1 ≤ 5; omega)
  have hnp : mNp y' = some np := hnp
  have hq1 : mjM y' = some q2 := hq1
  have hq2 : q2.2.2.1 = mx := hq2
  have hq3 : q2.2.2.2.2 = oc := hq3
  refine mTo_call (y := y') (vs := .ref r :: (st.take np).reverse) (fr' := (y, pc + 3, lv, rest)) ?_ hc
  rw [h1]
  refine mOr_r (fun s hs => by have := mG1 hs; cases this) (mOr_r (fun s hs => by have := mG2 hs; cases this) (mOr_r (fun s hs => by have := mG3 hs; cases this) (mOr_r (fun s hs => by have := mG4 hs; cases this) (mOr_r (fun s hs => by have := mG5 hs; cases this) (mOr_l ?_)))))
  simp only [mOp6, if_true, hR, hnp, hd]
  rw [if_pos h9]
  simp only [hM, hq1]
  rw [if_pos hq3.symm]
  unfold mCall
  rw [hq1]
  simp only
  rw [if_pos ⟨hcat, by rw [lg_sl_cat, hq2]; exact hsl, by rw [hq2]; exact hmx.1, by rw [hq3]; exact hmx.2⟩]
/-- a static call -/
theorem e_calls {idx y' np mx oc N1 : Nat} {v : Int} {res : Option Value} (hT : aTabOk) (hq : mjM y = some q) (he : aTab y pc = some (.invokestatic idx, 3, 2, y', v, np, mx, oc)) (h9 : np ≤ st.length) (hcat : mCat (st.drop np) ≤ 8) (hsl : mCat (st.take np).reverse ≤ mx) (hmx : mx ≤ 100 ∧ oc ≠ 13)
    (hc : mRun none N1 d (y', 0, lv_args 0 (st.take np).reverse, []) M = some (res, M')) : mTo sc (d + 1) (y, pc, lv, st) M (y, pc + 3, lv, res.toList ++ st.drop np) M' := by
  obtain ⟨h1, h2⟩ := e_eq (sc := sc) (d := d + 1) (lv := lv) (st := st) (M := M) hT hq he
  obtain ⟨o1, o2, hR, hC⟩ := aChk_R (k := idx) rfl h2 (by simp)
  obtain ⟨hnp, q2, hq1, hq2, hq3⟩ := hC (by show 1 ≤ 2; omega) (by show 2 ≤ 5; omega)
  have hnp : mNp y' = some np := hnp
  have hq1 : mjM y' = some q2 := hq1
  have hq2 : q2.2.2.1 = mx := hq2
  have hq3 : q2.2.2.2.2 = oc := hq3
  refine mTo_call (y := y') (vs := (st.take np).reverse) (fr' := (y, pc + 3, lv, st.drop np)) ?_ hc
  rw [h1]
  refine mOr_r (fun s hs => by have := mG1 hs; cases this) (mOr_r (fun s hs => by have := mG2 hs; cases this) (mOr_r (fun s hs => by have := mG3 hs; cases this) (mOr_r (fun s hs => by have := mG4 hs; cases this) (mOr_r (fun s hs => by have := mG5 hs; cases this) (mOr_l ?_)))))
  simp only [mOp6, if_true, hR, hnp]
  rw [if_pos h9]
  unfold mCall
  rw [hq1]
  simp only
  rw [if_pos ⟨hcat, by rw [lg_sl_cat, hq2]; exact hsl, by rw [hq2]; exact hmx.1, by rw [hq3]; exact hmx.2⟩]
/-- ends -/
theorem e_iret {x : Int32} {r : Nat × Nat × Nat × Int × Nat × Nat × Nat} (hT : aTabOk) (hq : mjM y = some q) (he : aTab y pc = some (.ireturn, r)) (h1 : r.1 = 1 ∧ q.2.2.2.1 = some .int) : mRun sc 1 d (y, pc, lv, [.int x]) M = some (some (.int x), M) := by
  unfold mRun
  rw [(e_eq hT hq he).1]
  have : mOp sc d q y pc (Instr.ireturn, r).2.1 lv [.int x] M (Instr.ireturn, r).1 = some (.inr (.inr (some (.int x)))) := by
    refine mOr_r (fun s hs => by have := mG1 hs; cases this) (mOr_r (fun s hs => by have := mG2 hs; cases this) (mOr_r (fun s hs => by have := mG3 hs; cases this) (mOr_r (fun s hs => by have := mG4 hs; cases this) (mOr_r (fun s hs => by have := mG5 hs; cases this) (mOr_r (fun s hs => by have := mG6 hs; cases this) ?_)))))
    simp only [mOp7, h1.1, h1.2, if_true]
    rw [if_pos (show narrow .int (.int x) = .int x from rfl)]
  rw [this]
theorem e_vret {r : Nat × Nat × Nat × Int × Nat × Nat × Nat} (hT : aTabOk) (hq : mjM y = some q) (he : aTab y pc = some (.return_, r)) (h1 : r.1 = 1 ∧ q.2.2.2.1 = none) : mRun sc 1 d (y, pc, lv, []) M = some (none, M) := by
  unfold mRun
  rw [(e_eq hT hq he).1]
  have : mOp sc d q y pc (Instr.return_, r).2.1 lv [] M (Instr.return_, r).1 = some (.inr (.inr none)) := by
    refine mOr_r (fun s hs => by have := mG1 hs; cases this) (mOr_r (fun s hs => by have := mG2 hs; cases this) (mOr_r (fun s hs => by have := mG3 hs; cases this) (mOr_r (fun s hs => by have := mG4 hs; cases this) (mOr_r (fun s hs => by have := mG5 hs; cases this) (mOr_r (fun s hs => by have := mG6 hs; cases this) ?_)))))
    simp only [mOp7, h1.1, h1.2, if_true]
  rw [this]
/-- a boolean's end -/
theorem e_zret {x : Int32} {r : Nat × Nat × Nat × Int × Nat × Nat × Nat} (hT : aTabOk) (hq : mjM y = some q) (he : aTab y pc = some (.ireturn, r)) (h1 : r.1 = 1 ∧ q.2.2.2.1 = some .boolean) (hx : x = 0 ∨ x = 1) : mRun sc 1 d (y, pc, lv, [.int x]) M = some (some (.int x), M) := by
  unfold mRun
  rw [(e_eq hT hq he).1]
  have : mOp sc d q y pc (Instr.ireturn, r).2.1 lv [.int x] M (Instr.ireturn, r).1 = some (.inr (.inr (some (.int x)))) := by
    refine mOr_r (fun s hs => by have := mG1 hs; cases this) (mOr_r (fun s hs => by have := mG2 hs; cases this) (mOr_r (fun s hs => by have := mG3 hs; cases this) (mOr_r (fun s hs => by have := mG4 hs; cases this) (mOr_r (fun s hs => by have := mG5 hs; cases this) (mOr_r (fun s hs => by have := mG6 hs; cases this) ?_)))))
    simp only [mOp7, h1.1, h1.2, if_true]
    have h0 : narrow .boolean (.int 0) = .int 0 := by decide +kernel
    have h1 : narrow .boolean (.int 1) = .int 1 := by decide +kernel
    rcases hx with rfl | rfl
    · rw [if_pos h0]
    · rw [if_pos h1]
  rw [this]
theorem mEnd_to {N : Nat} {x : Option Value × mHe} {fr fr' : mFr} (a : mTo sc d fr M fr' M') (b : mRun sc N d fr' M' = some x) : ∃ N', mRun sc N' d fr M = some x := a N x b
end RAW
/-! locals in any order -/
theorem mlg_eq (i : Nat) (v : Value) (lv : List (Nat × Value)) : mlg i (mlp i v lv) = some v := by
  unfold mlg mlp
  rw [List.find?_cons]
  simp
theorem mlg_ne {i j : Nat} {v c : Value} {lv : List (Nat × Value)} (h : mlg j lv = some c) (hc : c.category = 1) (hne : j ≠ i) : mlg j (mlp i v lv) = some c := by
  have hij : ((i, v).1 == j) = false := by simpa using (Ne.symm hne)
  unfold mlp mlg
  rw [List.find?_cons, hij]
  refine mlg_filter h (fun q hq hc2 => ?_)
  rw [hq, hc2, hc]
  simp [hne]
theorem mlg_i {i j : Nat} {v : Value} {x : Int32} {lv : List (Nat × Value)} (h : mlg j lv = some (.int x)) (hne : j ≠ i) : mlg j (mlp i v lv) = some (.int x) := mlg_ne h rfl hne
theorem mlg_r {i j : Nat} {v : Value} {x : Nat} {lv : List (Nat × Value)} (h : mlg j lv = some (.ref x)) (hne : j ≠ i) : mlg j (mlp i v lv) = some (.ref x) := mlg_ne h rfl hne
section RAWL
variable {sc : Option (Nat × (Nat → Int32))} {d y pc : Nat} {lv : List (Nat × Value)} {st : List Value} {M : mHe} {q : mMd}
theorem e_il1 {k : Fin 4} {r : Nat × Nat × Nat × Int × Nat × Nat × Nat} {x : Int32} (hT : aTabOk) (hq : mjM y = some q) (he : aTab y pc = some (.iload_n k, r)) (h1 : r.1 = 1) (h : mlg k lv = some (.int x)) : mTo sc d (y, pc, lv, st) M (y, pc + 1, lv, .int x :: st) M :=
  e_st hT hq he (mOr_l (by simp only [mOp1, h1, h, if_true, mGo]))
theorem e_il2 {k : Nat} {r : Nat × Nat × Nat × Int × Nat × Nat × Nat} {x : Int32} (hT : aTabOk) (hq : mjM y = some q) (he : aTab y pc = some (.iload k, r)) (h1 : r.1 = 2) (h : mlg k lv = some (.int x)) : mTo sc d (y, pc, lv, st) M (y, pc + 2, lv, .int x :: st) M :=
  e_st hT hq he (mOr_l (by simp only [mOp1, h1, h, if_true, mGo]))
theorem e_al1 {k : Fin 4} {r : Nat × Nat × Nat × Int × Nat × Nat × Nat} {x : Nat} (hT : aTabOk) (hq : mjM y = some q) (he : aTab y pc = some (.aload_n k, r)) (h1 : r.1 = 1) (h : mlg k lv = some (.ref x)) : mTo sc d (y, pc, lv, st) M (y, pc + 1, lv, .ref x :: st) M :=
  e_st hT hq he (mOr_l (by simp only [mOp1, h1, h, if_true, mGo]))
theorem e_is1 {k : Fin 4} {r : Nat × Nat × Nat × Int × Nat × Nat × Nat} {x : Int32} (hT : aTabOk) (hq : mjM y = some q) (he : aTab y pc = some (.istore_n k, r)) (h1 : r.1 = 1 ∧ (k : Nat) < q.2.2.1) : mTo sc d (y, pc, lv, .int x :: st) M (y, pc + 1, mlp k (.int x) lv, st) M :=
  e_st hT hq he (mOr_r (fun s hs => by have := mG1 hs; cases this) (mOr_l (by simp only [mOp2, h1.1, h1.2, and_self, if_true, mGo])))
theorem e_is2 {k : Nat} {r : Nat × Nat × Nat × Int × Nat × Nat × Nat} {x : Int32} (hT : aTabOk) (hq : mjM y = some q) (he : aTab y pc = some (.istore k, r)) (h1 : r.1 = 2 ∧ k < q.2.2.1) : mTo sc d (y, pc, lv, .int x :: st) M (y, pc + 2, mlp k (.int x) lv, st) M :=
  e_st hT hq he (mOr_r (fun s hs => by have := mG1 hs; cases this) (mOr_l (by simp only [mOp2, h1.1, h1.2, and_self, if_true, mGo])))
theorem e_ii {k : Nat} {v : Int} {r : Nat × Nat × Nat × Int × Nat × Nat × Nat} {x : Int32} (hT : aTabOk) (hq : mjM y = some q) (he : aTab y pc = some (.iinc k v, r)) (h1 : r.1 = 3 ∧ k < q.2.2.1) (h : mlg k lv = some (.int x)) : mTo sc d (y, pc, lv, st) M (y, pc + 3, mlp k (.int (x + Int32.ofInt v)) lv, st) M :=
  e_st hT hq he (mOr_r (fun s hs => by have := mG1 hs; cases this) (mOr_l (by simp only [mOp2, h, h1.1, h1.2, and_self, if_true, mGo])))
end RAWL
/-- a run that ends so -/
def mEv (sc : Option (Nat × (Nat → Int32))) (d : Nat) (fr : mFr) (M : mHe) (Q : Option Value → mHe → Prop) : Prop := ∃ N r M', mRun sc N d fr M = some (r, M') ∧ Q r M'
theorem e_then {sc : Option (Nat × (Nat → Int32))} {d : Nat} {fr fr' : mFr} {M M' : mHe} {Q : Option Value → mHe → Prop} (a : mTo sc d fr M fr' M') (h : mEv sc d fr' M' Q) : mEv sc d fr M Q := by
  obtain ⟨N, r, M2, h1, h2⟩ := h
  obtain ⟨N', h3⟩ := a N _ h1
  exact ⟨N', r, M2, h3, h2⟩
theorem e_fin {sc : Option (Nat × (Nat → Int32))} {d : Nat} {fr : mFr} {M M' : mHe} {r : Option Value} {Q : Option Value → mHe → Prop} (h : mRun sc 1 d fr M = some (r, M')) (hq : Q r M') : mEv sc d fr M Q := ⟨1, r, M', h, hq⟩
theorem i32n {k : Nat} (h : k < 2147483648) : (Int32.ofNat k).toInt = (k : Int) := Int32.toInt_ofNat_of_lt h
theorem i32eq {x y : Int32} (h : x.toInt = y.toInt) : x = y := Int32.toInt_inj.mp h
theorem cdT {k : Jvm.ClassFile.Cond} {x y : Int32} (h : yCd k x.toInt y.toInt) : mCd k x y = true := mCd_y.mpr h
theorem cdF {k : Jvm.ClassFile.Cond} {x y : Int32} (h : ¬ yCd k x.toInt y.toInt) : mCd k x y = false := by
  cases hc : mCd k x y
  · rfl
  · exact absurd (mCd_y.mp hc) h
/-- a reference out of an object -/
theorem e_getR {sc : Option (Nat × (Nat → Int32))} {d y pc : Nat} {lv : List (Nat × Value)} {st : List Value} {M : mHe} {q : mMd} {idx ci r r' : Nat} {k l u : Int} {x : Nat × Nat × Nat} {fts : List (Nat × Nat × Int × Int)} {cl : vw_C} (hT : aTabOk) (hq : mjM y = some q) (he : aTab y pc = some (.getfield idx, 3, 0, ci, k, x)) (hcl : vwCl[ci]? = some cl) (hk : k.toNat < cl.2.2) (h9 : 9 ≤ r) (hM : yTy M) (ht : tTy (r - 9) = some (.inr (ci, fts))) (hf : fts[k.toNat]? = some (0, r', l, u)) : mTo sc d (y, pc, lv, .ref r :: st) M (y, pc + 3, lv, .ref r' :: st) M := by
  obtain ⟨fs, h1, h2⟩ := yTy_obj hM ht
  obtain ⟨v, v1, v2⟩ := h2.2 _ _ hf
  have v2 : v = .ref r' := v2
  rw [v2] at v1
  exact e_getf hT hq he hcl hk h9 h1 v1
/-- a number of a row whose number is known -/
theorem e_aldR {sc : Option (Nat × (Nat → Int32))} {d y pc : Nat} {lv : List (Nat × Value)} {st : List Value} {M : mHe} {q : mMd} {n tag r k : Nat} {regs : List tR} {i v : Int32} {xs : tXs} {x : Nat × Nat × Nat × Int × Nat × Nat × Nat} (hT : aTabOk) (hq : mjM y = some q) (he : aTab y pc = some (.iaload, x)) (h9 : x.1 = 1 ∧ 9 ≤ r) (hM : yTy M) (ht : tTy (r - 9) = some (.inl (n, tag, regs))) (hi : i.toInt = (k : Int)) (hk : k < n) (hv : yRd xs M (r - 9) k = some (.int v)) : mTo sc d (y, pc, lv, .int i :: .ref r :: st) M (y, pc + 1, lv, .int v :: st) M := by
  obtain ⟨f, h1, -⟩ := yTy_arr hM ht
  have h2 := e_ald (sc := sc) (d := d) (lv := lv) (st := st) hT hq he h9 h1 (i := i) (by omega)
  rw [yRd_arr xs (tTy_lt ht) h1 hk] at hv
  cases hv
  have : i.toInt.toNat = k := by omega
  rw [this] at h2
  exact h2
/-- a segment: a run with stops -/
theorem tSeg {xs : tXs} (hT : aTabOk) {K : tKt} (hK : ∀ ct ∈ K.2, tCtOk ct) {n d : Nat} {Ws : List (List tG)} {fr : aFr} {h : tF} {cs : aC} {lfs : List tLf_} {E : List Int} {clv : List (Nat × Value)} {cst : List Value} {M : mHe} (hr : tRun K n false d Ws [] fr h cs = some lfs) (hE : xE E cs) (hL : yLv E fr.2.2.1 clv) (hS : yS E fr.2.2.2 cst) (hH : yH xs E h M) : ∃ lf ∈ lfs, tEnd1 xs none d E Ws (fr.1, fr.2.1, clv, cst) M lf := by
  rcases tRun_ok hT hK n false none d Ws [] fr h cs lfs E clv cst M hr hE hL hS hH (fun z => by cases z) (fun L hL => by cases hL) with h | h
  · exact h
  · exact h.elim
def tHas (lv : List (Nat × aV)) (k : Nat) (v : aV) : Bool := match alg k lv with
  | some w => aSame w v
  | none => false
theorem tHas_i {E : List Int} {lv : List (Nat × aV)} {clv : List (Nat × Value)} {k i : Nat} {c : Int} (h : tHas lv k (4, i, c, 0) = true) (hL : yLv E lv clv) : ∃ (x : Int32) (e : Int), mlg k clv = some (.int x) ∧ E[i]? = some e ∧ x.toInt = e + c := by
  unfold tHas at h
  split at h
  · next w hw =>
    rw [aSame_eq h] at hw
    obtain ⟨v, v1, v2⟩ := hL k _ hw
    obtain ⟨x, rfl, -, e, e1, e2⟩ := yV_int rfl v2
    exact ⟨x, e, v1, e1, e2⟩
  · cases h
theorem tHas_r {E : List Int} {lv : List (Nat × aV)} {clv : List (Nat × Value)} {k r : Nat} (h : tHas lv k (kR r) = true) (hL : yLv E lv clv) : mlg k clv = some (.ref r) := by
  unfold tHas at h
  split at h
  · next w hw =>
    rw [aSame_eq h] at hw
    obtain ⟨v, v1, v2⟩ := hL k _ hw
    rw [v1, yV_ref v2]
  · cases h
theorem xE_of_list {E : List Int} {b : List (Int × Int)} (hl : E.length = b.length) (h : ∀ (i : Nat) (l u e : Int), b[i]? = some (l, u) → E[i]? = some e → (l ≤ e ∧ e ≤ u) ∧ -2147483648 ≤ e ∧ e ≤ 2147483647) : xE E (b, []) := by
  refine ⟨hl, fun i e he => ?_, fun i l u e hb he => (h i l u e hb he).1, fun t ht => by cases ht⟩
  have : i < b.length := by rw [← hl]; exact (List.getElem?_eq_some_iff.mp he).1
  exact (h i b[i].1 b[i].2 e (List.getElem?_eq_getElem this) he).2
theorem yLv_nil (E : List Int) (clv : List (Nat × Value)) : yLv E [] clv := fun k v h => by cases h
theorem yLv_cons {E : List Int} {al : List (Nat × aV)} {clv : List (Nat × Value)} {k : Nat} {v : aV} {c : Value} (h1 : mlg k clv = some c) (h2 : yV E v c) (h : yLv E al clv) : yLv E ((k, v) :: al) clv := by
  intro j a hj
  rw [alg_cons] at hj
  cases hb : Nat.beq k j
  · rw [hb, cond_false] at hj; exact h j a hj
  · rw [hb, cond_true] at hj
    cases hj
    have := Nat.eq_of_beq_eq_true hb
    subst this
    exact ⟨c, h1, h2⟩
theorem yV_atom {E : List Int} {i : Nat} {x : Int32} (h : E[i]? = some x.toInt) : yV E (4, i, 0, 0) (.int x) := ⟨rfl, x.toInt, h, by omega⟩
/-- arithmetic of ints that don't wrap -/
theorem i32_lin {a b x : Int32} {n : Int} (hx : x.toInt = n) (h1 : -2147483648 ≤ b.toInt * n) (h2 : b.toInt * n ≤ 2147483647) (h3 : -2147483648 ≤ a.toInt + b.toInt * n) (h4 : a.toInt + b.toInt * n ≤ 2147483647) : (a + b * x).toInt = a.toInt + b.toInt * n := by
  have e : (b * x).toInt = b.toInt * n := by rw [i32_mul (by rw [hx]; exact h1) (by rw [hx]; exact h2), hx]
  rw [i32_add (by rw [e]; exact h3) (by rw [e]; exact h4), e]
theorem i32_p {x y : Int32} {m n k : Int} (hx : x.toInt = m) (hy : y.toInt = n) (hk : m + n = k) (h : -2147483648 ≤ k ∧ k ≤ 2147483647) : (x + y).toInt = k := by
  rw [i32_add (by omega) (by omega), hx, hy, hk]
