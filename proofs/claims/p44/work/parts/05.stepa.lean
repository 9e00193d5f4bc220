/-! A STEP OF THE SMALL MACHINE IS ONE OF THE REAL ONE: constants, loads, stores, the stack, numbers, branches -/
section MJA
variable {p : Program} {l : Launch} {e : Env} {R : Room} {s : State} {m : MethodId} {args : Array Value} {below : List Frame} {meth : Method} {c : Code} {H : Heap} {locs : List Loc} {cells slots : Nat} {Q : State → Prop}
variable {g : mG} {d : Nat} {q : mMd} {y y' pc pc' n : Nat} {lv lv' : List (Nat × Value)} {st st' : List Value} {M M' : mHe} {i : Instr} {ls : Array Slot}
set_option maxHeartbeats 4000000 in
theorem mOp1_W (F : mFx g p s m args meth c R d q) (X : mX g s H) (hdg : decode q.2.1 pc = .ok (i, n)) (hl : lv_has ls q.2.2.1 (mTl g lv))
    (h : mOp1 q.2.2.2.2 y pc n lv st M i = some (.inl ((y', pc', lv', st'), M')))
    (kk : y' = y → M' = M → ∀ ls' : Array Slot, lv_has ls' q.2.2.1 (mTl g lv') → W p l e R s m args below meth c H locs cells slots Q (F0 m pc' ls' (mTs g st'))) : W p l e R s m args below meth c H locs cells slots Q (F0 m pc ls (mTs g st)) := by
  obtain ⟨hx, hb, hml, hown, hts, hr, hlk, hnm, hfr, hlo⟩ := F
  unfold mOp1 at h
  split at h
  · split at h
    · next x hx1 =>
      split at h
      · next hn =>
        subst hn
        obtain ⟨e1, rfl, rfl, rfl, e2⟩ := mGo_inj h
        exact lv_iload_n hx hb hdg rfl (mlg_at hl hx1) (kk e1 e2 ls hl)
      · cases h
    · cases h
  · split at h
    · next x hx1 =>
      split at h
      · next hn =>
        subst hn
        obtain ⟨e1, rfl, rfl, rfl, e2⟩ := mGo_inj h
        exact lv_aload_n hx hb hdg rfl (mlg_at hl hx1) (kk e1 e2 ls hl)
      · cases h
    · cases h
  · split at h
    · next x hx1 =>
      split at h
      · next hn =>
        subst hn
        obtain ⟨e1, rfl, rfl, rfl, e2⟩ := mGo_inj h
        exact lv_lload_n hx hb hdg rfl (mlg_at hl hx1) (kk e1 e2 ls hl)
      · cases h
    · cases h
  · split at h
    · next x hx1 =>
      split at h
      · next hn =>
        subst hn
        obtain ⟨e1, rfl, rfl, rfl, e2⟩ := mGo_inj h
        exact lv_iload hx hb hdg (mlg_at hl hx1) (kk e1 e2 ls hl)
      · cases h
    · cases h
  · split at h
    · next x hx1 =>
      split at h
      · next hn =>
        subst hn
        obtain ⟨e1, rfl, rfl, rfl, e2⟩ := mGo_inj h
        exact lv_aload hx hb hdg (mlg_at hl hx1) (kk e1 e2 ls hl)
      · cases h
    · cases h
  · split at h
    · next x hx1 =>
      split at h
      · next hn =>
        subst hn
        obtain ⟨e1, rfl, rfl, rfl, e2⟩ := mGo_inj h
        exact lv_lload hx hb hdg (mlg_at hl hx1) (kk e1 e2 ls hl)
      · cases h
    · cases h
  · split at h
    · next hn =>
      subst hn
      obtain ⟨e1, rfl, rfl, rfl, e2⟩ := mGo_inj h
      exact lv_iconst hx hb hdg rfl (kk e1 e2 ls hl)
    · cases h
  · split at h
    · next hn =>
      subst hn
      obtain ⟨e1, rfl, rfl, rfl, e2⟩ := mGo_inj h
      exact lv_lconst hx hb hdg rfl (kk e1 e2 ls hl)
    · cases h
  · split at h
    · next hn =>
      subst hn
      obtain ⟨e1, rfl, rfl, rfl, e2⟩ := mGo_inj h
      exact lv_bipush hx hb hdg rfl (kk e1 e2 ls hl)
    · cases h
  · split at h
    · next hn =>
      subst hn
      obtain ⟨e1, rfl, rfl, rfl, e2⟩ := mGo_inj h
      exact lv_sipush hx hb hdg rfl (kk e1 e2 ls hl)
    · cases h
  · split at h
    · next o1 o2 o3 v hR =>
      split at h
      · next hn =>
        subst hn
        obtain ⟨e1, rfl, rfl, rfl, e2⟩ := mGo_inj h
        have ho := mjR_own hR
        have hw := mjR_words hR
        dsimp only at ho hw
        obtain ⟨rfl, hw⟩ := hw
        subst ho
        exact lv_ldc hx hb hown (hts _ (hw _ (by simp [mjWords]))) hdg (kk e1 e2 ls hl)
      · cases h
    · next o1 o2 a v hR =>
      split at h
      · next hn =>
        obtain ⟨hn, ha⟩ := hn
        subst hn
        obtain ⟨e1, rfl, rfl, rfl, e2⟩ := mGo_inj h
        have ho := mjR_own hR
        have hw := (mjR_words hR).1
        dsimp only at ho hw
        subst hw
        subst ho
        obtain ⟨t, ht, hC⟩ := mjR_str hR
        have hZ := X.2.2.1 t ht
        rw [← hC.1, hC.2.1, hC.2.2] at hZ
        refine va_ldcS hx hb hown hZ hdg ?_
        have ev : mTs g (Value.ref (1 + a) :: st) = .ref (gK g a) :: mTs g st := by
          have e3 : mAd g (1 + a) = gK g a := by rw [mAd, if_neg (by omega), if_pos (by omega), show 1 + a - 1 = a by omega]
          show Value.ref (mAd g (1 + a)) :: _ = _
          rw [e3]
          rfl
        have hk := kk e1 e2 ls hl
        rw [ev] at hk
        exact hk
      · cases h
    · cases h
  · split at h
    · next o1 o2 o3 v hR =>
      split at h
      · next hn =>
        subst hn
        obtain ⟨e1, rfl, rfl, rfl, e2⟩ := mGo_inj h
        have ho := mjR_own hR
        have hw := mjR_words hR
        dsimp only at ho hw
        obtain ⟨rfl, hw⟩ := hw
        subst ho
        exact lv_ldcw hx hb hown (hts _ (hw _ (by simp [mjWords]))) hdg (kk e1 e2 ls hl)
      · cases h
    · cases h
  · split at h
    · next o1 o2 o3 v hR =>
      split at h
      · next hn =>
        subst hn
        obtain ⟨e1, rfl, rfl, rfl, e2⟩ := mGo_inj h
        have ho := mjR_own hR
        have hw := mjR_words hR
        dsimp only at ho hw
        obtain ⟨rfl, hw⟩ := hw
        subst ho
        exact lv_ldc2 hx hb hown (hts _ (hw _ (by simp [mjWords]))) hdg (kk e1 e2 ls hl)
      · cases h
    · cases h
  · cases h
set_option maxHeartbeats 4000000 in
theorem mOp2_W (F : mFx g p s m args meth c R d q) (X : mX g s H) (hdg : decode q.2.1 pc = .ok (i, n)) (hl : lv_has ls q.2.2.1 (mTl g lv))
    (h : mOp2 q.2.2.1 y pc n lv st M i = some (.inl ((y', pc', lv', st'), M')))
    (kk : y' = y → M' = M → ∀ ls' : Array Slot, lv_has ls' q.2.2.1 (mTl g lv') → W p l e R s m args below meth c H locs cells slots Q (F0 m pc' ls' (mTs g st'))) : W p l e R s m args below meth c H locs cells slots Q (F0 m pc ls (mTs g st)) := by
  obtain ⟨hx, hb, hml, hown, hts, hr, hlk, hnm, hfr, hlo⟩ := F
  unfold mOp2 at h
  split at h
  · split at h
    · next x st1 =>
      split at h
      · next hn =>
        obtain ⟨hn, hk⟩ := hn
        subst hn
        obtain ⟨e1, rfl, rfl, rfl, e2⟩ := mGo_inj h
        exact lv_istore_n hx hb hdg rfl hl hk (mlp_tr g _ (.int x) lv) (fun ls' hl' => kk e1 e2 ls' hl')
      · cases h
    · cases h
  · split at h
    · next x st1 =>
      split at h
      · next hn =>
        obtain ⟨hn, hk⟩ := hn
        subst hn
        obtain ⟨e1, rfl, rfl, rfl, e2⟩ := mGo_inj h
        exact lv_istore hx hb hdg hl hk (mlp_tr g _ (.int x) lv) (fun ls' hl' => kk e1 e2 ls' hl')
      · cases h
    · cases h
  · split at h
    · next x st1 =>
      split at h
      · next hn =>
        obtain ⟨hn, hk⟩ := hn
        subst hn
        obtain ⟨e1, rfl, rfl, rfl, e2⟩ := mGo_inj h
        exact lv_astore_n hx hb hdg rfl hl hk (mlp_tr g _ (.ref x) lv) (fun ls' hl' => kk e1 e2 ls' hl')
      · cases h
    · cases h
  · split at h
    · next x st1 =>
      split at h
      · next hn =>
        obtain ⟨hn, hk⟩ := hn
        subst hn
        obtain ⟨e1, rfl, rfl, rfl, e2⟩ := mGo_inj h
        exact lv_astore hx hb hdg hl hk (mlp_tr g _ (.ref x) lv) (fun ls' hl' => kk e1 e2 ls' hl')
      · cases h
    · cases h
  · split at h
    · next x hx1 =>
      split at h
      · next hn =>
        obtain ⟨hn, hk⟩ := hn
        subst hn
        obtain ⟨e1, rfl, rfl, rfl, e2⟩ := mGo_inj h
        obtain ⟨j, hj⟩ := mlg_mem (g := g) hx1
        exact lv_iinc hx hb hdg hl hj rfl hk (mlp_tr g _ (.int _) lv) (fun ls' hl' => kk e1 e2 ls' hl')
      · cases h
    · cases h
  · split at h
    · next a st1 =>
      split at h
      · next hn =>
        obtain ⟨hn, hk⟩ := hn
        subst hn
        obtain ⟨e1, rfl, rfl, rfl, e2⟩ := mGo_inj h
        exact lv_dup hx hb hdg (by rw [mTr_cat]; exact hk) (kk e1 e2 ls hl)
      · cases h
    · cases h
  · split at h
    · next a st1 =>
      split at h
      · next hn =>
        obtain ⟨hn, hk⟩ := hn
        subst hn
        obtain ⟨e1, rfl, rfl, rfl, e2⟩ := mGo_inj h
        exact lv_pop hx hb hdg (by rw [mTr_cat]; exact hk) (kk e1 e2 ls hl)
      · cases h
    · cases h
  · split at h
    · next a b st1 =>
      split at h
      · next hn =>
        obtain ⟨hn, hk, hk2⟩ := hn
        subst hn
        obtain ⟨e1, rfl, rfl, rfl, e2⟩ := mGo_inj h
        exact lv_dup2_11 hx hb hdg (by rw [mTr_cat]; exact hk) (by rw [mTr_cat]; exact hk2) (kk e1 e2 ls hl)
      · cases h
    · cases h
  · cases h
set_option maxHeartbeats 4000000 in
theorem mOp3_W (F : mFx g p s m args meth c R d q) (X : mX g s H) (hdg : decode q.2.1 pc = .ok (i, n)) (hl : lv_has ls q.2.2.1 (mTl g lv))
    (h : mOp3 y pc n lv st M i = some (.inl ((y', pc', lv', st'), M')))
    (kk : y' = y → M' = M → ∀ ls' : Array Slot, lv_has ls' q.2.2.1 (mTl g lv') → W p l e R s m args below meth c H locs cells slots Q (F0 m pc' ls' (mTs g st'))) : W p l e R s m args below meth c H locs cells slots Q (F0 m pc ls (mTs g st)) := by
  obtain ⟨hx, hb, hml, hown, hts, hr, hlk, hnm, hfr, hlo⟩ := F
  unfold mOp3 at h
  split at h
  · next hn =>
    subst hn
    split at h
    · obtain ⟨e1, rfl, rfl, rfl, e2⟩ := mGo_inj h
      exact lv_iadd hx hb hdg (kk e1 e2 ls hl)
    · obtain ⟨e1, rfl, rfl, rfl, e2⟩ := mGo_inj h
      exact lv_isub hx hb hdg (kk e1 e2 ls hl)
    · obtain ⟨e1, rfl, rfl, rfl, e2⟩ := mGo_inj h
      exact lv_imul hx hb hdg (kk e1 e2 ls hl)
    · split at h
      · cases h
      · next hz =>
        obtain ⟨e1, rfl, rfl, rfl, e2⟩ := mGo_inj h
        exact lv_idiv hx hb hdg hz (kk e1 e2 ls hl)
    · split at h
      · cases h
      · next hz =>
        obtain ⟨e1, rfl, rfl, rfl, e2⟩ := mGo_inj h
        exact lv_irem hx hb hdg hz (kk e1 e2 ls hl)
    · obtain ⟨e1, rfl, rfl, rfl, e2⟩ := mGo_inj h
      exact lv_iand hx hb hdg (kk e1 e2 ls hl)
    · obtain ⟨e1, rfl, rfl, rfl, e2⟩ := mGo_inj h
      exact lv_ior hx hb hdg (kk e1 e2 ls hl)
    · obtain ⟨e1, rfl, rfl, rfl, e2⟩ := mGo_inj h
      exact lv_ixor hx hb hdg (kk e1 e2 ls hl)
    · obtain ⟨e1, rfl, rfl, rfl, e2⟩ := mGo_inj h
      exact lv_ishl hx hb hdg (kk e1 e2 ls hl)
    · obtain ⟨e1, rfl, rfl, rfl, e2⟩ := mGo_inj h
      exact lv_ishr hx hb hdg (kk e1 e2 ls hl)
    · obtain ⟨e1, rfl, rfl, rfl, e2⟩ := mGo_inj h
      exact lv_iushr hx hb hdg rfl (kk e1 e2 ls hl)
    · obtain ⟨e1, rfl, rfl, rfl, e2⟩ := mGo_inj h
      exact lv_ineg hx hb hdg (kk e1 e2 ls hl)
    · obtain ⟨e1, rfl, rfl, rfl, e2⟩ := mGo_inj h
      exact lv_i2l hx hb hdg rfl (kk e1 e2 ls hl)
    · obtain ⟨e1, rfl, rfl, rfl, e2⟩ := mGo_inj h
      exact lv_ladd hx hb hdg (kk e1 e2 ls hl)
    · obtain ⟨e1, rfl, rfl, rfl, e2⟩ := mGo_inj h
      exact W.lcmp hx hb hdg (kk e1 e2 ls hl)
    · cases h
  · cases h
set_option maxHeartbeats 4000000 in
theorem mOp4_W (F : mFx g p s m args meth c R d q) (X : mX g s H) (hdg : decode q.2.1 pc = .ok (i, n)) (hl : lv_has ls q.2.2.1 (mTl g lv))
    (h : mOp4 y pc n lv st M i = some (.inl ((y', pc', lv', st'), M')))
    (kk : y' = y → M' = M → ∀ ls' : Array Slot, lv_has ls' q.2.2.1 (mTl g lv') → W p l e R s m args below meth c H locs cells slots Q (F0 m pc' ls' (mTs g st'))) : W p l e R s m args below meth c H locs cells slots Q (F0 m pc ls (mTs g st)) := by
  obtain ⟨hx, hb, hml, hown, hts, hr, hlk, hnm, hfr, hlo⟩ := F
  unfold mOp4 at h
  split at h
  · split at h
    · next hn =>
      subst hn
      obtain ⟨e1, e0, rfl, rfl, e2⟩ := mBr_inj h
      exact lv_goto hx hb hdg e0 (kk e1 e2 ls hl)
    · cases h
  · next k off =>
    split at h
    · next a st1 =>
      split at h
      · next hn =>
        subst hn
        split at h
        · cases h
        · next t ht =>
          have e0 := mTg_eq ht
          by_cases hc : mCd k a 0 = true
          · rw [if_pos hc] at h
            obtain ⟨e1, rfl, rfl, rfl, e2⟩ := mGo_inj h
            cases k <;> simp only [mCd, beq_iff_eq, bne_iff_ne, decide_eq_true_eq, ge_iff_le, gt_iff_lt, ne_eq] at hc
            · exact lv_if_eq hx hb hdg e0 (fun _ => kk e1 e2 ls hl) (fun z => absurd hc z)
            · exact lv_if_ne hx hb hdg e0 (fun _ => kk e1 e2 ls hl) (fun z => absurd z hc)
            · exact lv_if_lt hx hb hdg e0 (fun _ => kk e1 e2 ls hl) (fun z => absurd hc z)
            · exact lv_if_ge hx hb hdg e0 (fun _ => kk e1 e2 ls hl) (fun z => absurd hc z)
            · exact lv_if_gt hx hb hdg e0 (fun _ => kk e1 e2 ls hl) (fun z => absurd hc z)
            · exact lv_if_le hx hb hdg e0 (fun _ => kk e1 e2 ls hl) (fun z => absurd hc z)
          · rw [if_neg hc] at h
            obtain ⟨e1, rfl, rfl, rfl, e2⟩ := mGo_inj h
            cases k <;> simp only [mCd, beq_iff_eq, bne_iff_ne, decide_eq_true_eq, ge_iff_le, gt_iff_lt, ne_eq] at hc
            · exact lv_if_eq hx hb hdg e0 (fun z => absurd z hc) (fun _ => kk e1 e2 ls hl)
            · exact lv_if_ne hx hb hdg e0 (fun z => absurd z hc) (fun _ => kk e1 e2 ls hl)
            · exact lv_if_lt hx hb hdg e0 (fun z => absurd z hc) (fun _ => kk e1 e2 ls hl)
            · exact lv_if_ge hx hb hdg e0 (fun z => absurd z hc) (fun _ => kk e1 e2 ls hl)
            · exact lv_if_gt hx hb hdg e0 (fun z => absurd z hc) (fun _ => kk e1 e2 ls hl)
            · exact lv_if_le hx hb hdg e0 (fun z => absurd z hc) (fun _ => kk e1 e2 ls hl)
      · cases h
    · cases h
  · next k off =>
    split at h
    · next b a st1 =>
      split at h
      · next hn =>
        subst hn
        split at h
        · cases h
        · next t ht =>
          have e0 := mTg_eq ht
          by_cases hc : mCd k a b = true
          · rw [if_pos hc] at h
            obtain ⟨e1, rfl, rfl, rfl, e2⟩ := mGo_inj h
            cases k <;> simp only [mCd, beq_iff_eq, bne_iff_ne, decide_eq_true_eq, ge_iff_le, gt_iff_lt, ne_eq] at hc
            · exact lv_icmp_eq hx hb hdg e0 (fun _ => kk e1 e2 ls hl) (fun z => absurd hc z)
            · exact lv_icmp_ne hx hb hdg e0 (fun _ => kk e1 e2 ls hl) (fun z => absurd z hc)
            · exact lv_icmp_lt hx hb hdg e0 (fun _ => kk e1 e2 ls hl) (fun z => absurd hc z)
            · exact lv_icmp_ge hx hb hdg e0 (fun _ => kk e1 e2 ls hl) (fun z => absurd hc z)
            · exact lv_icmp_gt hx hb hdg e0 (fun _ => kk e1 e2 ls hl) (fun z => absurd hc z)
            · exact lv_icmp_le hx hb hdg e0 (fun _ => kk e1 e2 ls hl) (fun z => absurd hc z)
          · rw [if_neg hc] at h
            obtain ⟨e1, rfl, rfl, rfl, e2⟩ := mGo_inj h
            cases k <;> simp only [mCd, beq_iff_eq, bne_iff_ne, decide_eq_true_eq, ge_iff_le, gt_iff_lt, ne_eq] at hc
            · exact lv_icmp_eq hx hb hdg e0 (fun z => absurd z hc) (fun _ => kk e1 e2 ls hl)
            · exact lv_icmp_ne hx hb hdg e0 (fun z => absurd z hc) (fun _ => kk e1 e2 ls hl)
            · exact lv_icmp_lt hx hb hdg e0 (fun z => absurd z hc) (fun _ => kk e1 e2 ls hl)
            · exact lv_icmp_ge hx hb hdg e0 (fun z => absurd z hc) (fun _ => kk e1 e2 ls hl)
            · exact lv_icmp_gt hx hb hdg e0 (fun z => absurd z hc) (fun _ => kk e1 e2 ls hl)
            · exact lv_icmp_le hx hb hdg e0 (fun z => absurd z hc) (fun _ => kk e1 e2 ls hl)
      · cases h
    · cases h
  · next dd lo hi offs =>
    split at h
    · next a st1 =>
      by_cases hc : a.toInt < lo ∨ hi < a.toInt
      · rw [if_pos hc] at h
        obtain ⟨e1, e0, rfl, rfl, e2⟩ := mBr_inj h
        exact lv_tableOut hx hb hdg hc e0 (kk e1 e2 ls hl)
      · rw [if_neg hc] at h
        split at h
        · next off ho =>
          obtain ⟨e1, e0, rfl, rfl, e2⟩ := mBr_inj h
          exact lv_tableIn hx hb hdg (fun z => hc (Or.inl z)) (fun z => hc (Or.inr z)) ho e0 (kk e1 e2 ls hl)
        · cases h
    · cases h
  · next dd ps =>
    split at h
    · next a st1 =>
      split at h
      · next hp =>
        obtain ⟨e1, e0, rfl, rfl, e2⟩ := mBr_inj h
        exact lv_lookup hx hb hdg hp rfl e0 (kk e1 e2 ls hl)
      · cases h
    · cases h
  · cases h
end MJA
