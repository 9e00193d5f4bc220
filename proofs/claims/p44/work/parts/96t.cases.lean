theorem hmem (i : Nat) (c : tCt) (h : tKs_144[i]? = some c) : c ∈ tKs_144 := List.mem_of_getElem? h
/-! THE CASES -/
theorem hC_0 (hT : aTabOk) {n : Nat} {f : Nat → Int32} (hn : n ≤ 384) (h : hBoth 183 257 2 false) : hStep n f 248 := by
  intro e clv M hst he
  obtain ⟨l0, l1, l2, ⟨x, l3, hx⟩, hb, hM, hR⟩ := id hst
  have hx1 : (x + 1).toInt = e + 1 := by rw [i32_add (by rw [hx, show (1 : Int32).toInt = 1 from rfl]; omega) (by rw [hx, show (1 : Int32).toInt = 1 from rfl]; omega), hx, show (1 : Int32).toInt = 1 from rfl]
  obtain ⟨a1, ha1⟩ : ∃ a, a = f (x + 1).toInt.toNat := ⟨_, rfl⟩
  have hx2 : (x + 2).toInt = e + 2 := by rw [i32_add (by rw [hx, show (2 : Int32).toInt = 2 from rfl]; omega) (by rw [hx, show (2 : Int32).toInt = 2 from rfl]; omega), hx, show (2 : Int32).toInt = 2 from rfl]
  obtain ⟨a2, ha2⟩ : ∃ a, a = f (x + 2).toInt.toNat := ⟨_, rfl⟩
  obtain ⟨K1, M1, K2, M2, r1, r2, p1, t1, p2, t2, hR2, heq⟩ := h M hM hR [a1, a2] rfl
  obtain ⟨fs1, hfs1⟩ := ob_at hM (rfl : tTy 0 = some (.inr (11, _)))
  obtain ⟨fs2, hfs2⟩ := ob_at t1 (rfl : tTy 119 = some (.inr (12, _)))
  have go : mTo (some (n, f)) 150 (365, 248, clv, []) M (365, 1838, clv, []) M2 := by
    refine mTo_tr (e_al1 hT hq_law (show aTab 365 248 = some (.aload_n 1, 1, 0, 0, 0, 0, 0, 0) from rfl) rfl l1) ?_
    refine mTo_tr (e_al1 hT hq_law (show aTab 365 249 = some (.aload_n 0, 1, 0, 0, 0, 0, 0, 0) from rfl) rfl l0) ?_
    refine mTo_tr (e_il1 hT hq_law (show aTab 365 250 = some (.iload_n 3, 1, 0, 0, 0, 0, 0, 0) from rfl) rfl l3) ?_
    refine mTo_tr (e_st hT hq_law (show aTab 365 251 = some (.iconst 1, 1, 0, 0, 0, 0, 0, 0) from rfl) (fr' := (365, 252, clv, [.int 1, .int x, .ref 0, .ref 9])) (M' := _) rfl) ?_
    refine mTo_tr (e_st hT hq_law (show aTab 365 252 = some (.iadd, 1, 0, 0, 0, 0, 0, 0) from rfl) (fr' := (365, 253, clv, [.int (x + 1), .ref 0, .ref 9])) (M' := _) rfl) ?_
    refine mTo_tr (e_ald0 hT hq_law (show aTab 365 253 = some (.iaload, 1, 0, 0, 0, 0, 0, 0) from rfl) rfl (by omega)) ?_
    rw [← ha1]
    refine mTo_tr (e_al1 hT hq_law (show aTab 365 254 = some (.aload_n 0, 1, 0, 0, 0, 0, 0, 0) from rfl) rfl l0) ?_
    refine mTo_tr (e_il1 hT hq_law (show aTab 365 255 = some (.iload_n 3, 1, 0, 0, 0, 0, 0, 0) from rfl) rfl l3) ?_
    refine mTo_tr (e_st hT hq_law (show aTab 365 256 = some (.iconst 2, 1, 0, 0, 0, 0, 0, 0) from rfl) (fr' := (365, 257, clv, [.int 2, .int x, .ref 0, .int a1, .ref 9])) (M' := _) rfl) ?_
    refine mTo_tr (e_st hT hq_law (show aTab 365 257 = some (.iadd, 1, 0, 0, 0, 0, 0, 0) from rfl) (fr' := (365, 258, clv, [.int (x + 2), .ref 0, .int a1, .ref 9])) (M' := _) rfl) ?_
    refine mTo_tr (e_ald0 hT hq_law (show aTab 365 258 = some (.iaload, 1, 0, 0, 0, 0, 0, 0) from rfl) rfl (by omega)) ?_
    rw [← ha2]
    refine mTo_tr (e_call hT hq_law (show aTab 365 259 = some (.invokevirtual 13, 3, 1, 183, 0, 2, 3, 11) from rfl) rfl ⟨by decide, Nat.le_of_ble_eq_true rfl⟩ hfs1 (Nat.le_of_ble_eq_true rfl) (Nat.le_of_ble_eq_true rfl) ⟨by decide, by decide⟩ p1) ?_
    refine mTo_tr (e_st hT hq_law (show aTab 365 262 = some (.pop, 1, 0, 0, 0, 0, 0, 0) from rfl) (fr' := (365, 263, clv, [])) (M' := _) rfl) ?_
    refine mTo_tr (e_al1 hT hq_law (show aTab 365 263 = some (.aload_n 2, 1, 0, 0, 0, 0, 0, 0) from rfl) rfl l2) ?_
    refine mTo_tr (e_al1 hT hq_law (show aTab 365 264 = some (.aload_n 0, 1, 0, 0, 0, 0, 0, 0) from rfl) rfl l0) ?_
    refine mTo_tr (e_il1 hT hq_law (show aTab 365 265 = some (.iload_n 3, 1, 0, 0, 0, 0, 0, 0) from rfl) rfl l3) ?_
    refine mTo_tr (e_st hT hq_law (show aTab 365 266 = some (.iconst 1, 1, 0, 0, 0, 0, 0, 0) from rfl) (fr' := (365, 267, clv, [.int 1, .int x, .ref 0, .ref 128])) (M' := _) rfl) ?_
    refine mTo_tr (e_st hT hq_law (show aTab 365 267 = some (.iadd, 1, 0, 0, 0, 0, 0, 0) from rfl) (fr' := (365, 268, clv, [.int (x + 1), .ref 0, .ref 128])) (M' := _) rfl) ?_
    refine mTo_tr (e_ald0 hT hq_law (show aTab 365 268 = some (.iaload, 1, 0, 0, 0, 0, 0, 0) from rfl) rfl (by omega)) ?_
    rw [← ha1]
    refine mTo_tr (e_al1 hT hq_law (show aTab 365 269 = some (.aload_n 0, 1, 0, 0, 0, 0, 0, 0) from rfl) rfl l0) ?_
    refine mTo_tr (e_il1 hT hq_law (show aTab 365 270 = some (.iload_n 3, 1, 0, 0, 0, 0, 0, 0) from rfl) rfl l3) ?_
    refine mTo_tr (e_st hT hq_law (show aTab 365 271 = some (.iconst 2, 1, 0, 0, 0, 0, 0, 0) from rfl) (fr' := (365, 272, clv, [.int 2, .int x, .ref 0, .int a1, .ref 128])) (M' := _) rfl) ?_
    refine mTo_tr (e_st hT hq_law (show aTab 365 272 = some (.iadd, 1, 0, 0, 0, 0, 0, 0) from rfl) (fr' := (365, 273, clv, [.int (x + 2), .ref 0, .int a1, .ref 128])) (M' := _) rfl) ?_
    refine mTo_tr (e_ald0 hT hq_law (show aTab 365 273 = some (.iaload, 1, 0, 0, 0, 0, 0, 0) from rfl) rfl (by omega)) ?_
    rw [← ha2]
    refine mTo_tr (e_call hT hq_law (show aTab 365 274 = some (.invokevirtual 17, 3, 1, 257, 0, 2, 4, 12) from rfl) rfl ⟨by decide, Nat.le_of_ble_eq_true rfl⟩ hfs2 (Nat.le_of_ble_eq_true rfl) (Nat.le_of_ble_eq_true rfl) ⟨by decide, by decide⟩ p2) ?_
    refine mTo_tr (e_st hT hq_law (show aTab 365 277 = some (.pop, 1, 0, 0, 0, 0, 0, 0) from rfl) (fr' := (365, 278, clv, [])) (M' := _) rfl) ?_
    refine mTo_tr (e_st hT hq_law (show aTab 365 278 = some (.goto 1560, 3, 0, 0, 0, 0, 0, 0) from rfl) (fr' := (365, 1838, clv, [])) (M' := _) rfl) ?_
    exact mTo_rf
  exact hEnd_to go (hTail hT hn ⟨l0, l1, l2, ⟨x, l3, hx⟩, hb, t2, hR2⟩ he)
theorem hC_1 (hT : aTabOk) {n : Nat} {f : Nat → Int32} (hn : n ≤ 384) (h : hBoth 184 260 2 false) : hStep n f 281 := by
  intro e clv M hst he
  obtain ⟨l0, l1, l2, ⟨x, l3, hx⟩, hb, hM, hR⟩ := id hst
  have hx1 : (x + 1).toInt = e + 1 := by rw [i32_add (by rw [hx, show (1 : Int32).toInt = 1 from rfl]; omega) (by rw [hx, show (1 : Int32).toInt = 1 from rfl]; omega), hx, show (1 : Int32).toInt = 1 from rfl]
  obtain ⟨a1, ha1⟩ : ∃ a, a = f (x + 1).toInt.toNat := ⟨_, rfl⟩
  have hx2 : (x + 2).toInt = e + 2 := by rw [i32_add (by rw [hx, show (2 : Int32).toInt = 2 from rfl]; omega) (by rw [hx, show (2 : Int32).toInt = 2 from rfl]; omega), hx, show (2 : Int32).toInt = 2 from rfl]
  obtain ⟨a2, ha2⟩ : ∃ a, a = f (x + 2).toInt.toNat := ⟨_, rfl⟩
  obtain ⟨K1, M1, K2, M2, r1, r2, p1, t1, p2, t2, hR2, heq⟩ := h M hM hR [a1, a2] rfl
  obtain ⟨fs1, hfs1⟩ := ob_at hM (rfl : tTy 0 = some (.inr (11, _)))
  obtain ⟨fs2, hfs2⟩ := ob_at t1 (rfl : tTy 119 = some (.inr (12, _)))
  have go : mTo (some (n, f)) 150 (365, 281, clv, []) M (365, 1838, clv, []) M2 := by
    refine mTo_tr (e_al1 hT hq_law (show aTab 365 281 = some (.aload_n 1, 1, 0, 0, 0, 0, 0, 0) from rfl) rfl l1) ?_
    refine mTo_tr (e_al1 hT hq_law (show aTab 365 282 = some (.aload_n 0, 1, 0, 0, 0, 0, 0, 0) from rfl) rfl l0) ?_
    refine mTo_tr (e_il1 hT hq_law (show aTab 365 283 = some (.iload_n 3, 1, 0, 0, 0, 0, 0, 0) from rfl) rfl l3) ?_
    refine mTo_tr (e_st hT hq_law (show aTab 365 284 = some (.iconst 1, 1, 0, 0, 0, 0, 0, 0) from rfl) (fr' := (365, 285, clv, [.int 1, .int x, .ref 0, .ref 9])) (M' := _) rfl) ?_
    refine mTo_tr (e_st hT hq_law (show aTab 365 285 = some (.iadd, 1, 0, 0, 0, 0, 0, 0) from rfl) (fr' := (365, 286, clv, [.int (x + 1), .ref 0, .ref 9])) (M' := _) rfl) ?_
    refine mTo_tr (e_ald0 hT hq_law (show aTab 365 286 = some (.iaload, 1, 0, 0, 0, 0, 0, 0) from rfl) rfl (by omega)) ?_
    rw [← ha1]
    refine mTo_tr (e_al1 hT hq_law (show aTab 365 287 = some (.aload_n 0, 1, 0, 0, 0, 0, 0, 0) from rfl) rfl l0) ?_
    refine mTo_tr (e_il1 hT hq_law (show aTab 365 288 = some (.iload_n 3, 1, 0, 0, 0, 0, 0, 0) from rfl) rfl l3) ?_
    refine mTo_tr (e_st hT hq_law (show aTab 365 289 = some (.iconst 2, 1, 0, 0, 0, 0, 0, 0) from rfl) (fr' := (365, 290, clv, [.int 2, .int x, .ref 0, .int a1, .ref 9])) (M' := _) rfl) ?_
    refine mTo_tr (e_st hT hq_law (show aTab 365 290 = some (.iadd, 1, 0, 0, 0, 0, 0, 0) from rfl) (fr' := (365, 291, clv, [.int (x + 2), .ref 0, .int a1, .ref 9])) (M' := _) rfl) ?_
    refine mTo_tr (e_ald0 hT hq_law (show aTab 365 291 = some (.iaload, 1, 0, 0, 0, 0, 0, 0) from rfl) rfl (by omega)) ?_
    rw [← ha2]
    refine mTo_tr (e_call hT hq_law (show aTab 365 292 = some (.invokevirtual 18, 3, 1, 184, 0, 2, 3, 11) from rfl) rfl ⟨by decide, Nat.le_of_ble_eq_true rfl⟩ hfs1 (Nat.le_of_ble_eq_true rfl) (Nat.le_of_ble_eq_true rfl) ⟨by decide, by decide⟩ p1) ?_
    refine mTo_tr (e_st hT hq_law (show aTab 365 295 = some (.pop, 1, 0, 0, 0, 0, 0, 0) from rfl) (fr' := (365, 296, clv, [])) (M' := _) rfl) ?_
    refine mTo_tr (e_al1 hT hq_law (show aTab 365 296 = some (.aload_n 2, 1, 0, 0, 0, 0, 0, 0) from rfl) rfl l2) ?_
    refine mTo_tr (e_al1 hT hq_law (show aTab 365 297 = some (.aload_n 0, 1, 0, 0, 0, 0, 0, 0) from rfl) rfl l0) ?_
    refine mTo_tr (e_il1 hT hq_law (show aTab 365 298 = some (.iload_n 3, 1, 0, 0, 0, 0, 0, 0) from rfl) rfl l3) ?_
    refine mTo_tr (e_st hT hq_law (show aTab 365 299 = some (.iconst 1, 1, 0, 0, 0, 0, 0, 0) from rfl) (fr' := (365, 300, clv, [.int 1, .int x, .ref 0, .ref 128])) (M' := _) rfl) ?_
    refine mTo_tr (e_st hT hq_law (show aTab 365 300 = some (.iadd, 1, 0, 0, 0, 0, 0, 0) from rfl) (fr' := (365, 301, clv, [.int (x + 1), .ref 0, .ref 128])) (M' := _) rfl) ?_
    refine mTo_tr (e_ald0 hT hq_law (show aTab 365 301 = some (.iaload, 1, 0, 0, 0, 0, 0, 0) from rfl) rfl (by omega)) ?_
    rw [← ha1]
    refine mTo_tr (e_al1 hT hq_law (show aTab 365 302 = some (.aload_n 0, 1, 0, 0, 0, 0, 0, 0) from rfl) rfl l0) ?_
    refine mTo_tr (e_il1 hT hq_law (show aTab 365 303 = some (.iload_n 3, 1, 0, 0, 0, 0, 0, 0) from rfl) rfl l3) ?_
    refine mTo_tr (e_st hT hq_law (show aTab 365 304 = some (.iconst 2, 1, 0, 0, 0, 0, 0, 0) from rfl) (fr' := (365, 305, clv, [.int 2, .int x, .ref 0, .int a1, .ref 128])) (M' := _) rfl) ?_
    refine mTo_tr (e_st hT hq_law (show aTab 365 305 = some (.iadd, 1, 0, 0, 0, 0, 0, 0) from rfl) (fr' := (365, 306, clv, [.int (x + 2), .ref 0, .int a1, .ref 128])) (M' := _) rfl) ?_
    refine mTo_tr (e_ald0 hT hq_law (show aTab 365 306 = some (.iaload, 1, 0, 0, 0, 0, 0, 0) from rfl) rfl (by omega)) ?_
    rw [← ha2]
    refine mTo_tr (e_call hT hq_law (show aTab 365 307 = some (.invokevirtual 21, 3, 1, 260, 0, 2, 4, 12) from rfl) rfl ⟨by decide, Nat.le_of_ble_eq_true rfl⟩ hfs2 (Nat.le_of_ble_eq_true rfl) (Nat.le_of_ble_eq_true rfl) ⟨by decide, by decide⟩ p2) ?_
    refine mTo_tr (e_st hT hq_law (show aTab 365 310 = some (.pop, 1, 0, 0, 0, 0, 0, 0) from rfl) (fr' := (365, 311, clv, [])) (M' := _) rfl) ?_
    refine mTo_tr (e_st hT hq_law (show aTab 365 311 = some (.goto 1527, 3, 0, 0, 0, 0, 0, 0) from rfl) (fr' := (365, 1838, clv, [])) (M' := _) rfl) ?_
    exact mTo_rf
  exact hEnd_to go (hTail hT hn ⟨l0, l1, l2, ⟨x, l3, hx⟩, hb, t2, hR2⟩ he)
theorem hC_2 (hT : aTabOk) {n : Nat} {f : Nat → Int32} (hn : n ≤ 384) (h : hBoth 185 261 2 false) : hStep n f 314 := by
  intro e clv M hst he
  obtain ⟨l0, l1, l2, ⟨x, l3, hx⟩, hb, hM, hR⟩ := id hst
  have hx1 : (x + 1).toInt = e + 1 := by rw [i32_add (by rw [hx, show (1 : Int32).toInt = 1 from rfl]; omega) (by rw [hx, show (1 : Int32).toInt = 1 from rfl]; omega), hx, show (1 : Int32).toInt = 1 from rfl]
  obtain ⟨a1, ha1⟩ : ∃ a, a = f (x + 1).toInt.toNat := ⟨_, rfl⟩
  have hx2 : (x + 2).toInt = e + 2 := by rw [i32_add (by rw [hx, show (2 : Int32).toInt = 2 from rfl]; omega) (by rw [hx, show (2 : Int32).toInt = 2 from rfl]; omega), hx, show (2 : Int32).toInt = 2 from rfl]
  obtain ⟨a2, ha2⟩ : ∃ a, a = f (x + 2).toInt.toNat := ⟨_, rfl⟩
  obtain ⟨K1, M1, K2, M2, r1, r2, p1, t1, p2, t2, hR2, heq⟩ := h M hM hR [a1, a2] rfl
  obtain ⟨fs1, hfs1⟩ := ob_at hM (rfl : tTy 0 = some (.inr (11, _)))
  obtain ⟨fs2, hfs2⟩ := ob_at t1 (rfl : tTy 119 = some (.inr (12, _)))
  have go : mTo (some (n, f)) 150 (365, 314, clv, []) M (365, 1838, clv, []) M2 := by
    refine mTo_tr (e_al1 hT hq_law (show aTab 365 314 = some (.aload_n 1, 1, 0, 0, 0, 0, 0, 0) from rfl) rfl l1) ?_
    refine mTo_tr (e_al1 hT hq_law (show aTab 365 315 = some (.aload_n 0, 1, 0, 0, 0, 0, 0, 0) from rfl) rfl l0) ?_
    refine mTo_tr (e_il1 hT hq_law (show aTab 365 316 = some (.iload_n 3, 1, 0, 0, 0, 0, 0, 0) from rfl) rfl l3) ?_
    refine mTo_tr (e_st hT hq_law (show aTab 365 317 = some (.iconst 1, 1, 0, 0, 0, 0, 0, 0) from rfl) (fr' := (365, 318, clv, [.int 1, .int x, .ref 0, .ref 9])) (M' := _) rfl) ?_
    refine mTo_tr (e_st hT hq_law (show aTab 365 318 = some (.iadd, 1, 0, 0, 0, 0, 0, 0) from rfl) (fr' := (365, 319, clv, [.int (x + 1), .ref 0, .ref 9])) (M' := _) rfl) ?_
    refine mTo_tr (e_ald0 hT hq_law (show aTab 365 319 = some (.iaload, 1, 0, 0, 0, 0, 0, 0) from rfl) rfl (by omega)) ?_
    rw [← ha1]
    refine mTo_tr (e_al1 hT hq_law (show aTab 365 320 = some (.aload_n 0, 1, 0, 0, 0, 0, 0, 0) from rfl) rfl l0) ?_
    refine mTo_tr (e_il1 hT hq_law (show aTab 365 321 = some (.iload_n 3, 1, 0, 0, 0, 0, 0, 0) from rfl) rfl l3) ?_
    refine mTo_tr (e_st hT hq_law (show aTab 365 322 = some (.iconst 2, 1, 0, 0, 0, 0, 0, 0) from rfl) (fr' := (365, 323, clv, [.int 2, .int x, .ref 0, .int a1, .ref 9])) (M' := _) rfl) ?_
    refine mTo_tr (e_st hT hq_law (show aTab 365 323 = some (.iadd, 1, 0, 0, 0, 0, 0, 0) from rfl) (fr' := (365, 324, clv, [.int (x + 2), .ref 0, .int a1, .ref 9])) (M' := _) rfl) ?_
    refine mTo_tr (e_ald0 hT hq_law (show aTab 365 324 = some (.iaload, 1, 0, 0, 0, 0, 0, 0) from rfl) rfl (by omega)) ?_
    rw [← ha2]
    refine mTo_tr (e_call hT hq_law (show aTab 365 325 = some (.invokevirtual 22, 3, 1, 185, 0, 2, 3, 11) from rfl) rfl ⟨by decide, Nat.le_of_ble_eq_true rfl⟩ hfs1 (Nat.le_of_ble_eq_true rfl) (Nat.le_of_ble_eq_true rfl) ⟨by decide, by decide⟩ p1) ?_
    refine mTo_tr (e_st hT hq_law (show aTab 365 328 = some (.pop, 1, 0, 0, 0, 0, 0, 0) from rfl) (fr' := (365, 329, clv, [])) (M' := _) rfl) ?_
    refine mTo_tr (e_al1 hT hq_law (show aTab 365 329 = some (.aload_n 2, 1, 0, 0, 0, 0, 0, 0) from rfl) rfl l2) ?_
    refine mTo_tr (e_al1 hT hq_law (show aTab 365 330 = some (.aload_n 0, 1, 0, 0, 0, 0, 0, 0) from rfl) rfl l0) ?_
    refine mTo_tr (e_il1 hT hq_law (show aTab 365 331 = some (.iload_n 3, 1, 0, 0, 0, 0, 0, 0) from rfl) rfl l3) ?_
    refine mTo_tr (e_st hT hq_law (show aTab 365 332 = some (.iconst 1, 1, 0, 0, 0, 0, 0, 0) from rfl) (fr' := (365, 333, clv, [.int 1, .int x, .ref 0, .ref 128])) (M' := _) rfl) ?_
    refine mTo_tr (e_st hT hq_law (show aTab 365 333 = some (.iadd, 1, 0, 0, 0, 0, 0, 0) from rfl) (fr' := (365, 334, clv, [.int (x + 1), .ref 0, .ref 128])) (M' := _) rfl) ?_
    refine mTo_tr (e_ald0 hT hq_law (show aTab 365 334 = some (.iaload, 1, 0, 0, 0, 0, 0, 0) from rfl) rfl (by omega)) ?_
    rw [← ha1]
    refine mTo_tr (e_al1 hT hq_law (show aTab 365 335 = some (.aload_n 0, 1, 0, 0, 0, 0, 0, 0) from rfl) rfl l0) ?_
    refine mTo_tr (e_il1 hT hq_law (show aTab 365 336 = some (.iload_n 3, 1, 0, 0, 0, 0, 0, 0) from rfl) rfl l3) ?_
    refine mTo_tr (e_st hT hq_law (show aTab 365 337 = some (.iconst 2, 1, 0, 0, 0, 0, 0, 0) from rfl) (fr' := (365, 338, clv, [.int 2, .int x, .ref 0, .int a1, .ref 128])) (M' := _) rfl) ?_
    refine mTo_tr (e_st hT hq_law (show aTab 365 338 = some (.iadd, 1, 0, 0, 0, 0, 0, 0) from rfl) (fr' := (365, 339, clv, [.int (x + 2), .ref 0, .int a1, .ref 128])) (M' := _) rfl) ?_
    refine mTo_tr (e_ald0 hT hq_law (show aTab 365 339 = some (.iaload, 1, 0, 0, 0, 0, 0, 0) from rfl) rfl (by omega)) ?_
    rw [← ha2]
    refine mTo_tr (e_call hT hq_law (show aTab 365 340 = some (.invokevirtual 25, 3, 1, 261, 0, 2, 3, 12) from rfl) rfl ⟨by decide, Nat.le_of_ble_eq_true rfl⟩ hfs2 (Nat.le_of_ble_eq_true rfl) (Nat.le_of_ble_eq_true rfl) ⟨by decide, by decide⟩ p2) ?_
    refine mTo_tr (e_st hT hq_law (show aTab 365 343 = some (.pop, 1, 0, 0, 0, 0, 0, 0) from rfl) (fr' := (365, 344, clv, [])) (M' := _) rfl) ?_
    refine mTo_tr (e_st hT hq_law (show aTab 365 344 = some (.goto 1494, 3, 0, 0, 0, 0, 0, 0) from rfl) (fr' := (365, 1838, clv, [])) (M' := _) rfl) ?_
    exact mTo_rf
  exact hEnd_to go (hTail hT hn ⟨l0, l1, l2, ⟨x, l3, hx⟩, hb, t2, hR2⟩ he)
theorem hC_3 (hT : aTabOk) {n : Nat} {f : Nat → Int32} (hn : n ≤ 384) (h : hBoth 186 262 2 false) : hStep n f 347 := by
  intro e clv M hst he
  obtain ⟨l0, l1, l2, ⟨x, l3, hx⟩, hb, hM, hR⟩ := id hst
  have hx1 : (x + 1).toInt = e + 1 := by rw [i32_add (by rw [hx, show (1 : Int32).toInt = 1 from rfl]; omega) (by rw [hx, show (1 : Int32).toInt = 1 from rfl]; omega), hx, show (1 : Int32).toInt = 1 from rfl]
  obtain ⟨a1, ha1⟩ : ∃ a, a = f (x + 1).toInt.toNat := ⟨_, rfl⟩
  have hx2 : (x + 2).toInt = e + 2 := by rw [i32_add (by rw [hx, show (2 : Int32).toInt = 2 from rfl]; omega) (by rw [hx, show (2 : Int32).toInt = 2 from rfl]; omega), hx, show (2 : Int32).toInt = 2 from rfl]
  obtain ⟨a2, ha2⟩ : ∃ a, a = f (x + 2).toInt.toNat := ⟨_, rfl⟩
  obtain ⟨K1, M1, K2, M2, r1, r2, p1, t1, p2, t2, hR2, heq⟩ := h M hM hR [a1, a2] rfl
  obtain ⟨fs1, hfs1⟩ := ob_at hM (rfl : tTy 0 = some (.inr (11, _)))
  obtain ⟨fs2, hfs2⟩ := ob_at t1 (rfl : tTy 119 = some (.inr (12, _)))
  have go : mTo (some (n, f)) 150 (365, 347, clv, []) M (365, 1838, clv, []) M2 := by
    refine mTo_tr (e_al1 hT hq_law (show aTab 365 347 = some (.aload_n 1, 1, 0, 0, 0, 0, 0, 0) from rfl) rfl l1) ?_
    refine mTo_tr (e_al1 hT hq_law (show aTab 365 348 = some (.aload_n 0, 1, 0, 0, 0, 0, 0, 0) from rfl) rfl l0) ?_
    refine mTo_tr (e_il1 hT hq_law (show aTab 365 349 = some (.iload_n 3, 1, 0, 0, 0, 0, 0, 0) from rfl) rfl l3) ?_
    refine mTo_tr (e_st hT hq_law (show aTab 365 350 = some (.iconst 1, 1, 0, 0, 0, 0, 0, 0) from rfl) (fr' := (365, 351, clv, [.int 1, .int x, .ref 0, .ref 9])) (M' := _) rfl) ?_
    refine mTo_tr (e_st hT hq_law (show aTab 365 351 = some (.iadd, 1, 0, 0, 0, 0, 0, 0) from rfl) (fr' := (365, 352, clv, [.int (x + 1), .ref 0, .ref 9])) (M' := _) rfl) ?_
    refine mTo_tr (e_ald0 hT hq_law (show aTab 365 352 = some (.iaload, 1, 0, 0, 0, 0, 0, 0) from rfl) rfl (by omega)) ?_
    rw [← ha1]
    refine mTo_tr (e_al1 hT hq_law (show aTab 365 353 = some (.aload_n 0, 1, 0, 0, 0, 0, 0, 0) from rfl) rfl l0) ?_
    refine mTo_tr (e_il1 hT hq_law (show aTab 365 354 = some (.iload_n 3, 1, 0, 0, 0, 0, 0, 0) from rfl) rfl l3) ?_
    refine mTo_tr (e_st hT hq_law (show aTab 365 355 = some (.iconst 2, 1, 0, 0, 0, 0, 0, 0) from rfl) (fr' := (365, 356, clv, [.int 2, .int x, .ref 0, .int a1, .ref 9])) (M' := _) rfl) ?_
    refine mTo_tr (e_st hT hq_law (show aTab 365 356 = some (.iadd, 1, 0, 0, 0, 0, 0, 0) from rfl) (fr' := (365, 357, clv, [.int (x + 2), .ref 0, .int a1, .ref 9])) (M' := _) rfl) ?_
    refine mTo_tr (e_ald0 hT hq_law (show aTab 365 357 = some (.iaload, 1, 0, 0, 0, 0, 0, 0) from rfl) rfl (by omega)) ?_
    rw [← ha2]
    refine mTo_tr (e_call hT hq_law (show aTab 365 358 = some (.invokevirtual 26, 3, 1, 186, 0, 2, 3, 11) from rfl) rfl ⟨by decide, Nat.le_of_ble_eq_true rfl⟩ hfs1 (Nat.le_of_ble_eq_true rfl) (Nat.le_of_ble_eq_true rfl) ⟨by decide, by decide⟩ p1) ?_
    refine mTo_tr (e_st hT hq_law (show aTab 365 361 = some (.pop, 1, 0, 0, 0, 0, 0, 0) from rfl) (fr' := (365, 362, clv, [])) (M' := _) rfl) ?_
    refine mTo_tr (e_al1 hT hq_law (show aTab 365 362 = some (.aload_n 2, 1, 0, 0, 0, 0, 0, 0) from rfl) rfl l2) ?_
    refine mTo_tr (e_al1 hT hq_law (show aTab 365 363 = some (.aload_n 0, 1, 0, 0, 0, 0, 0, 0) from rfl) rfl l0) ?_
    refine mTo_tr (e_il1 hT hq_law (show aTab 365 364 = some (.iload_n 3, 1, 0, 0, 0, 0, 0, 0) from rfl) rfl l3) ?_
    refine mTo_tr (e_st hT hq_law (show aTab 365 365 = some (.iconst 1, 1, 0, 0, 0, 0, 0, 0) from rfl) (fr' := (365, 366, clv, [.int 1, .int x, .ref 0, .ref 128])) (M' := _) rfl) ?_
    refine mTo_tr (e_st hT hq_law (show aTab 365 366 = some (.iadd, 1, 0, 0, 0, 0, 0, 0) from rfl) (fr' := (365, 367, clv, [.int (x + 1), .ref 0, .ref 128])) (M' := _) rfl) ?_
    refine mTo_tr (e_ald0 hT hq_law (show aTab 365 367 = some (.iaload, 1, 0, 0, 0, 0, 0, 0) from rfl) rfl (by omega)) ?_
    rw [← ha1]
    refine mTo_tr (e_al1 hT hq_law (show aTab 365 368 = some (.aload_n 0, 1, 0, 0, 0, 0, 0, 0) from rfl) rfl l0) ?_
    refine mTo_tr (e_il1 hT hq_law (show aTab 365 369 = some (.iload_n 3, 1, 0, 0, 0, 0, 0, 0) from rfl) rfl l3) ?_
    refine mTo_tr (e_st hT hq_law (show aTab 365 370 = some (.iconst 2, 1, 0, 0, 0, 0, 0, 0) from rfl) (fr' := (365, 371, clv, [.int 2, .int x, .ref 0, .int a1, .ref 128])) (M' := _) rfl) ?_
    refine mTo_tr (e_st hT hq_law (show aTab 365 371 = some (.iadd, 1, 0, 0, 0, 0, 0, 0) from rfl) (fr' := (365, 372, clv, [.int (x + 2), .ref 0, .int a1, .ref 128])) (M' := _) rfl) ?_
    refine mTo_tr (e_ald0 hT hq_law (show aTab 365 372 = some (.iaload, 1, 0, 0, 0, 0, 0, 0) from rfl) rfl (by omega)) ?_
    rw [← ha2]
    refine mTo_tr (e_call hT hq_law (show aTab 365 373 = some (.invokevirtual 29, 3, 1, 262, 0, 2, 3, 12) from rfl) rfl ⟨by decide, Nat.le_of_ble_eq_true rfl⟩ hfs2 (Nat.le_of_ble_eq_true rfl) (Nat.le_of_ble_eq_true rfl) ⟨by decide, by decide⟩ p2) ?_
    refine mTo_tr (e_st hT hq_law (show aTab 365 376 = some (.pop, 1, 0, 0, 0, 0, 0, 0) from rfl) (fr' := (365, 377, clv, [])) (M' := _) rfl) ?_
    refine mTo_tr (e_st hT hq_law (show aTab 365 377 = some (.goto 1461, 3, 0, 0, 0, 0, 0, 0) from rfl) (fr' := (365, 1838, clv, [])) (M' := _) rfl) ?_
    exact mTo_rf
  exact hEnd_to go (hTail hT hn ⟨l0, l1, l2, ⟨x, l3, hx⟩, hb, t2, hR2⟩ he)
theorem hC_4 (hT : aTabOk) {n : Nat} {f : Nat → Int32} (hn : n ≤ 384) (h : hBoth 187 263 3 false) : hStep n f 380 := by
  intro e clv M hst he
  obtain ⟨l0, l1, l2, ⟨x, l3, hx⟩, hb, hM, hR⟩ := id hst
  have hx1 : (x + 1).toInt = e + 1 := by rw [i32_add (by rw [hx, show (1 : Int32).toInt = 1 from rfl]; omega) (by rw [hx, show (1 : Int32).toInt = 1 from rfl]; omega), hx, show (1 : Int32).toInt = 1 from rfl]
  obtain ⟨a1, ha1⟩ : ∃ a, a = f (x + 1).toInt.toNat := ⟨_, rfl⟩
  have hx2 : (x + 2).toInt = e + 2 := by rw [i32_add (by rw [hx, show (2 : Int32).toInt = 2 from rfl]; omega) (by rw [hx, show (2 : Int32).toInt = 2 from rfl]; omega), hx, show (2 : Int32).toInt = 2 from rfl]
  obtain ⟨a2, ha2⟩ : ∃ a, a = f (x + 2).toInt.toNat := ⟨_, rfl⟩
  have hx3 : (x + 3).toInt = e + 3 := by rw [i32_add (by rw [hx, show (3 : Int32).toInt = 3 from rfl]; omega) (by rw [hx, show (3 : Int32).toInt = 3 from rfl]; omega), hx, show (3 : Int32).toInt = 3 from rfl]
  obtain ⟨a3, ha3⟩ : ∃ a, a = f (x + 3).toInt.toNat := ⟨_, rfl⟩
  obtain ⟨K1, M1, K2, M2, r1, r2, p1, t1, p2, t2, hR2, heq⟩ := h M hM hR [a1, a2, a3] rfl
  obtain ⟨fs1, hfs1⟩ := ob_at hM (rfl : tTy 0 = some (.inr (11, _)))
  obtain ⟨fs2, hfs2⟩ := ob_at t1 (rfl : tTy 119 = some (.inr (12, _)))
  have go : mTo (some (n, f)) 150 (365, 380, clv, []) M (365, 1838, clv, []) M2 := by
    refine mTo_tr (e_al1 hT hq_law (show aTab 365 380 = some (.aload_n 1, 1, 0, 0, 0, 0, 0, 0) from rfl) rfl l1) ?_
    refine mTo_tr (e_al1 hT hq_law (show aTab 365 381 = some (.aload_n 0, 1, 0, 0, 0, 0, 0, 0) from rfl) rfl l0) ?_
    refine mTo_tr (e_il1 hT hq_law (show aTab 365 382 = some (.iload_n 3, 1, 0, 0, 0, 0, 0, 0) from rfl) rfl l3) ?_
    refine mTo_tr (e_st hT hq_law (show aTab 365 383 = some (.iconst 1, 1, 0, 0, 0, 0, 0, 0) from rfl) (fr' := (365, 384, clv, [.int 1, .int x, .ref 0, .ref 9])) (M' := _) rfl) ?_
    refine mTo_tr (e_st hT hq_law (show aTab 365 384 = some (.iadd, 1, 0, 0, 0, 0, 0, 0) from rfl) (fr' := (365, 385, clv, [.int (x + 1), .ref 0, .ref 9])) (M' := _) rfl) ?_
    refine mTo_tr (e_ald0 hT hq_law (show aTab 365 385 = some (.iaload, 1, 0, 0, 0, 0, 0, 0) from rfl) rfl (by omega)) ?_
    rw [← ha1]
    refine mTo_tr (e_al1 hT hq_law (show aTab 365 386 = some (.aload_n 0, 1, 0, 0, 0, 0, 0, 0) from rfl) rfl l0) ?_
    refine mTo_tr (e_il1 hT hq_law (show aTab 365 387 = some (.iload_n 3, 1, 0, 0, 0, 0, 0, 0) from rfl) rfl l3) ?_
    refine mTo_tr (e_st hT hq_law (show aTab 365 388 = some (.iconst 2, 1, 0, 0, 0, 0, 0, 0) from rfl) (fr' := (365, 389, clv, [.int 2, .int x, .ref 0, .int a1, .ref 9])) (M' := _) rfl) ?_
    refine mTo_tr (e_st hT hq_law (show aTab 365 389 = some (.iadd, 1, 0, 0, 0, 0, 0, 0) from rfl) (fr' := (365, 390, clv, [.int (x + 2), .ref 0, .int a1, .ref 9])) (M' := _) rfl) ?_
    refine mTo_tr (e_ald0 hT hq_law (show aTab 365 390 = some (.iaload, 1, 0, 0, 0, 0, 0, 0) from rfl) rfl (by omega)) ?_
    rw [← ha2]
    refine mTo_tr (e_al1 hT hq_law (show aTab 365 391 = some (.aload_n 0, 1, 0, 0, 0, 0, 0, 0) from rfl) rfl l0) ?_
    refine mTo_tr (e_il1 hT hq_law (show aTab 365 392 = some (.iload_n 3, 1, 0, 0, 0, 0, 0, 0) from rfl) rfl l3) ?_
    refine mTo_tr (e_st hT hq_law (show aTab 365 393 = some (.iconst 3, 1, 0, 0, 0, 0, 0, 0) from rfl) (fr' := (365, 394, clv, [.int 3, .int x, .ref 0, .int a2, .int a1, .ref 9])) (M' := _) rfl) ?_
    refine mTo_tr (e_st hT hq_law (show aTab 365 394 = some (.iadd, 1, 0, 0, 0, 0, 0, 0) from rfl) (fr' := (365, 395, clv, [.int (x + 3), .ref 0, .int a2, .int a1, .ref 9])) (M' := _) rfl) ?_
    refine mTo_tr (e_ald0 hT hq_law (show aTab 365 395 = some (.iaload, 1, 0, 0, 0, 0, 0, 0) from rfl) rfl (by omega)) ?_
    rw [← ha3]
    refine mTo_tr (e_call hT hq_law (show aTab 365 396 = some (.invokevirtual 30, 3, 1, 187, 0, 3, 4, 11) from rfl) rfl ⟨by decide, Nat.le_of_ble_eq_true rfl⟩ hfs1 (Nat.le_of_ble_eq_true rfl) (Nat.le_of_ble_eq_true rfl) ⟨by decide, by decide⟩ p1) ?_
    refine mTo_tr (e_st hT hq_law (show aTab 365 399 = some (.pop, 1, 0, 0, 0, 0, 0, 0) from rfl) (fr' := (365, 400, clv, [])) (M' := _) rfl) ?_
    refine mTo_tr (e_al1 hT hq_law (show aTab 365 400 = some (.aload_n 2, 1, 0, 0, 0, 0, 0, 0) from rfl) rfl l2) ?_
    refine mTo_tr (e_al1 hT hq_law (show aTab 365 401 = some (.aload_n 0, 1, 0, 0, 0, 0, 0, 0) from rfl) rfl l0) ?_
    refine mTo_tr (e_il1 hT hq_law (show aTab 365 402 = some (.iload_n 3, 1, 0, 0, 0, 0, 0, 0) from rfl) rfl l3) ?_
    refine mTo_tr (e_st hT hq_law (show aTab 365 403 = some (.iconst 1, 1, 0, 0, 0, 0, 0, 0) from rfl) (fr' := (365, 404, clv, [.int 1, .int x, .ref 0, .ref 128])) (M' := _) rfl) ?_
    refine mTo_tr (e_st hT hq_law (show aTab 365 404 = some (.iadd, 1, 0, 0, 0, 0, 0, 0) from rfl) (fr' := (365, 405, clv, [.int (x + 1), .ref 0, .ref 128])) (M' := _) rfl) ?_
    refine mTo_tr (e_ald0 hT hq_law (show aTab 365 405 = some (.iaload, 1, 0, 0, 0, 0, 0, 0) from rfl) rfl (by omega)) ?_
    rw [← ha1]
    refine mTo_tr (e_al1 hT hq_law (show aTab 365 406 = some (.aload_n 0, 1, 0, 0, 0, 0, 0, 0) from rfl) rfl l0) ?_
    refine mTo_tr (e_il1 hT hq_law (show aTab 365 407 = some (.iload_n 3, 1, 0, 0, 0, 0, 0, 0) from rfl) rfl l3) ?_
    refine mTo_tr (e_st hT hq_law (show aTab 365 408 = some (.iconst 2, 1, 0, 0, 0, 0, 0, 0) from rfl) (fr' := (365, 409, clv, [.int 2, .int x, .ref 0, .int a1, .ref 128])) (M' := _) rfl) ?_
    refine mTo_tr (e_st hT hq_law (show aTab 365 409 = some (.iadd, 1, 0, 0, 0, 0, 0, 0) from rfl) (fr' := (365, 410, clv, [.int (x + 2), .ref 0, .int a1, .ref 128])) (M' := _) rfl) ?_
    refine mTo_tr (e_ald0 hT hq_law (show aTab 365 410 = some (.iaload, 1, 0, 0, 0, 0, 0, 0) from rfl) rfl (by omega)) ?_
    rw [← ha2]
    refine mTo_tr (e_al1 hT hq_law (show aTab 365 411 = some (.aload_n 0, 1, 0, 0, 0, 0, 0, 0) from rfl) rfl l0) ?_
    refine mTo_tr (e_il1 hT hq_law (show aTab 365 412 = some (.iload_n 3, 1, 0, 0, 0, 0, 0, 0) from rfl) rfl l3) ?_
    refine mTo_tr (e_st hT hq_law (show aTab 365 413 = some (.iconst 3, 1, 0, 0, 0, 0, 0, 0) from rfl) (fr' := (365, 414, clv, [.int 3, .int x, .ref 0, .int a2, .int a1, .ref 128])) (M' := _) rfl) ?_
    refine mTo_tr (e_st hT hq_law (show aTab 365 414 = some (.iadd, 1, 0, 0, 0, 0, 0, 0) from rfl) (fr' := (365, 415, clv, [.int (x + 3), .ref 0, .int a2, .int a1, .ref 128])) (M' := _) rfl) ?_
    refine mTo_tr (e_ald0 hT hq_law (show aTab 365 415 = some (.iaload, 1, 0, 0, 0, 0, 0, 0) from rfl) rfl (by omega)) ?_
    rw [← ha3]
    refine mTo_tr (e_call hT hq_law (show aTab 365 416 = some (.invokevirtual 34, 3, 1, 263, 0, 3, 5, 12) from rfl) rfl ⟨by decide, Nat.le_of_ble_eq_true rfl⟩ hfs2 (Nat.le_of_ble_eq_true rfl) (Nat.le_of_ble_eq_true rfl) ⟨by decide, by decide⟩ p2) ?_
    refine mTo_tr (e_st hT hq_law (show aTab 365 419 = some (.pop, 1, 0, 0, 0, 0, 0, 0) from rfl) (fr' := (365, 420, clv, [])) (M' := _) rfl) ?_
    refine mTo_tr (e_st hT hq_law (show aTab 365 420 = some (.goto 1418, 3, 0, 0, 0, 0, 0, 0) from rfl) (fr' := (365, 1838, clv, [])) (M' := _) rfl) ?_
    exact mTo_rf
  exact hEnd_to go (hTail hT hn ⟨l0, l1, l2, ⟨x, l3, hx⟩, hb, t2, hR2⟩ he)
theorem hC_5 (hT : aTabOk) {n : Nat} {f : Nat → Int32} (hn : n ≤ 384) (h : hBoth 188 264 1 false) : hStep n f 423 := by
  intro e clv M hst he
  obtain ⟨l0, l1, l2, ⟨x, l3, hx⟩, hb, hM, hR⟩ := id hst
  have hx1 : (x + 1).toInt = e + 1 := by rw [i32_add (by rw [hx, show (1 : Int32).toInt = 1 from rfl]; omega) (by rw [hx, show (1 : Int32).toInt = 1 from rfl]; omega), hx, show (1 : Int32).toInt = 1 from rfl]
  obtain ⟨a1, ha1⟩ : ∃ a, a = f (x + 1).toInt.toNat := ⟨_, rfl⟩
  obtain ⟨K1, M1, K2, M2, r1, r2, p1, t1, p2, t2, hR2, heq⟩ := h M hM hR [a1] rfl
  obtain ⟨fs1, hfs1⟩ := ob_at hM (rfl : tTy 0 = some (.inr (11, _)))
  obtain ⟨fs2, hfs2⟩ := ob_at t1 (rfl : tTy 119 = some (.inr (12, _)))
  have go : mTo (some (n, f)) 150 (365, 423, clv, []) M (365, 1838, clv, []) M2 := by
    refine mTo_tr (e_al1 hT hq_law (show aTab 365 423 = some (.aload_n 1, 1, 0, 0, 0, 0, 0, 0) from rfl) rfl l1) ?_
    refine mTo_tr (e_al1 hT hq_law (show aTab 365 424 = some (.aload_n 0, 1, 0, 0, 0, 0, 0, 0) from rfl) rfl l0) ?_
    refine mTo_tr (e_il1 hT hq_law (show aTab 365 425 = some (.iload_n 3, 1, 0, 0, 0, 0, 0, 0) from rfl) rfl l3) ?_
    refine mTo_tr (e_st hT hq_law (show aTab 365 426 = some (.iconst 1, 1, 0, 0, 0, 0, 0, 0) from rfl) (fr' := (365, 427, clv, [.int 1, .int x, .ref 0, .ref 9])) (M' := _) rfl) ?_
    refine mTo_tr (e_st hT hq_law (show aTab 365 427 = some (.iadd, 1, 0, 0, 0, 0, 0, 0) from rfl) (fr' := (365, 428, clv, [.int (x + 1), .ref 0, .ref 9])) (M' := _) rfl) ?_
    refine mTo_tr (e_ald0 hT hq_law (show aTab 365 428 = some (.iaload, 1, 0, 0, 0, 0, 0, 0) from rfl) rfl (by omega)) ?_
    rw [← ha1]
    refine mTo_tr (e_call hT hq_law (show aTab 365 429 = some (.invokevirtual 35, 3, 1, 188, 0, 1, 2, 11) from rfl) rfl ⟨by decide, Nat.le_of_ble_eq_true rfl⟩ hfs1 (Nat.le_of_ble_eq_true rfl) (Nat.le_of_ble_eq_true rfl) ⟨by decide, by decide⟩ p1) ?_
    refine mTo_tr (e_st hT hq_law (show aTab 365 432 = some (.pop, 1, 0, 0, 0, 0, 0, 0) from rfl) (fr' := (365, 433, clv, [])) (M' := _) rfl) ?_
    refine mTo_tr (e_al1 hT hq_law (show aTab 365 433 = some (.aload_n 2, 1, 0, 0, 0, 0, 0, 0) from rfl) rfl l2) ?_
    refine mTo_tr (e_al1 hT hq_law (show aTab 365 434 = some (.aload_n 0, 1, 0, 0, 0, 0, 0, 0) from rfl) rfl l0) ?_
    refine mTo_tr (e_il1 hT hq_law (show aTab 365 435 = some (.iload_n 3, 1, 0, 0, 0, 0, 0, 0) from rfl) rfl l3) ?_
    refine mTo_tr (e_st hT hq_law (show aTab 365 436 = some (.iconst 1, 1, 0, 0, 0, 0, 0, 0) from rfl) (fr' := (365, 437, clv, [.int 1, .int x, .ref 0, .ref 128])) (M' := _) rfl) ?_
    refine mTo_tr (e_st hT hq_law (show aTab 365 437 = some (.iadd, 1, 0, 0, 0, 0, 0, 0) from rfl) (fr' := (365, 438, clv, [.int (x + 1), .ref 0, .ref 128])) (M' := _) rfl) ?_
    refine mTo_tr (e_ald0 hT hq_law (show aTab 365 438 = some (.iaload, 1, 0, 0, 0, 0, 0, 0) from rfl) rfl (by omega)) ?_
    rw [← ha1]
    refine mTo_tr (e_call hT hq_law (show aTab 365 439 = some (.invokevirtual 39, 3, 1, 264, 0, 1, 2, 12) from rfl) rfl ⟨by decide, Nat.le_of_ble_eq_true rfl⟩ hfs2 (Nat.le_of_ble_eq_true rfl) (Nat.le_of_ble_eq_true rfl) ⟨by decide, by decide⟩ p2) ?_
    refine mTo_tr (e_st hT hq_law (show aTab 365 442 = some (.pop, 1, 0, 0, 0, 0, 0, 0) from rfl) (fr' := (365, 443, clv, [])) (M' := _) rfl) ?_
    refine mTo_tr (e_st hT hq_law (show aTab 365 443 = some (.goto 1395, 3, 0, 0, 0, 0, 0, 0) from rfl) (fr' := (365, 1838, clv, [])) (M' := _) rfl) ?_
    exact mTo_rf
  exact hEnd_to go (hTail hT hn ⟨l0, l1, l2, ⟨x, l3, hx⟩, hb, t2, hR2⟩ he)
theorem hC_6 (hT : aTabOk) {n : Nat} {f : Nat → Int32} (hn : n ≤ 384) (h : hBoth 189 265 1 false) : hStep n f 446 := by
  intro e clv M hst he
  obtain ⟨l0, l1, l2, ⟨x, l3, hx⟩, hb, hM, hR⟩ := id hst
  have hx1 : (x + 1).toInt = e + 1 := by rw [i32_add (by rw [hx, show (1 : Int32).toInt = 1 from rfl]; omega) (by rw [hx, show (1 : Int32).toInt = 1 from rfl]; omega), hx, show (1 : Int32).toInt = 1 from rfl]
  obtain ⟨a1, ha1⟩ : ∃ a, a = f (x + 1).toInt.toNat := ⟨_, rfl⟩
  obtain ⟨K1, M1, K2, M2, r1, r2, p1, t1, p2, t2, hR2, heq⟩ := h M hM hR [a1] rfl
  obtain ⟨fs1, hfs1⟩ := ob_at hM (rfl : tTy 0 = some (.inr (11, _)))
  obtain ⟨fs2, hfs2⟩ := ob_at t1 (rfl : tTy 119 = some (.inr (12, _)))
  have go : mTo (some (n, f)) 150 (365, 446, clv, []) M (365, 1838, clv, []) M2 := by
    refine mTo_tr (e_al1 hT hq_law (show aTab 365 446 = some (.aload_n 1, 1, 0, 0, 0, 0, 0, 0) from rfl) rfl l1) ?_
    refine mTo_tr (e_al1 hT hq_law (show aTab 365 447 = some (.aload_n 0, 1, 0, 0, 0, 0, 0, 0) from rfl) rfl l0) ?_
    refine mTo_tr (e_il1 hT hq_law (show aTab 365 448 = some (.iload_n 3, 1, 0, 0, 0, 0, 0, 0) from rfl) rfl l3) ?_
    refine mTo_tr (e_st hT hq_law (show aTab 365 449 = some (.iconst 1, 1, 0, 0, 0, 0, 0, 0) from rfl) (fr' := (365, 450, clv, [.int 1, .int x, .ref 0, .ref 9])) (M' := _) rfl) ?_
    refine mTo_tr (e_st hT hq_law (show aTab 365 450 = some (.iadd, 1, 0, 0, 0, 0, 0, 0) from rfl) (fr' := (365, 451, clv, [.int (x + 1), .ref 0, .ref 9])) (M' := _) rfl) ?_
    refine mTo_tr (e_ald0 hT hq_law (show aTab 365 451 = some (.iaload, 1, 0, 0, 0, 0, 0, 0) from rfl) rfl (by omega)) ?_
    rw [← ha1]
    refine mTo_tr (e_call hT hq_law (show aTab 365 452 = some (.invokevirtual 40, 3, 1, 189, 0, 1, 2, 11) from rfl) rfl ⟨by decide, Nat.le_of_ble_eq_true rfl⟩ hfs1 (Nat.le_of_ble_eq_true rfl) (Nat.le_of_ble_eq_true rfl) ⟨by decide, by decide⟩ p1) ?_
    refine mTo_tr (e_st hT hq_law (show aTab 365 455 = some (.pop, 1, 0, 0, 0, 0, 0, 0) from rfl) (fr' := (365, 456, clv, [])) (M' := _) rfl) ?_
    refine mTo_tr (e_al1 hT hq_law (show aTab 365 456 = some (.aload_n 2, 1, 0, 0, 0, 0, 0, 0) from rfl) rfl l2) ?_
    refine mTo_tr (e_al1 hT hq_law (show aTab 365 457 = some (.aload_n 0, 1, 0, 0, 0, 0, 0, 0) from rfl) rfl l0) ?_
    refine mTo_tr (e_il1 hT hq_law (show aTab 365 458 = some (.iload_n 3, 1, 0, 0, 0, 0, 0, 0) from rfl) rfl l3) ?_
    refine mTo_tr (e_st hT hq_law (show aTab 365 459 = some (.iconst 1, 1, 0, 0, 0, 0, 0, 0) from rfl) (fr' := (365, 460, clv, [.int 1, .int x, .ref 0, .ref 128])) (M' := _) rfl) ?_
    refine mTo_tr (e_st hT hq_law (show aTab 365 460 = some (.iadd, 1, 0, 0, 0, 0, 0, 0) from rfl) (fr' := (365, 461, clv, [.int (x + 1), .ref 0, .ref 128])) (M' := _) rfl) ?_
    refine mTo_tr (e_ald0 hT hq_law (show aTab 365 461 = some (.iaload, 1, 0, 0, 0, 0, 0, 0) from rfl) rfl (by omega)) ?_
    rw [← ha1]
    refine mTo_tr (e_call hT hq_law (show aTab 365 462 = some (.invokevirtual 43, 3, 1, 265, 0, 1, 2, 12) from rfl) rfl ⟨by decide, Nat.le_of_ble_eq_true rfl⟩ hfs2 (Nat.le_of_ble_eq_true rfl) (Nat.le_of_ble_eq_true rfl) ⟨by decide, by decide⟩ p2) ?_
    refine mTo_tr (e_st hT hq_law (show aTab 365 465 = some (.pop, 1, 0, 0, 0, 0, 0, 0) from rfl) (fr' := (365, 466, clv, [])) (M' := _) rfl) ?_
    refine mTo_tr (e_st hT hq_law (show aTab 365 466 = some (.goto 1372, 3, 0, 0, 0, 0, 0, 0) from rfl) (fr' := (365, 1838, clv, [])) (M' := _) rfl) ?_
    exact mTo_rf
  exact hEnd_to go (hTail hT hn ⟨l0, l1, l2, ⟨x, l3, hx⟩, hb, t2, hR2⟩ he)
theorem hC_7 (hT : aTabOk) {n : Nat} {f : Nat → Int32} (hn : n ≤ 384) (h : hBoth 190 268 1 false) : hStep n f 469 := by
  intro e clv M hst he
  obtain ⟨l0, l1, l2, ⟨x, l3, hx⟩, hb, hM, hR⟩ := id hst
  have hx1 : (x + 1).toInt = e + 1 := by rw [i32_add (by rw [hx, show (1 : Int32).toInt = 1 from rfl]; omega) (by rw [hx, show (1 : Int32).toInt = 1 from rfl]; omega), hx, show (1 : Int32).toInt = 1 from rfl]
  obtain ⟨a1, ha1⟩ : ∃ a, a = f (x + 1).toInt.toNat := ⟨_, rfl⟩
  obtain ⟨K1, M1, K2, M2, r1, r2, p1, t1, p2, t2, hR2, heq⟩ := h M hM hR [a1] rfl
  obtain ⟨fs1, hfs1⟩ := ob_at hM (rfl : tTy 0 = some (.inr (11, _)))
  obtain ⟨fs2, hfs2⟩ := ob_at t1 (rfl : tTy 119 = some (.inr (12, _)))
  have go : mTo (some (n, f)) 150 (365, 469, clv, []) M (365, 1838, clv, []) M2 := by
    refine mTo_tr (e_al1 hT hq_law (show aTab 365 469 = some (.aload_n 1, 1, 0, 0, 0, 0, 0, 0) from rfl) rfl l1) ?_
    refine mTo_tr (e_al1 hT hq_law (show aTab 365 470 = some (.aload_n 0, 1, 0, 0, 0, 0, 0, 0) from rfl) rfl l0) ?_
    refine mTo_tr (e_il1 hT hq_law (show aTab 365 471 = some (.iload_n 3, 1, 0, 0, 0, 0, 0, 0) from rfl) rfl l3) ?_
    refine mTo_tr (e_st hT hq_law (show aTab 365 472 = some (.iconst 1, 1, 0, 0, 0, 0, 0, 0) from rfl) (fr' := (365, 473, clv, [.int 1, .int x, .ref 0, .ref 9])) (M' := _) rfl) ?_
    refine mTo_tr (e_st hT hq_law (show aTab 365 473 = some (.iadd, 1, 0, 0, 0, 0, 0, 0) from rfl) (fr' := (365, 474, clv, [.int (x + 1), .ref 0, .ref 9])) (M' := _) rfl) ?_
    refine mTo_tr (e_ald0 hT hq_law (show aTab 365 474 = some (.iaload, 1, 0, 0, 0, 0, 0, 0) from rfl) rfl (by omega)) ?_
    rw [← ha1]
    refine mTo_tr (e_call hT hq_law (show aTab 365 475 = some (.invokevirtual 44, 3, 1, 190, 0, 1, 2, 11) from rfl) rfl ⟨by decide, Nat.le_of_ble_eq_true rfl⟩ hfs1 (Nat.le_of_ble_eq_true rfl) (Nat.le_of_ble_eq_true rfl) ⟨by decide, by decide⟩ p1) ?_
    refine mTo_tr (e_st hT hq_law (show aTab 365 478 = some (.pop, 1, 0, 0, 0, 0, 0, 0) from rfl) (fr' := (365, 479, clv, [])) (M' := _) rfl) ?_
    refine mTo_tr (e_al1 hT hq_law (show aTab 365 479 = some (.aload_n 2, 1, 0, 0, 0, 0, 0, 0) from rfl) rfl l2) ?_
    refine mTo_tr (e_al1 hT hq_law (show aTab 365 480 = some (.aload_n 0, 1, 0, 0, 0, 0, 0, 0) from rfl) rfl l0) ?_
    refine mTo_tr (e_il1 hT hq_law (show aTab 365 481 = some (.iload_n 3, 1, 0, 0, 0, 0, 0, 0) from rfl) rfl l3) ?_
    refine mTo_tr (e_st hT hq_law (show aTab 365 482 = some (.iconst 1, 1, 0, 0, 0, 0, 0, 0) from rfl) (fr' := (365, 483, clv, [.int 1, .int x, .ref 0, .ref 128])) (M' := _) rfl) ?_
    refine mTo_tr (e_st hT hq_law (show aTab 365 483 = some (.iadd, 1, 0, 0, 0, 0, 0, 0) from rfl) (fr' := (365, 484, clv, [.int (x + 1), .ref 0, .ref 128])) (M' := _) rfl) ?_
    refine mTo_tr (e_ald0 hT hq_law (show aTab 365 484 = some (.iaload, 1, 0, 0, 0, 0, 0, 0) from rfl) rfl (by omega)) ?_
    rw [← ha1]
    refine mTo_tr (e_call hT hq_law (show aTab 365 485 = some (.invokevirtual 47, 3, 1, 268, 0, 1, 3, 12) from rfl) rfl ⟨by decide, Nat.le_of_ble_eq_true rfl⟩ hfs2 (Nat.le_of_ble_eq_true rfl) (Nat.le_of_ble_eq_true rfl) ⟨by decide, by decide⟩ p2) ?_
    refine mTo_tr (e_st hT hq_law (show aTab 365 488 = some (.pop, 1, 0, 0, 0, 0, 0, 0) from rfl) (fr' := (365, 489, clv, [])) (M' := _) rfl) ?_
    refine mTo_tr (e_st hT hq_law (show aTab 365 489 = some (.goto 1349, 3, 0, 0, 0, 0, 0, 0) from rfl) (fr' := (365, 1838, clv, [])) (M' := _) rfl) ?_
    exact mTo_rf
  exact hEnd_to go (hTail hT hn ⟨l0, l1, l2, ⟨x, l3, hx⟩, hb, t2, hR2⟩ he)
theorem hC_8 (hT : aTabOk) {n : Nat} {f : Nat → Int32} (hn : n ≤ 384) (h : hBoth 191 271 3 false) : hStep n f 492 := by
  intro e clv M hst he
  obtain ⟨l0, l1, l2, ⟨x, l3, hx⟩, hb, hM, hR⟩ := id hst
  have hx1 : (x + 1).toInt = e + 1 := by rw [i32_add (by rw [hx, show (1 : Int32).toInt = 1 from rfl]; omega) (by rw [hx, show (1 : Int32).toInt = 1 from rfl]; omega), hx, show (1 : Int32).toInt = 1 from rfl]
  obtain ⟨a1, ha1⟩ : ∃ a, a = f (x + 1).toInt.toNat := ⟨_, rfl⟩
  have hx2 : (x + 2).toInt = e + 2 := by rw [i32_add (by rw [hx, show (2 : Int32).toInt = 2 from rfl]; omega) (by rw [hx, show (2 : Int32).toInt = 2 from rfl]; omega), hx, show (2 : Int32).toInt = 2 from rfl]
  obtain ⟨a2, ha2⟩ : ∃ a, a = f (x + 2).toInt.toNat := ⟨_, rfl⟩
  have hx3 : (x + 3).toInt = e + 3 := by rw [i32_add (by rw [hx, show (3 : Int32).toInt = 3 from rfl]; omega) (by rw [hx, show (3 : Int32).toInt = 3 from rfl]; omega), hx, show (3 : Int32).toInt = 3 from rfl]
  obtain ⟨a3, ha3⟩ : ∃ a, a = f (x + 3).toInt.toNat := ⟨_, rfl⟩
  obtain ⟨K1, M1, K2, M2, r1, r2, p1, t1, p2, t2, hR2, heq⟩ := h M hM hR [a1, a2, a3] rfl
  obtain ⟨fs1, hfs1⟩ := ob_at hM (rfl : tTy 0 = some (.inr (11, _)))
  obtain ⟨fs2, hfs2⟩ := ob_at t1 (rfl : tTy 119 = some (.inr (12, _)))
  have go : mTo (some (n, f)) 150 (365, 492, clv, []) M (365, 1838, clv, []) M2 := by
    refine mTo_tr (e_al1 hT hq_law (show aTab 365 492 = some (.aload_n 1, 1, 0, 0, 0, 0, 0, 0) from rfl) rfl l1) ?_
    refine mTo_tr (e_al1 hT hq_law (show aTab 365 493 = some (.aload_n 0, 1, 0, 0, 0, 0, 0, 0) from rfl) rfl l0) ?_
    refine mTo_tr (e_il1 hT hq_law (show aTab 365 494 = some (.iload_n 3, 1, 0, 0, 0, 0, 0, 0) from rfl) rfl l3) ?_
    refine mTo_tr (e_st hT hq_law (show aTab 365 495 = some (.iconst 1, 1, 0, 0, 0, 0, 0, 0) from rfl) (fr' := (365, 496, clv, [.int 1, .int x, .ref 0, .ref 9])) (M' := _) rfl) ?_
    refine mTo_tr (e_st hT hq_law (show aTab 365 496 = some (.iadd, 1, 0, 0, 0, 0, 0, 0) from rfl) (fr' := (365, 497, clv, [.int (x + 1), .ref 0, .ref 9])) (M' := _) rfl) ?_
    refine mTo_tr (e_ald0 hT hq_law (show aTab 365 497 = some (.iaload, 1, 0, 0, 0, 0, 0, 0) from rfl) rfl (by omega)) ?_
    rw [← ha1]
    refine mTo_tr (e_al1 hT hq_law (show aTab 365 498 = some (.aload_n 0, 1, 0, 0, 0, 0, 0, 0) from rfl) rfl l0) ?_
    refine mTo_tr (e_il1 hT hq_law (show aTab 365 499 = some (.iload_n 3, 1, 0, 0, 0, 0, 0, 0) from rfl) rfl l3) ?_
    refine mTo_tr (e_st hT hq_law (show aTab 365 500 = some (.iconst 2, 1, 0, 0, 0, 0, 0, 0) from rfl) (fr' := (365, 501, clv, [.int 2, .int x, .ref 0, .int a1, .ref 9])) (M' := _) rfl) ?_
    refine mTo_tr (e_st hT hq_law (show aTab 365 501 = some (.iadd, 1, 0, 0, 0, 0, 0, 0) from rfl) (fr' := (365, 502, clv, [.int (x + 2), .ref 0, .int a1, .ref 9])) (M' := _) rfl) ?_
    refine mTo_tr (e_ald0 hT hq_law (show aTab 365 502 = some (.iaload, 1, 0, 0, 0, 0, 0, 0) from rfl) rfl (by omega)) ?_
    rw [← ha2]
    refine mTo_tr (e_al1 hT hq_law (show aTab 365 503 = some (.aload_n 0, 1, 0, 0, 0, 0, 0, 0) from rfl) rfl l0) ?_
    refine mTo_tr (e_il1 hT hq_law (show aTab 365 504 = some (.iload_n 3, 1, 0, 0, 0, 0, 0, 0) from rfl) rfl l3) ?_
    refine mTo_tr (e_st hT hq_law (show aTab 365 505 = some (.iconst 3, 1, 0, 0, 0, 0, 0, 0) from rfl) (fr' := (365, 506, clv, [.int 3, .int x, .ref 0, .int a2, .int a1, .ref 9])) (M' := _) rfl) ?_
    refine mTo_tr (e_st hT hq_law (show aTab 365 506 = some (.iadd, 1, 0, 0, 0, 0, 0, 0) from rfl) (fr' := (365, 507, clv, [.int (x + 3), .ref 0, .int a2, .int a1, .ref 9])) (M' := _) rfl) ?_
    refine mTo_tr (e_ald0 hT hq_law (show aTab 365 507 = some (.iaload, 1, 0, 0, 0, 0, 0, 0) from rfl) rfl (by omega)) ?_
    rw [← ha3]
    refine mTo_tr (e_call hT hq_law (show aTab 365 508 = some (.invokevirtual 48, 3, 1, 191, 0, 3, 4, 11) from rfl) rfl ⟨by decide, Nat.le_of_ble_eq_true rfl⟩ hfs1 (Nat.le_of_ble_eq_true rfl) (Nat.le_of_ble_eq_true rfl) ⟨by decide, by decide⟩ p1) ?_
    refine mTo_tr (e_st hT hq_law (show aTab 365 511 = some (.pop, 1, 0, 0, 0, 0, 0, 0) from rfl) (fr' := (365, 512, clv, [])) (M' := _) rfl) ?_
    refine mTo_tr (e_al1 hT hq_law (show aTab 365 512 = some (.aload_n 2, 1, 0, 0, 0, 0, 0, 0) from rfl) rfl l2) ?_
    refine mTo_tr (e_al1 hT hq_law (show aTab 365 513 = some (.aload_n 0, 1, 0, 0, 0, 0, 0, 0) from rfl) rfl l0) ?_
    refine mTo_tr (e_il1 hT hq_law (show aTab 365 514 = some (.iload_n 3, 1, 0, 0, 0, 0, 0, 0) from rfl) rfl l3) ?_
    refine mTo_tr (e_st hT hq_law (show aTab 365 515 = some (.iconst 1, 1, 0, 0, 0, 0, 0, 0) from rfl) (fr' := (365, 516, clv, [.int 1, .int x, .ref 0, .ref 128])) (M' := _) rfl) ?_
    refine mTo_tr (e_st hT hq_law (show aTab 365 516 = some (.iadd, 1, 0, 0, 0, 0, 0, 0) from rfl) (fr' := (365, 517, clv, [.int (x + 1), .ref 0, .ref 128])) (M' := _) rfl) ?_
    refine mTo_tr (e_ald0 hT hq_law (show aTab 365 517 = some (.iaload, 1, 0, 0, 0, 0, 0, 0) from rfl) rfl (by omega)) ?_
    rw [← ha1]
    refine mTo_tr (e_al1 hT hq_law (show aTab 365 518 = some (.aload_n 0, 1, 0, 0, 0, 0, 0, 0) from rfl) rfl l0) ?_
    refine mTo_tr (e_il1 hT hq_law (show aTab 365 519 = some (.iload_n 3, 1, 0, 0, 0, 0, 0, 0) from rfl) rfl l3) ?_
    refine mTo_tr (e_st hT hq_law (show aTab 365 520 = some (.iconst 2, 1, 0, 0, 0, 0, 0, 0) from rfl) (fr' := (365, 521, clv, [.int 2, .int x, .ref 0, .int a1, .ref 128])) (M' := _) rfl) ?_
    refine mTo_tr (e_st hT hq_law (show aTab 365 521 = some (.iadd, 1, 0, 0, 0, 0, 0, 0) from rfl) (fr' := (365, 522, clv, [.int (x + 2), .ref 0, .int a1, .ref 128])) (M' := _) rfl) ?_
    refine mTo_tr (e_ald0 hT hq_law (show aTab 365 522 = some (.iaload, 1, 0, 0, 0, 0, 0, 0) from rfl) rfl (by omega)) ?_
    rw [← ha2]
    refine mTo_tr (e_al1 hT hq_law (show aTab 365 523 = some (.aload_n 0, 1, 0, 0, 0, 0, 0, 0) from rfl) rfl l0) ?_
    refine mTo_tr (e_il1 hT hq_law (show aTab 365 524 = some (.iload_n 3, 1, 0, 0, 0, 0, 0, 0) from rfl) rfl l3) ?_
    refine mTo_tr (e_st hT hq_law (show aTab 365 525 = some (.iconst 3, 1, 0, 0, 0, 0, 0, 0) from rfl) (fr' := (365, 526, clv, [.int 3, .int x, .ref 0, .int a2, .int a1, .ref 128])) (M' := _) rfl) ?_
    refine mTo_tr (e_st hT hq_law (show aTab 365 526 = some (.iadd, 1, 0, 0, 0, 0, 0, 0) from rfl) (fr' := (365, 527, clv, [.int (x + 3), .ref 0, .int a2, .int a1, .ref 128])) (M' := _) rfl) ?_
    refine mTo_tr (e_ald0 hT hq_law (show aTab 365 527 = some (.iaload, 1, 0, 0, 0, 0, 0, 0) from rfl) rfl (by omega)) ?_
    rw [← ha3]
    refine mTo_tr (e_call hT hq_law (show aTab 365 528 = some (.invokevirtual 51, 3, 1, 271, 0, 3, 4, 12) from rfl) rfl ⟨by decide, Nat.le_of_ble_eq_true rfl⟩ hfs2 (Nat.le_of_ble_eq_true rfl) (Nat.le_of_ble_eq_true rfl) ⟨by decide, by decide⟩ p2) ?_
    refine mTo_tr (e_st hT hq_law (show aTab 365 531 = some (.pop, 1, 0, 0, 0, 0, 0, 0) from rfl) (fr' := (365, 532, clv, [])) (M' := _) rfl) ?_
    refine mTo_tr (e_st hT hq_law (show aTab 365 532 = some (.goto 1306, 3, 0, 0, 0, 0, 0, 0) from rfl) (fr' := (365, 1838, clv, [])) (M' := _) rfl) ?_
    exact mTo_rf
  exact hEnd_to go (hTail hT hn ⟨l0, l1, l2, ⟨x, l3, hx⟩, hb, t2, hR2⟩ he)
theorem hC_9 (hT : aTabOk) {n : Nat} {f : Nat → Int32} (hn : n ≤ 384) (h : hBoth 192 272 4 false) : hStep n f 535 := by
  intro e clv M hst he
  obtain ⟨l0, l1, l2, ⟨x, l3, hx⟩, hb, hM, hR⟩ := id hst
  have hx1 : (x + 1).toInt = e + 1 := by rw [i32_add (by rw [hx, show (1 : Int32).toInt = 1 from rfl]; omega) (by rw [hx, show (1 : Int32).toInt = 1 from rfl]; omega), hx, show (1 : Int32).toInt = 1 from rfl]
  obtain ⟨a1, ha1⟩ : ∃ a, a = f (x + 1).toInt.toNat := ⟨_, rfl⟩
  have hx2 : (x + 2).toInt = e + 2 := by rw [i32_add (by rw [hx, show (2 : Int32).toInt = 2 from rfl]; omega) (by rw [hx, show (2 : Int32).toInt = 2 from rfl]; omega), hx, show (2 : Int32).toInt = 2 from rfl]
  obtain ⟨a2, ha2⟩ : ∃ a, a = f (x + 2).toInt.toNat := ⟨_, rfl⟩
  have hx3 : (x + 3).toInt = e + 3 := by rw [i32_add (by rw [hx, show (3 : Int32).toInt = 3 from rfl]; omega) (by rw [hx, show (3 : Int32).toInt = 3 from rfl]; omega), hx, show (3 : Int32).toInt = 3 from rfl]
  obtain ⟨a3, ha3⟩ : ∃ a, a = f (x + 3).toInt.toNat := ⟨_, rfl⟩
  have hx4 : (x + 4).toInt = e + 4 := by rw [i32_add (by rw [hx, show (4 : Int32).toInt = 4 from rfl]; omega) (by rw [hx, show (4 : Int32).toInt = 4 from rfl]; omega), hx, show (4 : Int32).toInt = 4 from rfl]
  obtain ⟨a4, ha4⟩ : ∃ a, a = f (x + 4).toInt.toNat := ⟨_, rfl⟩
  obtain ⟨K1, M1, K2, M2, r1, r2, p1, t1, p2, t2, hR2, heq⟩ := h M hM hR [a1, a2, a3, a4] rfl
  obtain ⟨fs1, hfs1⟩ := ob_at hM (rfl : tTy 0 = some (.inr (11, _)))
  obtain ⟨fs2, hfs2⟩ := ob_at t1 (rfl : tTy 119 = some (.inr (12, _)))
  have go : mTo (some (n, f)) 150 (365, 535, clv, []) M (365, 1838, clv, []) M2 := by
    refine mTo_tr (e_al1 hT hq_law (show aTab 365 535 = some (.aload_n 1, 1, 0, 0, 0, 0, 0, 0) from rfl) rfl l1) ?_
    refine mTo_tr (e_al1 hT hq_law (show aTab 365 536 = some (.aload_n 0, 1, 0, 0, 0, 0, 0, 0) from rfl) rfl l0) ?_
    refine mTo_tr (e_il1 hT hq_law (show aTab 365 537 = some (.iload_n 3, 1, 0, 0, 0, 0, 0, 0) from rfl) rfl l3) ?_
    refine mTo_tr (e_st hT hq_law (show aTab 365 538 = some (.iconst 1, 1, 0, 0, 0, 0, 0, 0) from rfl) (fr' := (365, 539, clv, [.int 1, .int x, .ref 0, .ref 9])) (M' := _) rfl) ?_
    refine mTo_tr (e_st hT hq_law (show aTab 365 539 = some (.iadd, 1, 0, 0, 0, 0, 0, 0) from rfl) (fr' := (365, 540, clv, [.int (x + 1), .ref 0, .ref 9])) (M' := _) rfl) ?_
    refine mTo_tr (e_ald0 hT hq_law (show aTab 365 540 = some (.iaload, 1, 0, 0, 0, 0, 0, 0) from rfl) rfl (by omega)) ?_
    rw [← ha1]
    refine mTo_tr (e_al1 hT hq_law (show aTab 365 541 = some (.aload_n 0, 1, 0, 0, 0, 0, 0, 0) from rfl) rfl l0) ?_
    refine mTo_tr (e_il1 hT hq_law (show aTab 365 542 = some (.iload_n 3, 1, 0, 0, 0, 0, 0, 0) from rfl) rfl l3) ?_
    refine mTo_tr (e_st hT hq_law (show aTab 365 543 = some (.iconst 2, 1, 0, 0, 0, 0, 0, 0) from rfl) (fr' := (365, 544, clv, [.int 2, .int x, .ref 0, .int a1, .ref 9])) (M' := _) rfl) ?_
    refine mTo_tr (e_st hT hq_law (show aTab 365 544 = some (.iadd, 1, 0, 0, 0, 0, 0, 0) from rfl) (fr' := (365, 545, clv, [.int (x + 2), .ref 0, .int a1, .ref 9])) (M' := _) rfl) ?_
    refine mTo_tr (e_ald0 hT hq_law (show aTab 365 545 = some (.iaload, 1, 0, 0, 0, 0, 0, 0) from rfl) rfl (by omega)) ?_
    rw [← ha2]
    refine mTo_tr (e_al1 hT hq_law (show aTab 365 546 = some (.aload_n 0, 1, 0, 0, 0, 0, 0, 0) from rfl) rfl l0) ?_
    refine mTo_tr (e_il1 hT hq_law (show aTab 365 547 = some (.iload_n 3, 1, 0, 0, 0, 0, 0, 0) from rfl) rfl l3) ?_
    refine mTo_tr (e_st hT hq_law (show aTab 365 548 = some (.iconst 3, 1, 0, 0, 0, 0, 0, 0) from rfl) (fr' := (365, 549, clv, [.int 3, .int x, .ref 0, .int a2, .int a1, .ref 9])) (M' := _) rfl) ?_
    refine mTo_tr (e_st hT hq_law (show aTab 365 549 = some (.iadd, 1, 0, 0, 0, 0, 0, 0) from rfl) (fr' := (365, 550, clv, [.int (x + 3), .ref 0, .int a2, .int a1, .ref 9])) (M' := _) rfl) ?_
    refine mTo_tr (e_ald0 hT hq_law (show aTab 365 550 = some (.iaload, 1, 0, 0, 0, 0, 0, 0) from rfl) rfl (by omega)) ?_
    rw [← ha3]
    refine mTo_tr (e_al1 hT hq_law (show aTab 365 551 = some (.aload_n 0, 1, 0, 0, 0, 0, 0, 0) from rfl) rfl l0) ?_
    refine mTo_tr (e_il1 hT hq_law (show aTab 365 552 = some (.iload_n 3, 1, 0, 0, 0, 0, 0, 0) from rfl) rfl l3) ?_
    refine mTo_tr (e_st hT hq_law (show aTab 365 553 = some (.iconst 4, 1, 0, 0, 0, 0, 0, 0) from rfl) (fr' := (365, 554, clv, [.int 4, .int x, .ref 0, .int a3, .int a2, .int a1, .ref 9])) (M' := _) rfl) ?_
    refine mTo_tr (e_st hT hq_law (show aTab 365 554 = some (.iadd, 1, 0, 0, 0, 0, 0, 0) from rfl) (fr' := (365, 555, clv, [.int (x + 4), .ref 0, .int a3, .int a2, .int a1, .ref 9])) (M' := _) rfl) ?_
    refine mTo_tr (e_ald0 hT hq_law (show aTab 365 555 = some (.iaload, 1, 0, 0, 0, 0, 0, 0) from rfl) rfl (by omega)) ?_
    rw [← ha4]
    refine mTo_tr (e_call hT hq_law (show aTab 365 556 = some (.invokevirtual 52, 3, 1, 192, 0, 4, 5, 11) from rfl) rfl ⟨by decide, Nat.le_of_ble_eq_true rfl⟩ hfs1 (Nat.le_of_ble_eq_true rfl) (Nat.le_of_ble_eq_true rfl) ⟨by decide, by decide⟩ p1) ?_
    refine mTo_tr (e_st hT hq_law (show aTab 365 559 = some (.pop, 1, 0, 0, 0, 0, 0, 0) from rfl) (fr' := (365, 560, clv, [])) (M' := _) rfl) ?_
    refine mTo_tr (e_al1 hT hq_law (show aTab 365 560 = some (.aload_n 2, 1, 0, 0, 0, 0, 0, 0) from rfl) rfl l2) ?_
    refine mTo_tr (e_al1 hT hq_law (show aTab 365 561 = some (.aload_n 0, 1, 0, 0, 0, 0, 0, 0) from rfl) rfl l0) ?_
    refine mTo_tr (e_il1 hT hq_law (show aTab 365 562 = some (.iload_n 3, 1, 0, 0, 0, 0, 0, 0) from rfl) rfl l3) ?_
    refine mTo_tr (e_st hT hq_law (show aTab 365 563 = some (.iconst 1, 1, 0, 0, 0, 0, 0, 0) from rfl) (fr' := (365, 564, clv, [.int 1, .int x, .ref 0, .ref 128])) (M' := _) rfl) ?_
    refine mTo_tr (e_st hT hq_law (show aTab 365 564 = some (.iadd, 1, 0, 0, 0, 0, 0, 0) from rfl) (fr' := (365, 565, clv, [.int (x + 1), .ref 0, .ref 128])) (M' := _) rfl) ?_
    refine mTo_tr (e_ald0 hT hq_law (show aTab 365 565 = some (.iaload, 1, 0, 0, 0, 0, 0, 0) from rfl) rfl (by omega)) ?_
    rw [← ha1]
    refine mTo_tr (e_al1 hT hq_law (show aTab 365 566 = some (.aload_n 0, 1, 0, 0, 0, 0, 0, 0) from rfl) rfl l0) ?_
    refine mTo_tr (e_il1 hT hq_law (show aTab 365 567 = some (.iload_n 3, 1, 0, 0, 0, 0, 0, 0) from rfl) rfl l3) ?_
    refine mTo_tr (e_st hT hq_law (show aTab 365 568 = some (.iconst 2, 1, 0, 0, 0, 0, 0, 0) from rfl) (fr' := (365, 569, clv, [.int 2, .int x, .ref 0, .int a1, .ref 128])) (M' := _) rfl) ?_
    refine mTo_tr (e_st hT hq_law (show aTab 365 569 = some (.iadd, 1, 0, 0, 0, 0, 0, 0) from rfl) (fr' := (365, 570, clv, [.int (x + 2), .ref 0, .int a1, .ref 128])) (M' := _) rfl) ?_
    refine mTo_tr (e_ald0 hT hq_law (show aTab 365 570 = some (.iaload, 1, 0, 0, 0, 0, 0, 0) from rfl) rfl (by omega)) ?_
    rw [← ha2]
    refine mTo_tr (e_al1 hT hq_law (show aTab 365 571 = some (.aload_n 0, 1, 0, 0, 0, 0, 0, 0) from rfl) rfl l0) ?_
    refine mTo_tr (e_il1 hT hq_law (show aTab 365 572 = some (.iload_n 3, 1, 0, 0, 0, 0, 0, 0) from rfl) rfl l3) ?_
    refine mTo_tr (e_st hT hq_law (show aTab 365 573 = some (.iconst 3, 1, 0, 0, 0, 0, 0, 0) from rfl) (fr' := (365, 574, clv, [.int 3, .int x, .ref 0, .int a2, .int a1, .ref 128])) (M' := _) rfl) ?_
    refine mTo_tr (e_st hT hq_law (show aTab 365 574 = some (.iadd, 1, 0, 0, 0, 0, 0, 0) from rfl) (fr' := (365, 575, clv, [.int (x + 3), .ref 0, .int a2, .int a1, .ref 128])) (M' := _) rfl) ?_
    refine mTo_tr (e_ald0 hT hq_law (show aTab 365 575 = some (.iaload, 1, 0, 0, 0, 0, 0, 0) from rfl) rfl (by omega)) ?_
    rw [← ha3]
    refine mTo_tr (e_al1 hT hq_law (show aTab 365 576 = some (.aload_n 0, 1, 0, 0, 0, 0, 0, 0) from rfl) rfl l0) ?_
    refine mTo_tr (e_il1 hT hq_law (show aTab 365 577 = some (.iload_n 3, 1, 0, 0, 0, 0, 0, 0) from rfl) rfl l3) ?_
    refine mTo_tr (e_st hT hq_law (show aTab 365 578 = some (.iconst 4, 1, 0, 0, 0, 0, 0, 0) from rfl) (fr' := (365, 579, clv, [.int 4, .int x, .ref 0, .int a3, .int a2, .int a1, .ref 128])) (M' := _) rfl) ?_
    refine mTo_tr (e_st hT hq_law (show aTab 365 579 = some (.iadd, 1, 0, 0, 0, 0, 0, 0) from rfl) (fr' := (365, 580, clv, [.int (x + 4), .ref 0, .int a3, .int a2, .int a1, .ref 128])) (M' := _) rfl) ?_
    refine mTo_tr (e_ald0 hT hq_law (show aTab 365 580 = some (.iaload, 1, 0, 0, 0, 0, 0, 0) from rfl) rfl (by omega)) ?_
    rw [← ha4]
    refine mTo_tr (e_call hT hq_law (show aTab 365 581 = some (.invokevirtual 56, 3, 1, 272, 0, 4, 5, 12) from rfl) rfl ⟨by decide, Nat.le_of_ble_eq_true rfl⟩ hfs2 (Nat.le_of_ble_eq_true rfl) (Nat.le_of_ble_eq_true rfl) ⟨by decide, by decide⟩ p2) ?_
    refine mTo_tr (e_st hT hq_law (show aTab 365 584 = some (.pop, 1, 0, 0, 0, 0, 0, 0) from rfl) (fr' := (365, 585, clv, [])) (M' := _) rfl) ?_
    refine mTo_tr (e_st hT hq_law (show aTab 365 585 = some (.goto 1253, 3, 0, 0, 0, 0, 0, 0) from rfl) (fr' := (365, 1838, clv, [])) (M' := _) rfl) ?_
    exact mTo_rf
  exact hEnd_to go (hTail hT hn ⟨l0, l1, l2, ⟨x, l3, hx⟩, hb, t2, hR2⟩ he)
theorem hC_10 (hT : aTabOk) {n : Nat} {f : Nat → Int32} (hn : n ≤ 384) (h : hBoth 193 273 2 false) : hStep n f 588 := by
  intro e clv M hst he
  obtain ⟨l0, l1, l2, ⟨x, l3, hx⟩, hb, hM, hR⟩ := id hst
  have hx1 : (x + 1).toInt = e + 1 := by rw [i32_add (by rw [hx, show (1 : Int32).toInt = 1 from rfl]; omega) (by rw [hx, show (1 : Int32).toInt = 1 from rfl]; omega), hx, show (1 : Int32).toInt = 1 from rfl]
  obtain ⟨a1, ha1⟩ : ∃ a, a = f (x + 1).toInt.toNat := ⟨_, rfl⟩
  have hx2 : (x + 2).toInt = e + 2 := by rw [i32_add (by rw [hx, show (2 : Int32).toInt = 2 from rfl]; omega) (by rw [hx, show (2 : Int32).toInt = 2 from rfl]; omega), hx, show (2 : Int32).toInt = 2 from rfl]
  obtain ⟨a2, ha2⟩ : ∃ a, a = f (x + 2).toInt.toNat := ⟨_, rfl⟩
  obtain ⟨K1, M1, K2, M2, r1, r2, p1, t1, p2, t2, hR2, heq⟩ := h M hM hR [a1, a2] rfl
  obtain ⟨fs1, hfs1⟩ := ob_at hM (rfl : tTy 0 = some (.inr (11, _)))
  obtain ⟨fs2, hfs2⟩ := ob_at t1 (rfl : tTy 119 = some (.inr (12, _)))
  have go : mTo (some (n, f)) 150 (365, 588, clv, []) M (365, 1838, clv, []) M2 := by
    refine mTo_tr (e_al1 hT hq_law (show aTab 365 588 = some (.aload_n 1, 1, 0, 0, 0, 0, 0, 0) from rfl) rfl l1) ?_
    refine mTo_tr (e_al1 hT hq_law (show aTab 365 589 = some (.aload_n 0, 1, 0, 0, 0, 0, 0, 0) from rfl) rfl l0) ?_
    refine mTo_tr (e_il1 hT hq_law (show aTab 365 590 = some (.iload_n 3, 1, 0, 0, 0, 0, 0, 0) from rfl) rfl l3) ?_
    refine mTo_tr (e_st hT hq_law (show aTab 365 591 = some (.iconst 1, 1, 0, 0, 0, 0, 0, 0) from rfl) (fr' := (365, 592, clv, [.int 1, .int x, .ref 0, .ref 9])) (M' := _) rfl) ?_
    refine mTo_tr (e_st hT hq_law (show aTab 365 592 = some (.iadd, 1, 0, 0, 0, 0, 0, 0) from rfl) (fr' := (365, 593, clv, [.int (x + 1), .ref 0, .ref 9])) (M' := _) rfl) ?_
    refine mTo_tr (e_ald0 hT hq_law (show aTab 365 593 = some (.iaload, 1, 0, 0, 0, 0, 0, 0) from rfl) rfl (by omega)) ?_
    rw [← ha1]
    refine mTo_tr (e_al1 hT hq_law (show aTab 365 594 = some (.aload_n 0, 1, 0, 0, 0, 0, 0, 0) from rfl) rfl l0) ?_
    refine mTo_tr (e_il1 hT hq_law (show aTab 365 595 = some (.iload_n 3, 1, 0, 0, 0, 0, 0, 0) from rfl) rfl l3) ?_
    refine mTo_tr (e_st hT hq_law (show aTab 365 596 = some (.iconst 2, 1, 0, 0, 0, 0, 0, 0) from rfl) (fr' := (365, 597, clv, [.int 2, .int x, .ref 0, .int a1, .ref 9])) (M' := _) rfl) ?_
    refine mTo_tr (e_st hT hq_law (show aTab 365 597 = some (.iadd, 1, 0, 0, 0, 0, 0, 0) from rfl) (fr' := (365, 598, clv, [.int (x + 2), .ref 0, .int a1, .ref 9])) (M' := _) rfl) ?_
    refine mTo_tr (e_ald0 hT hq_law (show aTab 365 598 = some (.iaload, 1, 0, 0, 0, 0, 0, 0) from rfl) rfl (by omega)) ?_
    rw [← ha2]
    refine mTo_tr (e_call hT hq_law (show aTab 365 599 = some (.invokevirtual 57, 3, 1, 193, 0, 2, 3, 11) from rfl) rfl ⟨by decide, Nat.le_of_ble_eq_true rfl⟩ hfs1 (Nat.le_of_ble_eq_true rfl) (Nat.le_of_ble_eq_true rfl) ⟨by decide, by decide⟩ p1) ?_
    refine mTo_tr (e_st hT hq_law (show aTab 365 602 = some (.pop, 1, 0, 0, 0, 0, 0, 0) from rfl) (fr' := (365, 603, clv, [])) (M' := _) rfl) ?_
    refine mTo_tr (e_al1 hT hq_law (show aTab 365 603 = some (.aload_n 2, 1, 0, 0, 0, 0, 0, 0) from rfl) rfl l2) ?_
    refine mTo_tr (e_al1 hT hq_law (show aTab 365 604 = some (.aload_n 0, 1, 0, 0, 0, 0, 0, 0) from rfl) rfl l0) ?_
    refine mTo_tr (e_il1 hT hq_law (show aTab 365 605 = some (.iload_n 3, 1, 0, 0, 0, 0, 0, 0) from rfl) rfl l3) ?_
    refine mTo_tr (e_st hT hq_law (show aTab 365 606 = some (.iconst 1, 1, 0, 0, 0, 0, 0, 0) from rfl) (fr' := (365, 607, clv, [.int 1, .int x, .ref 0, .ref 128])) (M' := _) rfl) ?_
    refine mTo_tr (e_st hT hq_law (show aTab 365 607 = some (.iadd, 1, 0, 0, 0, 0, 0, 0) from rfl) (fr' := (365, 608, clv, [.int (x + 1), .ref 0, .ref 128])) (M' := _) rfl) ?_
    refine mTo_tr (e_ald0 hT hq_law (show aTab 365 608 = some (.iaload, 1, 0, 0, 0, 0, 0, 0) from rfl) rfl (by omega)) ?_
    rw [← ha1]
    refine mTo_tr (e_al1 hT hq_law (show aTab 365 609 = some (.aload_n 0, 1, 0, 0, 0, 0, 0, 0) from rfl) rfl l0) ?_
    refine mTo_tr (e_il1 hT hq_law (show aTab 365 610 = some (.iload_n 3, 1, 0, 0, 0, 0, 0, 0) from rfl) rfl l3) ?_
    refine mTo_tr (e_st hT hq_law (show aTab 365 611 = some (.iconst 2, 1, 0, 0, 0, 0, 0, 0) from rfl) (fr' := (365, 612, clv, [.int 2, .int x, .ref 0, .int a1, .ref 128])) (M' := _) rfl) ?_
    refine mTo_tr (e_st hT hq_law (show aTab 365 612 = some (.iadd, 1, 0, 0, 0, 0, 0, 0) from rfl) (fr' := (365, 613, clv, [.int (x + 2), .ref 0, .int a1, .ref 128])) (M' := _) rfl) ?_
    refine mTo_tr (e_ald0 hT hq_law (show aTab 365 613 = some (.iaload, 1, 0, 0, 0, 0, 0, 0) from rfl) rfl (by omega)) ?_
    rw [← ha2]
    refine mTo_tr (e_call hT hq_law (show aTab 365 614 = some (.invokevirtual 60, 3, 1, 273, 0, 2, 4, 12) from rfl) rfl ⟨by decide, Nat.le_of_ble_eq_true rfl⟩ hfs2 (Nat.le_of_ble_eq_true rfl) (Nat.le_of_ble_eq_true rfl) ⟨by decide, by decide⟩ p2) ?_
    refine mTo_tr (e_st hT hq_law (show aTab 365 617 = some (.pop, 1, 0, 0, 0, 0, 0, 0) from rfl) (fr' := (365, 618, clv, [])) (M' := _) rfl) ?_
    refine mTo_tr (e_st hT hq_law (show aTab 365 618 = some (.goto 1220, 3, 0, 0, 0, 0, 0, 0) from rfl) (fr' := (365, 1838, clv, [])) (M' := _) rfl) ?_
    exact mTo_rf
  exact hEnd_to go (hTail hT hn ⟨l0, l1, l2, ⟨x, l3, hx⟩, hb, t2, hR2⟩ he)
theorem hC_11 (hT : aTabOk) {n : Nat} {f : Nat → Int32} (hn : n ≤ 384) (h : hBoth 194 274 2 false) : hStep n f 621 := by
  intro e clv M hst he
  obtain ⟨l0, l1, l2, ⟨x, l3, hx⟩, hb, hM, hR⟩ := id hst
  have hx1 : (x + 1).toInt = e + 1 := by rw [i32_add (by rw [hx, show (1 : Int32).toInt = 1 from rfl]; omega) (by rw [hx, show (1 : Int32).toInt = 1 from rfl]; omega), hx, show (1 : Int32).toInt = 1 from rfl]
  obtain ⟨a1, ha1⟩ : ∃ a, a = f (x + 1).toInt.toNat := ⟨_, rfl⟩
  have hx2 : (x + 2).toInt = e + 2 := by rw [i32_add (by rw [hx, show (2 : Int32).toInt = 2 from rfl]; omega) (by rw [hx, show (2 : Int32).toInt = 2 from rfl]; omega), hx, show (2 : Int32).toInt = 2 from rfl]
  obtain ⟨a2, ha2⟩ : ∃ a, a = f (x + 2).toInt.toNat := ⟨_, rfl⟩
  obtain ⟨K1, M1, K2, M2, r1, r2, p1, t1, p2, t2, hR2, heq⟩ := h M hM hR [a1, a2] rfl
  obtain ⟨fs1, hfs1⟩ := ob_at hM (rfl : tTy 0 = some (.inr (11, _)))
  obtain ⟨fs2, hfs2⟩ := ob_at t1 (rfl : tTy 119 = some (.inr (12, _)))
  have go : mTo (some (n, f)) 150 (365, 621, clv, []) M (365, 1838, clv, []) M2 := by
    refine mTo_tr (e_al1 hT hq_law (show aTab 365 621 = some (.aload_n 1, 1, 0, 0, 0, 0, 0, 0) from rfl) rfl l1) ?_
    refine mTo_tr (e_al1 hT hq_law (show aTab 365 622 = some (.aload_n 0, 1, 0, 0, 0, 0, 0, 0) from rfl) rfl l0) ?_
    refine mTo_tr (e_il1 hT hq_law (show aTab 365 623 = some (.iload_n 3, 1, 0, 0, 0, 0, 0, 0) from rfl) rfl l3) ?_
    refine mTo_tr (e_st hT hq_law (show aTab 365 624 = some (.iconst 1, 1, 0, 0, 0, 0, 0, 0) from rfl) (fr' := (365, 625, clv, [.int 1, .int x, .ref 0, .ref 9])) (M' := _) rfl) ?_
    refine mTo_tr (e_st hT hq_law (show aTab 365 625 = some (.iadd, 1, 0, 0, 0, 0, 0, 0) from rfl) (fr' := (365, 626, clv, [.int (x + 1), .ref 0, .ref 9])) (M' := _) rfl) ?_
    refine mTo_tr (e_ald0 hT hq_law (show aTab 365 626 = some (.iaload, 1, 0, 0, 0, 0, 0, 0) from rfl) rfl (by omega)) ?_
    rw [← ha1]
    refine mTo_tr (e_al1 hT hq_law (show aTab 365 627 = some (.aload_n 0, 1, 0, 0, 0, 0, 0, 0) from rfl) rfl l0) ?_
    refine mTo_tr (e_il1 hT hq_law (show aTab 365 628 = some (.iload_n 3, 1, 0, 0, 0, 0, 0, 0) from rfl) rfl l3) ?_
    refine mTo_tr (e_st hT hq_law (show aTab 365 629 = some (.iconst 2, 1, 0, 0, 0, 0, 0, 0) from rfl) (fr' := (365, 630, clv, [.int 2, .int x, .ref 0, .int a1, .ref 9])) (M' := _) rfl) ?_
    refine mTo_tr (e_st hT hq_law (show aTab 365 630 = some (.iadd, 1, 0, 0, 0, 0, 0, 0) from rfl) (fr' := (365, 631, clv, [.int (x + 2), .ref 0, .int a1, .ref 9])) (M' := _) rfl) ?_
    refine mTo_tr (e_ald0 hT hq_law (show aTab 365 631 = some (.iaload, 1, 0, 0, 0, 0, 0, 0) from rfl) rfl (by omega)) ?_
    rw [← ha2]
    refine mTo_tr (e_call hT hq_law (show aTab 365 632 = some (.invokevirtual 61, 3, 1, 194, 0, 2, 3, 11) from rfl) rfl ⟨by decide, Nat.le_of_ble_eq_true rfl⟩ hfs1 (Nat.le_of_ble_eq_true rfl) (Nat.le_of_ble_eq_true rfl) ⟨by decide, by decide⟩ p1) ?_
    refine mTo_tr (e_st hT hq_law (show aTab 365 635 = some (.pop, 1, 0, 0, 0, 0, 0, 0) from rfl) (fr' := (365, 636, clv, [])) (M' := _) rfl) ?_
    refine mTo_tr (e_al1 hT hq_law (show aTab 365 636 = some (.aload_n 2, 1, 0, 0, 0, 0, 0, 0) from rfl) rfl l2) ?_
    refine mTo_tr (e_al1 hT hq_law (show aTab 365 637 = some (.aload_n 0, 1, 0, 0, 0, 0, 0, 0) from rfl) rfl l0) ?_
    refine mTo_tr (e_il1 hT hq_law (show aTab 365 638 = some (.iload_n 3, 1, 0, 0, 0, 0, 0, 0) from rfl) rfl l3) ?_
    refine mTo_tr (e_st hT hq_law (show aTab 365 639 = some (.iconst 1, 1, 0, 0, 0, 0, 0, 0) from rfl) (fr' := (365, 640, clv, [.int 1, .int x, .ref 0, .ref 128])) (M' := _) rfl) ?_
    refine mTo_tr (e_st hT hq_law (show aTab 365 640 = some (.iadd, 1, 0, 0, 0, 0, 0, 0) from rfl) (fr' := (365, 641, clv, [.int (x + 1), .ref 0, .ref 128])) (M' := _) rfl) ?_
    refine mTo_tr (e_ald0 hT hq_law (show aTab 365 641 = some (.iaload, 1, 0, 0, 0, 0, 0, 0) from rfl) rfl (by omega)) ?_
    rw [← ha1]
    refine mTo_tr (e_al1 hT hq_law (show aTab 365 642 = some (.aload_n 0, 1, 0, 0, 0, 0, 0, 0) from rfl) rfl l0) ?_
    refine mTo_tr (e_il1 hT hq_law (show aTab 365 643 = some (.iload_n 3, 1, 0, 0, 0, 0, 0, 0) from rfl) rfl l3) ?_
    refine mTo_tr (e_st hT hq_law (show aTab 365 644 = some (.iconst 2, 1, 0, 0, 0, 0, 0, 0) from rfl) (fr' := (365, 645, clv, [.int 2, .int x, .ref 0, .int a1, .ref 128])) (M' := _) rfl) ?_
    refine mTo_tr (e_st hT hq_law (show aTab 365 645 = some (.iadd, 1, 0, 0, 0, 0, 0, 0) from rfl) (fr' := (365, 646, clv, [.int (x + 2), .ref 0, .int a1, .ref 128])) (M' := _) rfl) ?_
    refine mTo_tr (e_ald0 hT hq_law (show aTab 365 646 = some (.iaload, 1, 0, 0, 0, 0, 0, 0) from rfl) rfl (by omega)) ?_
    rw [← ha2]
    refine mTo_tr (e_call hT hq_law (show aTab 365 647 = some (.invokevirtual 64, 3, 1, 274, 0, 2, 5, 12) from rfl) rfl ⟨by decide, Nat.le_of_ble_eq_true rfl⟩ hfs2 (Nat.le_of_ble_eq_true rfl) (Nat.le_of_ble_eq_true rfl) ⟨by decide, by decide⟩ p2) ?_
    refine mTo_tr (e_st hT hq_law (show aTab 365 650 = some (.pop, 1, 0, 0, 0, 0, 0, 0) from rfl) (fr' := (365, 651, clv, [])) (M' := _) rfl) ?_
    refine mTo_tr (e_st hT hq_law (show aTab 365 651 = some (.goto 1187, 3, 0, 0, 0, 0, 0, 0) from rfl) (fr' := (365, 1838, clv, [])) (M' := _) rfl) ?_
    exact mTo_rf
  exact hEnd_to go (hTail hT hn ⟨l0, l1, l2, ⟨x, l3, hx⟩, hb, t2, hR2⟩ he)
theorem hC_12 (hT : aTabOk) {n : Nat} {f : Nat → Int32} (hn : n ≤ 384) (h : hBoth 195 275 3 false) : hStep n f 654 := by
  intro e clv M hst he
  obtain ⟨l0, l1, l2, ⟨x, l3, hx⟩, hb, hM, hR⟩ := id hst
  have hx1 : (x + 1).toInt = e + 1 := by rw [i32_add (by rw [hx, show (1 : Int32).toInt = 1 from rfl]; omega) (by rw [hx, show (1 : Int32).toInt = 1 from rfl]; omega), hx, show (1 : Int32).toInt = 1 from rfl]
  obtain ⟨a1, ha1⟩ : ∃ a, a = f (x + 1).toInt.toNat := ⟨_, rfl⟩
  have hx2 : (x + 2).toInt = e + 2 := by rw [i32_add (by rw [hx, show (2 : Int32).toInt = 2 from rfl]; omega) (by rw [hx, show (2 : Int32).toInt = 2 from rfl]; omega), hx, show (2 : Int32).toInt = 2 from rfl]
  obtain ⟨a2, ha2⟩ : ∃ a, a = f (x + 2).toInt.toNat := ⟨_, rfl⟩
  have hx3 : (x + 3).toInt = e + 3 := by rw [i32_add (by rw [hx, show (3 : Int32).toInt = 3 from rfl]; omega) (by rw [hx, show (3 : Int32).toInt = 3 from rfl]; omega), hx, show (3 : Int32).toInt = 3 from rfl]
  obtain ⟨a3, ha3⟩ : ∃ a, a = f (x + 3).toInt.toNat := ⟨_, rfl⟩
  obtain ⟨K1, M1, K2, M2, r1, r2, p1, t1, p2, t2, hR2, heq⟩ := h M hM hR [a1, a2, a3] rfl
  obtain ⟨fs1, hfs1⟩ := ob_at hM (rfl : tTy 0 = some (.inr (11, _)))
  obtain ⟨fs2, hfs2⟩ := ob_at t1 (rfl : tTy 119 = some (.inr (12, _)))
  have go : mTo (some (n, f)) 150 (365, 654, clv, []) M (365, 1838, clv, []) M2 := by
    refine mTo_tr (e_al1 hT hq_law (show aTab 365 654 = some (.aload_n 1, 1, 0, 0, 0, 0, 0, 0) from rfl) rfl l1) ?_
    refine mTo_tr (e_al1 hT hq_law (show aTab 365 655 = some (.aload_n 0, 1, 0, 0, 0, 0, 0, 0) from rfl) rfl l0) ?_
    refine mTo_tr (e_il1 hT hq_law (show aTab 365 656 = some (.iload_n 3, 1, 0, 0, 0, 0, 0, 0) from rfl) rfl l3) ?_
    refine mTo_tr (e_st hT hq_law (show aTab 365 657 = some (.iconst 1, 1, 0, 0, 0, 0, 0, 0) from rfl) (fr' := (365, 658, clv, [.int 1, .int x, .ref 0, .ref 9])) (M' := _) rfl) ?_
    refine mTo_tr (e_st hT hq_law (show aTab 365 658 = some (.iadd, 1, 0, 0, 0, 0, 0, 0) from rfl) (fr' := (365, 659, clv, [.int (x + 1), .ref 0, .ref 9])) (M' := _) rfl) ?_
    refine mTo_tr (e_ald0 hT hq_law (show aTab 365 659 = some (.iaload, 1, 0, 0, 0, 0, 0, 0) from rfl) rfl (by omega)) ?_
    rw [← ha1]
    refine mTo_tr (e_al1 hT hq_law (show aTab 365 660 = some (.aload_n 0, 1, 0, 0, 0, 0, 0, 0) from rfl) rfl l0) ?_
    refine mTo_tr (e_il1 hT hq_law (show aTab 365 661 = some (.iload_n 3, 1, 0, 0, 0, 0, 0, 0) from rfl) rfl l3) ?_
    refine mTo_tr (e_st hT hq_law (show aTab 365 662 = some (.iconst 2, 1, 0, 0, 0, 0, 0, 0) from rfl) (fr' := (365, 663, clv, [.int 2, .int x, .ref 0, .int a1, .ref 9])) (M' := _) rfl) ?_
    refine mTo_tr (e_st hT hq_law (show aTab 365 663 = some (.iadd, 1, 0, 0, 0, 0, 0, 0) from rfl) (fr' := (365, 664, clv, [.int (x + 2), .ref 0, .int a1, .ref 9])) (M' := _) rfl) ?_
    refine mTo_tr (e_ald0 hT hq_law (show aTab 365 664 = some (.iaload, 1, 0, 0, 0, 0, 0, 0) from rfl) rfl (by omega)) ?_
    rw [← ha2]
    refine mTo_tr (e_al1 hT hq_law (show aTab 365 665 = some (.aload_n 0, 1, 0, 0, 0, 0, 0, 0) from rfl) rfl l0) ?_
    refine mTo_tr (e_il1 hT hq_law (show aTab 365 666 = some (.iload_n 3, 1, 0, 0, 0, 0, 0, 0) from rfl) rfl l3) ?_
    refine mTo_tr (e_st hT hq_law (show aTab 365 667 = some (.iconst 3, 1, 0, 0, 0, 0, 0, 0) from rfl) (fr' := (365, 668, clv, [.int 3, .int x, .ref 0, .int a2, .int a1, .ref 9])) (M' := _) rfl) ?_
    refine mTo_tr (e_st hT hq_law (show aTab 365 668 = some (.iadd, 1, 0, 0, 0, 0, 0, 0) from rfl) (fr' := (365, 669, clv, [.int (x + 3), .ref 0, .int a2, .int a1, .ref 9])) (M' := _) rfl) ?_
    refine mTo_tr (e_ald0 hT hq_law (show aTab 365 669 = some (.iaload, 1, 0, 0, 0, 0, 0, 0) from rfl) rfl (by omega)) ?_
    rw [← ha3]
    refine mTo_tr (e_call hT hq_law (show aTab 365 670 = some (.invokevirtual 65, 3, 1, 195, 0, 3, 4, 11) from rfl) rfl ⟨by decide, Nat.le_of_ble_eq_true rfl⟩ hfs1 (Nat.le_of_ble_eq_true rfl) (Nat.le_of_ble_eq_true rfl) ⟨by decide, by decide⟩ p1) ?_
    refine mTo_tr (e_st hT hq_law (show aTab 365 673 = some (.pop, 1, 0, 0, 0, 0, 0, 0) from rfl) (fr' := (365, 674, clv, [])) (M' := _) rfl) ?_
    refine mTo_tr (e_al1 hT hq_law (show aTab 365 674 = some (.aload_n 2, 1, 0, 0, 0, 0, 0, 0) from rfl) rfl l2) ?_
    refine mTo_tr (e_al1 hT hq_law (show aTab 365 675 = some (.aload_n 0, 1, 0, 0, 0, 0, 0, 0) from rfl) rfl l0) ?_
    refine mTo_tr (e_il1 hT hq_law (show aTab 365 676 = some (.iload_n 3, 1, 0, 0, 0, 0, 0, 0) from rfl) rfl l3) ?_
    refine mTo_tr (e_st hT hq_law (show aTab 365 677 = some (.iconst 1, 1, 0, 0, 0, 0, 0, 0) from rfl) (fr' := (365, 678, clv, [.int 1, .int x, .ref 0, .ref 128])) (M' := _) rfl) ?_
    refine mTo_tr (e_st hT hq_law (show aTab 365 678 = some (.iadd, 1, 0, 0, 0, 0, 0, 0) from rfl) (fr' := (365, 679, clv, [.int (x + 1), .ref 0, .ref 128])) (M' := _) rfl) ?_
    refine mTo_tr (e_ald0 hT hq_law (show aTab 365 679 = some (.iaload, 1, 0, 0, 0, 0, 0, 0) from rfl) rfl (by omega)) ?_
    rw [← ha1]
    refine mTo_tr (e_al1 hT hq_law (show aTab 365 680 = some (.aload_n 0, 1, 0, 0, 0, 0, 0, 0) from rfl) rfl l0) ?_
    refine mTo_tr (e_il1 hT hq_law (show aTab 365 681 = some (.iload_n 3, 1, 0, 0, 0, 0, 0, 0) from rfl) rfl l3) ?_
    refine mTo_tr (e_st hT hq_law (show aTab 365 682 = some (.iconst 2, 1, 0, 0, 0, 0, 0, 0) from rfl) (fr' := (365, 683, clv, [.int 2, .int x, .ref 0, .int a1, .ref 128])) (M' := _) rfl) ?_
    refine mTo_tr (e_st hT hq_law (show aTab 365 683 = some (.iadd, 1, 0, 0, 0, 0, 0, 0) from rfl) (fr' := (365, 684, clv, [.int (x + 2), .ref 0, .int a1, .ref 128])) (M' := _) rfl) ?_
    refine mTo_tr (e_ald0 hT hq_law (show aTab 365 684 = some (.iaload, 1, 0, 0, 0, 0, 0, 0) from rfl) rfl (by omega)) ?_
    rw [← ha2]
    refine mTo_tr (e_al1 hT hq_law (show aTab 365 685 = some (.aload_n 0, 1, 0, 0, 0, 0, 0, 0) from rfl) rfl l0) ?_
    refine mTo_tr (e_il1 hT hq_law (show aTab 365 686 = some (.iload_n 3, 1, 0, 0, 0, 0, 0, 0) from rfl) rfl l3) ?_
    refine mTo_tr (e_st hT hq_law (show aTab 365 687 = some (.iconst 3, 1, 0, 0, 0, 0, 0, 0) from rfl) (fr' := (365, 688, clv, [.int 3, .int x, .ref 0, .int a2, .int a1, .ref 128])) (M' := _) rfl) ?_
    refine mTo_tr (e_st hT hq_law (show aTab 365 688 = some (.iadd, 1, 0, 0, 0, 0, 0, 0) from rfl) (fr' := (365, 689, clv, [.int (x + 3), .ref 0, .int a2, .int a1, .ref 128])) (M' := _) rfl) ?_
    refine mTo_tr (e_ald0 hT hq_law (show aTab 365 689 = some (.iaload, 1, 0, 0, 0, 0, 0, 0) from rfl) rfl (by omega)) ?_
    rw [← ha3]
    refine mTo_tr (e_call hT hq_law (show aTab 365 690 = some (.invokevirtual 68, 3, 1, 275, 0, 3, 4, 12) from rfl) rfl ⟨by decide, Nat.le_of_ble_eq_true rfl⟩ hfs2 (Nat.le_of_ble_eq_true rfl) (Nat.le_of_ble_eq_true rfl) ⟨by decide, by decide⟩ p2) ?_
    refine mTo_tr (e_st hT hq_law (show aTab 365 693 = some (.pop, 1, 0, 0, 0, 0, 0, 0) from rfl) (fr' := (365, 694, clv, [])) (M' := _) rfl) ?_
    refine mTo_tr (e_st hT hq_law (show aTab 365 694 = some (.goto 1144, 3, 0, 0, 0, 0, 0, 0) from rfl) (fr' := (365, 1838, clv, [])) (M' := _) rfl) ?_
    exact mTo_rf
  exact hEnd_to go (hTail hT hn ⟨l0, l1, l2, ⟨x, l3, hx⟩, hb, t2, hR2⟩ he)
theorem hC_13 (hT : aTabOk) {n : Nat} {f : Nat → Int32} (hn : n ≤ 384) (h : hBoth 196 276 3 false) : hStep n f 697 := by
  intro e clv M hst he
  obtain ⟨l0, l1, l2, ⟨x, l3, hx⟩, hb, hM, hR⟩ := id hst
  have hx1 : (x + 1).toInt = e + 1 := by rw [i32_add (by rw [hx, show (1 : Int32).toInt = 1 from rfl]; omega) (by rw [hx, show (1 : Int32).toInt = 1 from rfl]; omega), hx, show (1 : Int32).toInt = 1 from rfl]
  obtain ⟨a1, ha1⟩ : ∃ a, a = f (x + 1).toInt.toNat := ⟨_, rfl⟩
  have hx2 : (x + 2).toInt = e + 2 := by rw [i32_add (by rw [hx, show (2 : Int32).toInt = 2 from rfl]; omega) (by rw [hx, show (2 : Int32).toInt = 2 from rfl]; omega), hx, show (2 : Int32).toInt = 2 from rfl]
  obtain ⟨a2, ha2⟩ : ∃ a, a = f (x + 2).toInt.toNat := ⟨_, rfl⟩
  have hx3 : (x + 3).toInt = e + 3 := by rw [i32_add (by rw [hx, show (3 : Int32).toInt = 3 from rfl]; omega) (by rw [hx, show (3 : Int32).toInt = 3 from rfl]; omega), hx, show (3 : Int32).toInt = 3 from rfl]
  obtain ⟨a3, ha3⟩ : ∃ a, a = f (x + 3).toInt.toNat := ⟨_, rfl⟩
  obtain ⟨K1, M1, K2, M2, r1, r2, p1, t1, p2, t2, hR2, heq⟩ := h M hM hR [a1, a2, a3] rfl
  obtain ⟨fs1, hfs1⟩ := ob_at hM (rfl : tTy 0 = some (.inr (11, _)))
  obtain ⟨fs2, hfs2⟩ := ob_at t1 (rfl : tTy 119 = some (.inr (12, _)))
  have go : mTo (some (n, f)) 150 (365, 697, clv, []) M (365, 1838, clv, []) M2 := by
    refine mTo_tr (e_al1 hT hq_law (show aTab 365 697 = some (.aload_n 1, 1, 0, 0, 0, 0, 0, 0) from rfl) rfl l1) ?_
    refine mTo_tr (e_al1 hT hq_law (show aTab 365 698 = some (.aload_n 0, 1, 0, 0, 0, 0, 0, 0) from rfl) rfl l0) ?_
    refine mTo_tr (e_il1 hT hq_law (show aTab 365 699 = some (.iload_n 3, 1, 0, 0, 0, 0, 0, 0) from rfl) rfl l3) ?_
    refine mTo_tr (e_st hT hq_law (show aTab 365 700 = some (.iconst 1, 1, 0, 0, 0, 0, 0, 0) from rfl) (fr' := (365, 701, clv, [.int 1, .int x, .ref 0, .ref 9])) (M' := _) rfl) ?_
    refine mTo_tr (e_st hT hq_law (show aTab 365 701 = some (.iadd, 1, 0, 0, 0, 0, 0, 0) from rfl) (fr' := (365, 702, clv, [.int (x + 1), .ref 0, .ref 9])) (M' := _) rfl) ?_
    refine mTo_tr (e_ald0 hT hq_law (show aTab 365 702 = some (.iaload, 1, 0, 0, 0, 0, 0, 0) from rfl) rfl (by omega)) ?_
    rw [← ha1]
    refine mTo_tr (e_al1 hT hq_law (show aTab 365 703 = some (.aload_n 0, 1, 0, 0, 0, 0, 0, 0) from rfl) rfl l0) ?_
    refine mTo_tr (e_il1 hT hq_law (show aTab 365 704 = some (.iload_n 3, 1, 0, 0, 0, 0, 0, 0) from rfl) rfl l3) ?_
    refine mTo_tr (e_st hT hq_law (show aTab 365 705 = some (.iconst 2, 1, 0, 0, 0, 0, 0, 0) from rfl) (fr' := (365, 706, clv, [.int 2, .int x, .ref 0, .int a1, .ref 9])) (M' := _) rfl) ?_
    refine mTo_tr (e_st hT hq_law (show aTab 365 706 = some (.iadd, 1, 0, 0, 0, 0, 0, 0) from rfl) (fr' := (365, 707, clv, [.int (x + 2), .ref 0, .int a1, .ref 9])) (M' := _) rfl) ?_
    refine mTo_tr (e_ald0 hT hq_law (show aTab 365 707 = some (.iaload, 1, 0, 0, 0, 0, 0, 0) from rfl) rfl (by omega)) ?_
    rw [← ha2]
    refine mTo_tr (e_al1 hT hq_law (show aTab 365 708 = some (.aload_n 0, 1, 0, 0, 0, 0, 0, 0) from rfl) rfl l0) ?_
    refine mTo_tr (e_il1 hT hq_law (show aTab 365 709 = some (.iload_n 3, 1, 0, 0, 0, 0, 0, 0) from rfl) rfl l3) ?_
    refine mTo_tr (e_st hT hq_law (show aTab 365 710 = some (.iconst 3, 1, 0, 0, 0, 0, 0, 0) from rfl) (fr' := (365, 711, clv, [.int 3, .int x, .ref 0, .int a2, .int a1, .ref 9])) (M' := _) rfl) ?_
    refine mTo_tr (e_st hT hq_law (show aTab 365 711 = some (.iadd, 1, 0, 0, 0, 0, 0, 0) from rfl) (fr' := (365, 712, clv, [.int (x + 3), .ref 0, .int a2, .int a1, .ref 9])) (M' := _) rfl) ?_
    refine mTo_tr (e_ald0 hT hq_law (show aTab 365 712 = some (.iaload, 1, 0, 0, 0, 0, 0, 0) from rfl) rfl (by omega)) ?_
    rw [← ha3]
    refine mTo_tr (e_call hT hq_law (show aTab 365 713 = some (.invokevirtual 69, 3, 1, 196, 0, 3, 4, 11) from rfl) rfl ⟨by decide, Nat.le_of_ble_eq_true rfl⟩ hfs1 (Nat.le_of_ble_eq_true rfl) (Nat.le_of_ble_eq_true rfl) ⟨by decide, by decide⟩ p1) ?_
    refine mTo_tr (e_st hT hq_law (show aTab 365 716 = some (.pop, 1, 0, 0, 0, 0, 0, 0) from rfl) (fr' := (365, 717, clv, [])) (M' := _) rfl) ?_
    refine mTo_tr (e_al1 hT hq_law (show aTab 365 717 = some (.aload_n 2, 1, 0, 0, 0, 0, 0, 0) from rfl) rfl l2) ?_
    refine mTo_tr (e_al1 hT hq_law (show aTab 365 718 = some (.aload_n 0, 1, 0, 0, 0, 0, 0, 0) from rfl) rfl l0) ?_
    refine mTo_tr (e_il1 hT hq_law (show aTab 365 719 = some (.iload_n 3, 1, 0, 0, 0, 0, 0, 0) from rfl) rfl l3) ?_
    refine mTo_tr (e_st hT hq_law (show aTab 365 720 = some (.iconst 1, 1, 0, 0, 0, 0, 0, 0) from rfl) (fr' := (365, 721, clv, [.int 1, .int x, .ref 0, .ref 128])) (M' := _) rfl) ?_
    refine mTo_tr (e_st hT hq_law (show aTab 365 721 = some (.iadd, 1, 0, 0, 0, 0, 0, 0) from rfl) (fr' := (365, 722, clv, [.int (x + 1), .ref 0, .ref 128])) (M' := _) rfl) ?_
    refine mTo_tr (e_ald0 hT hq_law (show aTab 365 722 = some (.iaload, 1, 0, 0, 0, 0, 0, 0) from rfl) rfl (by omega)) ?_
    rw [← ha1]
    refine mTo_tr (e_al1 hT hq_law (show aTab 365 723 = some (.aload_n 0, 1, 0, 0, 0, 0, 0, 0) from rfl) rfl l0) ?_
    refine mTo_tr (e_il1 hT hq_law (show aTab 365 724 = some (.iload_n 3, 1, 0, 0, 0, 0, 0, 0) from rfl) rfl l3) ?_
    refine mTo_tr (e_st hT hq_law (show aTab 365 725 = some (.iconst 2, 1, 0, 0, 0, 0, 0, 0) from rfl) (fr' := (365, 726, clv, [.int 2, .int x, .ref 0, .int a1, .ref 128])) (M' := _) rfl) ?_
    refine mTo_tr (e_st hT hq_law (show aTab 365 726 = some (.iadd, 1, 0, 0, 0, 0, 0, 0) from rfl) (fr' := (365, 727, clv, [.int (x + 2), .ref 0, .int a1, .ref 128])) (M' := _) rfl) ?_
    refine mTo_tr (e_ald0 hT hq_law (show aTab 365 727 = some (.iaload, 1, 0, 0, 0, 0, 0, 0) from rfl) rfl (by omega)) ?_
    rw [← ha2]
    refine mTo_tr (e_al1 hT hq_law (show aTab 365 728 = some (.aload_n 0, 1, 0, 0, 0, 0, 0, 0) from rfl) rfl l0) ?_
    refine mTo_tr (e_il1 hT hq_law (show aTab 365 729 = some (.iload_n 3, 1, 0, 0, 0, 0, 0, 0) from rfl) rfl l3) ?_
    refine mTo_tr (e_st hT hq_law (show aTab 365 730 = some (.iconst 3, 1, 0, 0, 0, 0, 0, 0) from rfl) (fr' := (365, 731, clv, [.int 3, .int x, .ref 0, .int a2, .int a1, .ref 128])) (M' := _) rfl) ?_
    refine mTo_tr (e_st hT hq_law (show aTab 365 731 = some (.iadd, 1, 0, 0, 0, 0, 0, 0) from rfl) (fr' := (365, 732, clv, [.int (x + 3), .ref 0, .int a2, .int a1, .ref 128])) (M' := _) rfl) ?_
    refine mTo_tr (e_ald0 hT hq_law (show aTab 365 732 = some (.iaload, 1, 0, 0, 0, 0, 0, 0) from rfl) rfl (by omega)) ?_
    rw [← ha3]
    refine mTo_tr (e_call hT hq_law (show aTab 365 733 = some (.invokevirtual 72, 3, 1, 276, 0, 3, 5, 12) from rfl) rfl ⟨by decide, Nat.le_of_ble_eq_true rfl⟩ hfs2 (Nat.le_of_ble_eq_true rfl) (Nat.le_of_ble_eq_true rfl) ⟨by decide, by decide⟩ p2) ?_
    refine mTo_tr (e_st hT hq_law (show aTab 365 736 = some (.pop, 1, 0, 0, 0, 0, 0, 0) from rfl) (fr' := (365, 737, clv, [])) (M' := _) rfl) ?_
    refine mTo_tr (e_st hT hq_law (show aTab 365 737 = some (.goto 1101, 3, 0, 0, 0, 0, 0, 0) from rfl) (fr' := (365, 1838, clv, [])) (M' := _) rfl) ?_
    exact mTo_rf
  exact hEnd_to go (hTail hT hn ⟨l0, l1, l2, ⟨x, l3, hx⟩, hb, t2, hR2⟩ he)
theorem hC_14 (hT : aTabOk) {n : Nat} {f : Nat → Int32} (hn : n ≤ 384) (h : hBoth 197 278 2 false) : hStep n f 740 := by
  intro e clv M hst he
  obtain ⟨l0, l1, l2, ⟨x, l3, hx⟩, hb, hM, hR⟩ := id hst
  have hx1 : (x + 1).toInt = e + 1 := by rw [i32_add (by rw [hx, show (1 : Int32).toInt = 1 from rfl]; omega) (by rw [hx, show (1 : Int32).toInt = 1 from rfl]; omega), hx, show (1 : Int32).toInt = 1 from rfl]
  obtain ⟨a1, ha1⟩ : ∃ a, a = f (x + 1).toInt.toNat := ⟨_, rfl⟩
  have hx2 : (x + 2).toInt = e + 2 := by rw [i32_add (by rw [hx, show (2 : Int32).toInt = 2 from rfl]; omega) (by rw [hx, show (2 : Int32).toInt = 2 from rfl]; omega), hx, show (2 : Int32).toInt = 2 from rfl]
  obtain ⟨a2, ha2⟩ : ∃ a, a = f (x + 2).toInt.toNat := ⟨_, rfl⟩
  obtain ⟨K1, M1, K2, M2, r1, r2, p1, t1, p2, t2, hR2, heq⟩ := h M hM hR [a1, a2] rfl
  obtain ⟨fs1, hfs1⟩ := ob_at hM (rfl : tTy 0 = some (.inr (11, _)))
  obtain ⟨fs2, hfs2⟩ := ob_at t1 (rfl : tTy 119 = some (.inr (12, _)))
  have go : mTo (some (n, f)) 150 (365, 740, clv, []) M (365, 1838, clv, []) M2 := by
    refine mTo_tr (e_al1 hT hq_law (show aTab 365 740 = some (.aload_n 1, 1, 0, 0, 0, 0, 0, 0) from rfl) rfl l1) ?_
    refine mTo_tr (e_al1 hT hq_law (show aTab 365 741 = some (.aload_n 0, 1, 0, 0, 0, 0, 0, 0) from rfl) rfl l0) ?_
    refine mTo_tr (e_il1 hT hq_law (show aTab 365 742 = some (.iload_n 3, 1, 0, 0, 0, 0, 0, 0) from rfl) rfl l3) ?_
    refine mTo_tr (e_st hT hq_law (show aTab 365 743 = some (.iconst 1, 1, 0, 0, 0, 0, 0, 0) from rfl) (fr' := (365, 744, clv, [.int 1, .int x, .ref 0, .ref 9])) (M' := _) rfl) ?_
    refine mTo_tr (e_st hT hq_law (show aTab 365 744 = some (.iadd, 1, 0, 0, 0, 0, 0, 0) from rfl) (fr' := (365, 745, clv, [.int (x + 1), .ref 0, .ref 9])) (M' := _) rfl) ?_
    refine mTo_tr (e_ald0 hT hq_law (show aTab 365 745 = some (.iaload, 1, 0, 0, 0, 0, 0, 0) from rfl) rfl (by omega)) ?_
    rw [← ha1]
    refine mTo_tr (e_al1 hT hq_law (show aTab 365 746 = some (.aload_n 0, 1, 0, 0, 0, 0, 0, 0) from rfl) rfl l0) ?_
    refine mTo_tr (e_il1 hT hq_law (show aTab 365 747 = some (.iload_n 3, 1, 0, 0, 0, 0, 0, 0) from rfl) rfl l3) ?_
    refine mTo_tr (e_st hT hq_law (show aTab 365 748 = some (.iconst 2, 1, 0, 0, 0, 0, 0, 0) from rfl) (fr' := (365, 749, clv, [.int 2, .int x, .ref 0, .int a1, .ref 9])) (M' := _) rfl) ?_
    refine mTo_tr (e_st hT hq_law (show aTab 365 749 = some (.iadd, 1, 0, 0, 0, 0, 0, 0) from rfl) (fr' := (365, 750, clv, [.int (x + 2), .ref 0, .int a1, .ref 9])) (M' := _) rfl) ?_
    refine mTo_tr (e_ald0 hT hq_law (show aTab 365 750 = some (.iaload, 1, 0, 0, 0, 0, 0, 0) from rfl) rfl (by omega)) ?_
    rw [← ha2]
    refine mTo_tr (e_call hT hq_law (show aTab 365 751 = some (.invokevirtual 73, 3, 1, 197, 0, 2, 3, 11) from rfl) rfl ⟨by decide, Nat.le_of_ble_eq_true rfl⟩ hfs1 (Nat.le_of_ble_eq_true rfl) (Nat.le_of_ble_eq_true rfl) ⟨by decide, by decide⟩ p1) ?_
    refine mTo_tr (e_st hT hq_law (show aTab 365 754 = some (.pop, 1, 0, 0, 0, 0, 0, 0) from rfl) (fr' := (365, 755, clv, [])) (M' := _) rfl) ?_
    refine mTo_tr (e_al1 hT hq_law (show aTab 365 755 = some (.aload_n 2, 1, 0, 0, 0, 0, 0, 0) from rfl) rfl l2) ?_
    refine mTo_tr (e_al1 hT hq_law (show aTab 365 756 = some (.aload_n 0, 1, 0, 0, 0, 0, 0, 0) from rfl) rfl l0) ?_
    refine mTo_tr (e_il1 hT hq_law (show aTab 365 757 = some (.iload_n 3, 1, 0, 0, 0, 0, 0, 0) from rfl) rfl l3) ?_
    refine mTo_tr (e_st hT hq_law (show aTab 365 758 = some (.iconst 1, 1, 0, 0, 0, 0, 0, 0) from rfl) (fr' := (365, 759, clv, [.int 1, .int x, .ref 0, .ref 128])) (M' := _) rfl) ?_
    refine mTo_tr (e_st hT hq_law (show aTab 365 759 = some (.iadd, 1, 0, 0, 0, 0, 0, 0) from rfl) (fr' := (365, 760, clv, [.int (x + 1), .ref 0, .ref 128])) (M' := _) rfl) ?_
    refine mTo_tr (e_ald0 hT hq_law (show aTab 365 760 = some (.iaload, 1, 0, 0, 0, 0, 0, 0) from rfl) rfl (by omega)) ?_
    rw [← ha1]
    refine mTo_tr (e_al1 hT hq_law (show aTab 365 761 = some (.aload_n 0, 1, 0, 0, 0, 0, 0, 0) from rfl) rfl l0) ?_
    refine mTo_tr (e_il1 hT hq_law (show aTab 365 762 = some (.iload_n 3, 1, 0, 0, 0, 0, 0, 0) from rfl) rfl l3) ?_
    refine mTo_tr (e_st hT hq_law (show aTab 365 763 = some (.iconst 2, 1, 0, 0, 0, 0, 0, 0) from rfl) (fr' := (365, 764, clv, [.int 2, .int x, .ref 0, .int a1, .ref 128])) (M' := _) rfl) ?_
    refine mTo_tr (e_st hT hq_law (show aTab 365 764 = some (.iadd, 1, 0, 0, 0, 0, 0, 0) from rfl) (fr' := (365, 765, clv, [.int (x + 2), .ref 0, .int a1, .ref 128])) (M' := _) rfl) ?_
    refine mTo_tr (e_ald0 hT hq_law (show aTab 365 765 = some (.iaload, 1, 0, 0, 0, 0, 0, 0) from rfl) rfl (by omega)) ?_
    rw [← ha2]
    refine mTo_tr (e_call hT hq_law (show aTab 365 766 = some (.invokevirtual 76, 3, 1, 278, 0, 2, 3, 12) from rfl) rfl ⟨by decide, Nat.le_of_ble_eq_true rfl⟩ hfs2 (Nat.le_of_ble_eq_true rfl) (Nat.le_of_ble_eq_true rfl) ⟨by decide, by decide⟩ p2) ?_
    refine mTo_tr (e_st hT hq_law (show aTab 365 769 = some (.pop, 1, 0, 0, 0, 0, 0, 0) from rfl) (fr' := (365, 770, clv, [])) (M' := _) rfl) ?_
    refine mTo_tr (e_st hT hq_law (show aTab 365 770 = some (.goto 1068, 3, 0, 0, 0, 0, 0, 0) from rfl) (fr' := (365, 1838, clv, [])) (M' := _) rfl) ?_
    exact mTo_rf
  exact hEnd_to go (hTail hT hn ⟨l0, l1, l2, ⟨x, l3, hx⟩, hb, t2, hR2⟩ he)
theorem hC_15 (hT : aTabOk) {n : Nat} {f : Nat → Int32} (hn : n ≤ 384) (h : hBoth 198 282 2 false) : hStep n f 773 := by
  intro e clv M hst he
  obtain ⟨l0, l1, l2, ⟨x, l3, hx⟩, hb, hM, hR⟩ := id hst
  have hx1 : (x + 1).toInt = e + 1 := by rw [i32_add (by rw [hx, show (1 : Int32).toInt = 1 from rfl]; omega) (by rw [hx, show (1 : Int32).toInt = 1 from rfl]; omega), hx, show (1 : Int32).toInt = 1 from rfl]
  obtain ⟨a1, ha1⟩ : ∃ a, a = f (x + 1).toInt.toNat := ⟨_, rfl⟩
  have hx2 : (x + 2).toInt = e + 2 := by rw [i32_add (by rw [hx, show (2 : Int32).toInt = 2 from rfl]; omega) (by rw [hx, show (2 : Int32).toInt = 2 from rfl]; omega), hx, show (2 : Int32).toInt = 2 from rfl]
  obtain ⟨a2, ha2⟩ : ∃ a, a = f (x + 2).toInt.toNat := ⟨_, rfl⟩
  obtain ⟨K1, M1, K2, M2, r1, r2, p1, t1, p2, t2, hR2, heq⟩ := h M hM hR [a1, a2] rfl
  obtain ⟨fs1, hfs1⟩ := ob_at hM (rfl : tTy 0 = some (.inr (11, _)))
  obtain ⟨fs2, hfs2⟩ := ob_at t1 (rfl : tTy 119 = some (.inr (12, _)))
  have go : mTo (some (n, f)) 150 (365, 773, clv, []) M (365, 1838, clv, []) M2 := by
    refine mTo_tr (e_al1 hT hq_law (show aTab 365 773 = some (.aload_n 1, 1, 0, 0, 0, 0, 0, 0) from rfl) rfl l1) ?_
    refine mTo_tr (e_al1 hT hq_law (show aTab 365 774 = some (.aload_n 0, 1, 0, 0, 0, 0, 0, 0) from rfl) rfl l0) ?_
    refine mTo_tr (e_il1 hT hq_law (show aTab 365 775 = some (.iload_n 3, 1, 0, 0, 0, 0, 0, 0) from rfl) rfl l3) ?_
    refine mTo_tr (e_st hT hq_law (show aTab 365 776 = some (.iconst 1, 1, 0, 0, 0, 0, 0, 0) from rfl) (fr' := (365, 777, clv, [.int 1, .int x, .ref 0, .ref 9])) (M' := _) rfl) ?_
    refine mTo_tr (e_st hT hq_law (show aTab 365 777 = some (.iadd, 1, 0, 0, 0, 0, 0, 0) from rfl) (fr' := (365, 778, clv, [.int (x + 1), .ref 0, .ref 9])) (M' := _) rfl) ?_
    refine mTo_tr (e_ald0 hT hq_law (show aTab 365 778 = some (.iaload, 1, 0, 0, 0, 0, 0, 0) from rfl) rfl (by omega)) ?_
    rw [← ha1]
    refine mTo_tr (e_al1 hT hq_law (show aTab 365 779 = some (.aload_n 0, 1, 0, 0, 0, 0, 0, 0) from rfl) rfl l0) ?_
    refine mTo_tr (e_il1 hT hq_law (show aTab 365 780 = some (.iload_n 3, 1, 0, 0, 0, 0, 0, 0) from rfl) rfl l3) ?_
    refine mTo_tr (e_st hT hq_law (show aTab 365 781 = some (.iconst 2, 1, 0, 0, 0, 0, 0, 0) from rfl) (fr' := (365, 782, clv, [.int 2, .int x, .ref 0, .int a1, .ref 9])) (M' := _) rfl) ?_
    refine mTo_tr (e_st hT hq_law (show aTab 365 782 = some (.iadd, 1, 0, 0, 0, 0, 0, 0) from rfl) (fr' := (365, 783, clv, [.int (x + 2), .ref 0, .int a1, .ref 9])) (M' := _) rfl) ?_
    refine mTo_tr (e_ald0 hT hq_law (show aTab 365 783 = some (.iaload, 1, 0, 0, 0, 0, 0, 0) from rfl) rfl (by omega)) ?_
    rw [← ha2]
    refine mTo_tr (e_call hT hq_law (show aTab 365 784 = some (.invokevirtual 77, 3, 1, 198, 0, 2, 3, 11) from rfl) rfl ⟨by decide, Nat.le_of_ble_eq_true rfl⟩ hfs1 (Nat.le_of_ble_eq_true rfl) (Nat.le_of_ble_eq_true rfl) ⟨by decide, by decide⟩ p1) ?_
    refine mTo_tr (e_st hT hq_law (show aTab 365 787 = some (.pop, 1, 0, 0, 0, 0, 0, 0) from rfl) (fr' := (365, 788, clv, [])) (M' := _) rfl) ?_
    refine mTo_tr (e_al1 hT hq_law (show aTab 365 788 = some (.aload_n 2, 1, 0, 0, 0, 0, 0, 0) from rfl) rfl l2) ?_
    refine mTo_tr (e_al1 hT hq_law (show aTab 365 789 = some (.aload_n 0, 1, 0, 0, 0, 0, 0, 0) from rfl) rfl l0) ?_
    refine mTo_tr (e_il1 hT hq_law (show aTab 365 790 = some (.iload_n 3, 1, 0, 0, 0, 0, 0, 0) from rfl) rfl l3) ?_
    refine mTo_tr (e_st hT hq_law (show aTab 365 791 = some (.iconst 1, 1, 0, 0, 0, 0, 0, 0) from rfl) (fr' := (365, 792, clv, [.int 1, .int x, .ref 0, .ref 128])) (M' := _) rfl) ?_
    refine mTo_tr (e_st hT hq_law (show aTab 365 792 = some (.iadd, 1, 0, 0, 0, 0, 0, 0) from rfl) (fr' := (365, 793, clv, [.int (x + 1), .ref 0, .ref 128])) (M' := _) rfl) ?_
    refine mTo_tr (e_ald0 hT hq_law (show aTab 365 793 = some (.iaload, 1, 0, 0, 0, 0, 0, 0) from rfl) rfl (by omega)) ?_
    rw [← ha1]
    refine mTo_tr (e_al1 hT hq_law (show aTab 365 794 = some (.aload_n 0, 1, 0, 0, 0, 0, 0, 0) from rfl) rfl l0) ?_
    refine mTo_tr (e_il1 hT hq_law (show aTab 365 795 = some (.iload_n 3, 1, 0, 0, 0, 0, 0, 0) from rfl) rfl l3) ?_
    refine mTo_tr (e_st hT hq_law (show aTab 365 796 = some (.iconst 2, 1, 0, 0, 0, 0, 0, 0) from rfl) (fr' := (365, 797, clv, [.int 2, .int x, .ref 0, .int a1, .ref 128])) (M' := _) rfl) ?_
    refine mTo_tr (e_st hT hq_law (show aTab 365 797 = some (.iadd, 1, 0, 0, 0, 0, 0, 0) from rfl) (fr' := (365, 798, clv, [.int (x + 2), .ref 0, .int a1, .ref 128])) (M' := _) rfl) ?_
    refine mTo_tr (e_ald0 hT hq_law (show aTab 365 798 = some (.iaload, 1, 0, 0, 0, 0, 0, 0) from rfl) rfl (by omega)) ?_
    rw [← ha2]
    refine mTo_tr (e_call hT hq_law (show aTab 365 799 = some (.invokevirtual 80, 3, 1, 282, 0, 2, 4, 12) from rfl) rfl ⟨by decide, Nat.le_of_ble_eq_true rfl⟩ hfs2 (Nat.le_of_ble_eq_true rfl) (Nat.le_of_ble_eq_true rfl) ⟨by decide, by decide⟩ p2) ?_
    refine mTo_tr (e_st hT hq_law (show aTab 365 802 = some (.pop, 1, 0, 0, 0, 0, 0, 0) from rfl) (fr' := (365, 803, clv, [])) (M' := _) rfl) ?_
    refine mTo_tr (e_st hT hq_law (show aTab 365 803 = some (.goto 1035, 3, 0, 0, 0, 0, 0, 0) from rfl) (fr' := (365, 1838, clv, [])) (M' := _) rfl) ?_
    exact mTo_rf
  exact hEnd_to go (hTail hT hn ⟨l0, l1, l2, ⟨x, l3, hx⟩, hb, t2, hR2⟩ he)
theorem hC_16 (hT : aTabOk) {n : Nat} {f : Nat → Int32} (hn : n ≤ 384) (h : hBoth 199 288 1 false) : hStep n f 806 := by
  intro e clv M hst he
  obtain ⟨l0, l1, l2, ⟨x, l3, hx⟩, hb, hM, hR⟩ := id hst
  have hx1 : (x + 1).toInt = e + 1 := by rw [i32_add (by rw [hx, show (1 : Int32).toInt = 1 from rfl]; omega) (by rw [hx, show (1 : Int32).toInt = 1 from rfl]; omega), hx, show (1 : Int32).toInt = 1 from rfl]
  obtain ⟨a1, ha1⟩ : ∃ a, a = f (x + 1).toInt.toNat := ⟨_, rfl⟩
  obtain ⟨K1, M1, K2, M2, r1, r2, p1, t1, p2, t2, hR2, heq⟩ := h M hM hR [a1] rfl
  obtain ⟨fs1, hfs1⟩ := ob_at hM (rfl : tTy 0 = some (.inr (11, _)))
  obtain ⟨fs2, hfs2⟩ := ob_at t1 (rfl : tTy 119 = some (.inr (12, _)))
  have go : mTo (some (n, f)) 150 (365, 806, clv, []) M (365, 1838, clv, []) M2 := by
    refine mTo_tr (e_al1 hT hq_law (show aTab 365 806 = some (.aload_n 1, 1, 0, 0, 0, 0, 0, 0) from rfl) rfl l1) ?_
    refine mTo_tr (e_al1 hT hq_law (show aTab 365 807 = some (.aload_n 0, 1, 0, 0, 0, 0, 0, 0) from rfl) rfl l0) ?_
    refine mTo_tr (e_il1 hT hq_law (show aTab 365 808 = some (.iload_n 3, 1, 0, 0, 0, 0, 0, 0) from rfl) rfl l3) ?_
    refine mTo_tr (e_st hT hq_law (show aTab 365 809 = some (.iconst 1, 1, 0, 0, 0, 0, 0, 0) from rfl) (fr' := (365, 810, clv, [.int 1, .int x, .ref 0, .ref 9])) (M' := _) rfl) ?_
    refine mTo_tr (e_st hT hq_law (show aTab 365 810 = some (.iadd, 1, 0, 0, 0, 0, 0, 0) from rfl) (fr' := (365, 811, clv, [.int (x + 1), .ref 0, .ref 9])) (M' := _) rfl) ?_
    refine mTo_tr (e_ald0 hT hq_law (show aTab 365 811 = some (.iaload, 1, 0, 0, 0, 0, 0, 0) from rfl) rfl (by omega)) ?_
    rw [← ha1]
    refine mTo_tr (e_call hT hq_law (show aTab 365 812 = some (.invokevirtual 81, 3, 1, 199, 0, 1, 2, 11) from rfl) rfl ⟨by decide, Nat.le_of_ble_eq_true rfl⟩ hfs1 (Nat.le_of_ble_eq_true rfl) (Nat.le_of_ble_eq_true rfl) ⟨by decide, by decide⟩ p1) ?_
    refine mTo_tr (e_st hT hq_law (show aTab 365 815 = some (.pop, 1, 0, 0, 0, 0, 0, 0) from rfl) (fr' := (365, 816, clv, [])) (M' := _) rfl) ?_
    refine mTo_tr (e_al1 hT hq_law (show aTab 365 816 = some (.aload_n 2, 1, 0, 0, 0, 0, 0, 0) from rfl) rfl l2) ?_
    refine mTo_tr (e_al1 hT hq_law (show aTab 365 817 = some (.aload_n 0, 1, 0, 0, 0, 0, 0, 0) from rfl) rfl l0) ?_
    refine mTo_tr (e_il1 hT hq_law (show aTab 365 818 = some (.iload_n 3, 1, 0, 0, 0, 0, 0, 0) from rfl) rfl l3) ?_
    refine mTo_tr (e_st hT hq_law (show aTab 365 819 = some (.iconst 1, 1, 0, 0, 0, 0, 0, 0) from rfl) (fr' := (365, 820, clv, [.int 1, .int x, .ref 0, .ref 128])) (M' := _) rfl) ?_
    refine mTo_tr (e_st hT hq_law (show aTab 365 820 = some (.iadd, 1, 0, 0, 0, 0, 0, 0) from rfl) (fr' := (365, 821, clv, [.int (x + 1), .ref 0, .ref 128])) (M' := _) rfl) ?_
    refine mTo_tr (e_ald0 hT hq_law (show aTab 365 821 = some (.iaload, 1, 0, 0, 0, 0, 0, 0) from rfl) rfl (by omega)) ?_
    rw [← ha1]
    refine mTo_tr (e_call hT hq_law (show aTab 365 822 = some (.invokevirtual 84, 3, 1, 288, 0, 1, 5, 12) from rfl) rfl ⟨by decide, Nat.le_of_ble_eq_true rfl⟩ hfs2 (Nat.le_of_ble_eq_true rfl) (Nat.le_of_ble_eq_true rfl) ⟨by decide, by decide⟩ p2) ?_
    refine mTo_tr (e_st hT hq_law (show aTab 365 825 = some (.pop, 1, 0, 0, 0, 0, 0, 0) from rfl) (fr' := (365, 826, clv, [])) (M' := _) rfl) ?_
    refine mTo_tr (e_st hT hq_law (show aTab 365 826 = some (.goto 1012, 3, 0, 0, 0, 0, 0, 0) from rfl) (fr' := (365, 1838, clv, [])) (M' := _) rfl) ?_
    exact mTo_rf
  exact hEnd_to go (hTail hT hn ⟨l0, l1, l2, ⟨x, l3, hx⟩, hb, t2, hR2⟩ he)
theorem hC_17 (hT : aTabOk) {n : Nat} {f : Nat → Int32} (hn : n ≤ 384) (h : hBoth 200 289 1 false) : hStep n f 829 := by
  intro e clv M hst he
  obtain ⟨l0, l1, l2, ⟨x, l3, hx⟩, hb, hM, hR⟩ := id hst
  have hx1 : (x + 1).toInt = e + 1 := by rw [i32_add (by rw [hx, show (1 : Int32).toInt = 1 from rfl]; omega) (by rw [hx, show (1 : Int32).toInt = 1 from rfl]; omega), hx, show (1 : Int32).toInt = 1 from rfl]
  obtain ⟨a1, ha1⟩ : ∃ a, a = f (x + 1).toInt.toNat := ⟨_, rfl⟩
  obtain ⟨K1, M1, K2, M2, r1, r2, p1, t1, p2, t2, hR2, heq⟩ := h M hM hR [a1] rfl
  obtain ⟨fs1, hfs1⟩ := ob_at hM (rfl : tTy 0 = some (.inr (11, _)))
  obtain ⟨fs2, hfs2⟩ := ob_at t1 (rfl : tTy 119 = some (.inr (12, _)))
  have go : mTo (some (n, f)) 150 (365, 829, clv, []) M (365, 1838, clv, []) M2 := by
    refine mTo_tr (e_al1 hT hq_law (show aTab 365 829 = some (.aload_n 1, 1, 0, 0, 0, 0, 0, 0) from rfl) rfl l1) ?_
    refine mTo_tr (e_al1 hT hq_law (show aTab 365 830 = some (.aload_n 0, 1, 0, 0, 0, 0, 0, 0) from rfl) rfl l0) ?_
    refine mTo_tr (e_il1 hT hq_law (show aTab 365 831 = some (.iload_n 3, 1, 0, 0, 0, 0, 0, 0) from rfl) rfl l3) ?_
    refine mTo_tr (e_st hT hq_law (show aTab 365 832 = some (.iconst 1, 1, 0, 0, 0, 0, 0, 0) from rfl) (fr' := (365, 833, clv, [.int 1, .int x, .ref 0, .ref 9])) (M' := _) rfl) ?_
    refine mTo_tr (e_st hT hq_law (show aTab 365 833 = some (.iadd, 1, 0, 0, 0, 0, 0, 0) from rfl) (fr' := (365, 834, clv, [.int (x + 1), .ref 0, .ref 9])) (M' := _) rfl) ?_
    refine mTo_tr (e_ald0 hT hq_law (show aTab 365 834 = some (.iaload, 1, 0, 0, 0, 0, 0, 0) from rfl) rfl (by omega)) ?_
    rw [← ha1]
    refine mTo_tr (e_call hT hq_law (show aTab 365 835 = some (.invokevirtual 85, 3, 1, 200, 0, 1, 2, 11) from rfl) rfl ⟨by decide, Nat.le_of_ble_eq_true rfl⟩ hfs1 (Nat.le_of_ble_eq_true rfl) (Nat.le_of_ble_eq_true rfl) ⟨by decide, by decide⟩ p1) ?_
    refine mTo_tr (e_st hT hq_law (show aTab 365 838 = some (.pop, 1, 0, 0, 0, 0, 0, 0) from rfl) (fr' := (365, 839, clv, [])) (M' := _) rfl) ?_
    refine mTo_tr (e_al1 hT hq_law (show aTab 365 839 = some (.aload_n 2, 1, 0, 0, 0, 0, 0, 0) from rfl) rfl l2) ?_
    refine mTo_tr (e_al1 hT hq_law (show aTab 365 840 = some (.aload_n 0, 1, 0, 0, 0, 0, 0, 0) from rfl) rfl l0) ?_
    refine mTo_tr (e_il1 hT hq_law (show aTab 365 841 = some (.iload_n 3, 1, 0, 0, 0, 0, 0, 0) from rfl) rfl l3) ?_
    refine mTo_tr (e_st hT hq_law (show aTab 365 842 = some (.iconst 1, 1, 0, 0, 0, 0, 0, 0) from rfl) (fr' := (365, 843, clv, [.int 1, .int x, .ref 0, .ref 128])) (M' := _) rfl) ?_
    refine mTo_tr (e_st hT hq_law (show aTab 365 843 = some (.iadd, 1, 0, 0, 0, 0, 0, 0) from rfl) (fr' := (365, 844, clv, [.int (x + 1), .ref 0, .ref 128])) (M' := _) rfl) ?_
    refine mTo_tr (e_ald0 hT hq_law (show aTab 365 844 = some (.iaload, 1, 0, 0, 0, 0, 0, 0) from rfl) rfl (by omega)) ?_
    rw [← ha1]
    refine mTo_tr (e_call hT hq_law (show aTab 365 845 = some (.invokevirtual 88, 3, 1, 289, 0, 1, 7, 12) from rfl) rfl ⟨by decide, Nat.le_of_ble_eq_true rfl⟩ hfs2 (Nat.le_of_ble_eq_true rfl) (Nat.le_of_ble_eq_true rfl) ⟨by decide, by decide⟩ p2) ?_
    refine mTo_tr (e_st hT hq_law (show aTab 365 848 = some (.pop, 1, 0, 0, 0, 0, 0, 0) from rfl) (fr' := (365, 849, clv, [])) (M' := _) rfl) ?_
    refine mTo_tr (e_st hT hq_law (show aTab 365 849 = some (.goto 989, 3, 0, 0, 0, 0, 0, 0) from rfl) (fr' := (365, 1838, clv, [])) (M' := _) rfl) ?_
    exact mTo_rf
  exact hEnd_to go (hTail hT hn ⟨l0, l1, l2, ⟨x, l3, hx⟩, hb, t2, hR2⟩ he)
theorem hC_18 (hT : aTabOk) {n : Nat} {f : Nat → Int32} (hn : n ≤ 384) (h : hBoth 201 290 1 false) : hStep n f 852 := by
  intro e clv M hst he
  obtain ⟨l0, l1, l2, ⟨x, l3, hx⟩, hb, hM, hR⟩ := id hst
  have hx1 : (x + 1).toInt = e + 1 := by rw [i32_add (by rw [hx, show (1 : Int32).toInt = 1 from rfl]; omega) (by rw [hx, show (1 : Int32).toInt = 1 from rfl]; omega), hx, show (1 : Int32).toInt = 1 from rfl]
  obtain ⟨a1, ha1⟩ : ∃ a, a = f (x + 1).toInt.toNat := ⟨_, rfl⟩
  obtain ⟨K1, M1, K2, M2, r1, r2, p1, t1, p2, t2, hR2, heq⟩ := h M hM hR [a1] rfl
  obtain ⟨fs1, hfs1⟩ := ob_at hM (rfl : tTy 0 = some (.inr (11, _)))
  obtain ⟨fs2, hfs2⟩ := ob_at t1 (rfl : tTy 119 = some (.inr (12, _)))
  have go : mTo (some (n, f)) 150 (365, 852, clv, []) M (365, 1838, clv, []) M2 := by
    refine mTo_tr (e_al1 hT hq_law (show aTab 365 852 = some (.aload_n 1, 1, 0, 0, 0, 0, 0, 0) from rfl) rfl l1) ?_
    refine mTo_tr (e_al1 hT hq_law (show aTab 365 853 = some (.aload_n 0, 1, 0, 0, 0, 0, 0, 0) from rfl) rfl l0) ?_
    refine mTo_tr (e_il1 hT hq_law (show aTab 365 854 = some (.iload_n 3, 1, 0, 0, 0, 0, 0, 0) from rfl) rfl l3) ?_
    refine mTo_tr (e_st hT hq_law (show aTab 365 855 = some (.iconst 1, 1, 0, 0, 0, 0, 0, 0) from rfl) (fr' := (365, 856, clv, [.int 1, .int x, .ref 0, .ref 9])) (M' := _) rfl) ?_
    refine mTo_tr (e_st hT hq_law (show aTab 365 856 = some (.iadd, 1, 0, 0, 0, 0, 0, 0) from rfl) (fr' := (365, 857, clv, [.int (x + 1), .ref 0, .ref 9])) (M' := _) rfl) ?_
    refine mTo_tr (e_ald0 hT hq_law (show aTab 365 857 = some (.iaload, 1, 0, 0, 0, 0, 0, 0) from rfl) rfl (by omega)) ?_
    rw [← ha1]
    refine mTo_tr (e_call hT hq_law (show aTab 365 858 = some (.invokevirtual 89, 3, 1, 201, 0, 1, 2, 11) from rfl) rfl ⟨by decide, Nat.le_of_ble_eq_true rfl⟩ hfs1 (Nat.le_of_ble_eq_true rfl) (Nat.le_of_ble_eq_true rfl) ⟨by decide, by decide⟩ p1) ?_
    refine mTo_tr (e_st hT hq_law (show aTab 365 861 = some (.pop, 1, 0, 0, 0, 0, 0, 0) from rfl) (fr' := (365, 862, clv, [])) (M' := _) rfl) ?_
    refine mTo_tr (e_al1 hT hq_law (show aTab 365 862 = some (.aload_n 2, 1, 0, 0, 0, 0, 0, 0) from rfl) rfl l2) ?_
    refine mTo_tr (e_al1 hT hq_law (show aTab 365 863 = some (.aload_n 0, 1, 0, 0, 0, 0, 0, 0) from rfl) rfl l0) ?_
    refine mTo_tr (e_il1 hT hq_law (show aTab 365 864 = some (.iload_n 3, 1, 0, 0, 0, 0, 0, 0) from rfl) rfl l3) ?_
    refine mTo_tr (e_st hT hq_law (show aTab 365 865 = some (.iconst 1, 1, 0, 0, 0, 0, 0, 0) from rfl) (fr' := (365, 866, clv, [.int 1, .int x, .ref 0, .ref 128])) (M' := _) rfl) ?_
    refine mTo_tr (e_st hT hq_law (show aTab 365 866 = some (.iadd, 1, 0, 0, 0, 0, 0, 0) from rfl) (fr' := (365, 867, clv, [.int (x + 1), .ref 0, .ref 128])) (M' := _) rfl) ?_
    refine mTo_tr (e_ald0 hT hq_law (show aTab 365 867 = some (.iaload, 1, 0, 0, 0, 0, 0, 0) from rfl) rfl (by omega)) ?_
    rw [← ha1]
    refine mTo_tr (e_call hT hq_law (show aTab 365 868 = some (.invokevirtual 92, 3, 1, 290, 0, 1, 2, 12) from rfl) rfl ⟨by decide, Nat.le_of_ble_eq_true rfl⟩ hfs2 (Nat.le_of_ble_eq_true rfl) (Nat.le_of_ble_eq_true rfl) ⟨by decide, by decide⟩ p2) ?_
    refine mTo_tr (e_st hT hq_law (show aTab 365 871 = some (.pop, 1, 0, 0, 0, 0, 0, 0) from rfl) (fr' := (365, 872, clv, [])) (M' := _) rfl) ?_
    refine mTo_tr (e_st hT hq_law (show aTab 365 872 = some (.goto 966, 3, 0, 0, 0, 0, 0, 0) from rfl) (fr' := (365, 1838, clv, [])) (M' := _) rfl) ?_
    exact mTo_rf
  exact hEnd_to go (hTail hT hn ⟨l0, l1, l2, ⟨x, l3, hx⟩, hb, t2, hR2⟩ he)
theorem hC_19 (hT : aTabOk) {n : Nat} {f : Nat → Int32} (hn : n ≤ 384) (h : hBoth 202 292 1 false) : hStep n f 875 := by
  intro e clv M hst he
  obtain ⟨l0, l1, l2, ⟨x, l3, hx⟩, hb, hM, hR⟩ := id hst
  have hx1 : (x + 1).toInt = e + 1 := by rw [i32_add (by rw [hx, show (1 : Int32).toInt = 1 from rfl]; omega) (by rw [hx, show (1 : Int32).toInt = 1 from rfl]; omega), hx, show (1 : Int32).toInt = 1 from rfl]
  obtain ⟨a1, ha1⟩ : ∃ a, a = f (x + 1).toInt.toNat := ⟨_, rfl⟩
  obtain ⟨K1, M1, K2, M2, r1, r2, p1, t1, p2, t2, hR2, heq⟩ := h M hM hR [a1] rfl
  obtain ⟨fs1, hfs1⟩ := ob_at hM (rfl : tTy 0 = some (.inr (11, _)))
  obtain ⟨fs2, hfs2⟩ := ob_at t1 (rfl : tTy 119 = some (.inr (12, _)))
  have go : mTo (some (n, f)) 150 (365, 875, clv, []) M (365, 1838, clv, []) M2 := by
    refine mTo_tr (e_al1 hT hq_law (show aTab 365 875 = some (.aload_n 1, 1, 0, 0, 0, 0, 0, 0) from rfl) rfl l1) ?_
    refine mTo_tr (e_al1 hT hq_law (show aTab 365 876 = some (.aload_n 0, 1, 0, 0, 0, 0, 0, 0) from rfl) rfl l0) ?_
    refine mTo_tr (e_il1 hT hq_law (show aTab 365 877 = some (.iload_n 3, 1, 0, 0, 0, 0, 0, 0) from rfl) rfl l3) ?_
    refine mTo_tr (e_st hT hq_law (show aTab 365 878 = some (.iconst 1, 1, 0, 0, 0, 0, 0, 0) from rfl) (fr' := (365, 879, clv, [.int 1, .int x, .ref 0, .ref 9])) (M' := _) rfl) ?_
    refine mTo_tr (e_st hT hq_law (show aTab 365 879 = some (.iadd, 1, 0, 0, 0, 0, 0, 0) from rfl) (fr' := (365, 880, clv, [.int (x + 1), .ref 0, .ref 9])) (M' := _) rfl) ?_
    refine mTo_tr (e_ald0 hT hq_law (show aTab 365 880 = some (.iaload, 1, 0, 0, 0, 0, 0, 0) from rfl) rfl (by omega)) ?_
    rw [← ha1]
    refine mTo_tr (e_call hT hq_law (show aTab 365 881 = some (.invokevirtual 93, 3, 1, 202, 0, 1, 2, 11) from rfl) rfl ⟨by decide, Nat.le_of_ble_eq_true rfl⟩ hfs1 (Nat.le_of_ble_eq_true rfl) (Nat.le_of_ble_eq_true rfl) ⟨by decide, by decide⟩ p1) ?_
    refine mTo_tr (e_st hT hq_law (show aTab 365 884 = some (.pop, 1, 0, 0, 0, 0, 0, 0) from rfl) (fr' := (365, 885, clv, [])) (M' := _) rfl) ?_
    refine mTo_tr (e_al1 hT hq_law (show aTab 365 885 = some (.aload_n 2, 1, 0, 0, 0, 0, 0, 0) from rfl) rfl l2) ?_
    refine mTo_tr (e_al1 hT hq_law (show aTab 365 886 = some (.aload_n 0, 1, 0, 0, 0, 0, 0, 0) from rfl) rfl l0) ?_
    refine mTo_tr (e_il1 hT hq_law (show aTab 365 887 = some (.iload_n 3, 1, 0, 0, 0, 0, 0, 0) from rfl) rfl l3) ?_
    refine mTo_tr (e_st hT hq_law (show aTab 365 888 = some (.iconst 1, 1, 0, 0, 0, 0, 0, 0) from rfl) (fr' := (365, 889, clv, [.int 1, .int x, .ref 0, .ref 128])) (M' := _) rfl) ?_
    refine mTo_tr (e_st hT hq_law (show aTab 365 889 = some (.iadd, 1, 0, 0, 0, 0, 0, 0) from rfl) (fr' := (365, 890, clv, [.int (x + 1), .ref 0, .ref 128])) (M' := _) rfl) ?_
    refine mTo_tr (e_ald0 hT hq_law (show aTab 365 890 = some (.iaload, 1, 0, 0, 0, 0, 0, 0) from rfl) rfl (by omega)) ?_
    rw [← ha1]
    refine mTo_tr (e_call hT hq_law (show aTab 365 891 = some (.invokevirtual 96, 3, 1, 292, 0, 1, 5, 12) from rfl) rfl ⟨by decide, Nat.le_of_ble_eq_true rfl⟩ hfs2 (Nat.le_of_ble_eq_true rfl) (Nat.le_of_ble_eq_true rfl) ⟨by decide, by decide⟩ p2) ?_
    refine mTo_tr (e_st hT hq_law (show aTab 365 894 = some (.pop, 1, 0, 0, 0, 0, 0, 0) from rfl) (fr' := (365, 895, clv, [])) (M' := _) rfl) ?_
    refine mTo_tr (e_st hT hq_law (show aTab 365 895 = some (.goto 943, 3, 0, 0, 0, 0, 0, 0) from rfl) (fr' := (365, 1838, clv, [])) (M' := _) rfl) ?_
    exact mTo_rf
  exact hEnd_to go (hTail hT hn ⟨l0, l1, l2, ⟨x, l3, hx⟩, hb, t2, hR2⟩ he)
theorem hC_20 (hT : aTabOk) {n : Nat} {f : Nat → Int32} (hn : n ≤ 384) (h : hBoth 203 294 1 false) : hStep n f 898 := by
  intro e clv M hst he
  obtain ⟨l0, l1, l2, ⟨x, l3, hx⟩, hb, hM, hR⟩ := id hst
  have hx1 : (x + 1).toInt = e + 1 := by rw [i32_add (by rw [hx, show (1 : Int32).toInt = 1 from rfl]; omega) (by rw [hx, show (1 : Int32).toInt = 1 from rfl]; omega), hx, show (1 : Int32).toInt = 1 from rfl]
  obtain ⟨a1, ha1⟩ : ∃ a, a = f (x + 1).toInt.toNat := ⟨_, rfl⟩
  obtain ⟨K1, M1, K2, M2, r1, r2, p1, t1, p2, t2, hR2, heq⟩ := h M hM hR [a1] rfl
  obtain ⟨fs1, hfs1⟩ := ob_at hM (rfl : tTy 0 = some (.inr (11, _)))
  obtain ⟨fs2, hfs2⟩ := ob_at t1 (rfl : tTy 119 = some (.inr (12, _)))
  have go : mTo (some (n, f)) 150 (365, 898, clv, []) M (365, 1838, clv, []) M2 := by
    refine mTo_tr (e_al1 hT hq_law (show aTab 365 898 = some (.aload_n 1, 1, 0, 0, 0, 0, 0, 0) from rfl) rfl l1) ?_
    refine mTo_tr (e_al1 hT hq_law (show aTab 365 899 = some (.aload_n 0, 1, 0, 0, 0, 0, 0, 0) from rfl) rfl l0) ?_
    refine mTo_tr (e_il1 hT hq_law (show aTab 365 900 = some (.iload_n 3, 1, 0, 0, 0, 0, 0, 0) from rfl) rfl l3) ?_
    refine mTo_tr (e_st hT hq_law (show aTab 365 901 = some (.iconst 1, 1, 0, 0, 0, 0, 0, 0) from rfl) (fr' := (365, 902, clv, [.int 1, .int x, .ref 0, .ref 9])) (M' := _) rfl) ?_
    refine mTo_tr (e_st hT hq_law (show aTab 365 902 = some (.iadd, 1, 0, 0, 0, 0, 0, 0) from rfl) (fr' := (365, 903, clv, [.int (x + 1), .ref 0, .ref 9])) (M' := _) rfl) ?_
    refine mTo_tr (e_ald0 hT hq_law (show aTab 365 903 = some (.iaload, 1, 0, 0, 0, 0, 0, 0) from rfl) rfl (by omega)) ?_
    rw [← ha1]
    refine mTo_tr (e_call hT hq_law (show aTab 365 904 = some (.invokevirtual 97, 3, 1, 203, 0, 1, 2, 11) from rfl) rfl ⟨by decide, Nat.le_of_ble_eq_true rfl⟩ hfs1 (Nat.le_of_ble_eq_true rfl) (Nat.le_of_ble_eq_true rfl) ⟨by decide, by decide⟩ p1) ?_
    refine mTo_tr (e_st hT hq_law (show aTab 365 907 = some (.pop, 1, 0, 0, 0, 0, 0, 0) from rfl) (fr' := (365, 908, clv, [])) (M' := _) rfl) ?_
    refine mTo_tr (e_al1 hT hq_law (show aTab 365 908 = some (.aload_n 2, 1, 0, 0, 0, 0, 0, 0) from rfl) rfl l2) ?_
    refine mTo_tr (e_al1 hT hq_law (show aTab 365 909 = some (.aload_n 0, 1, 0, 0, 0, 0, 0, 0) from rfl) rfl l0) ?_
    refine mTo_tr (e_il1 hT hq_law (show aTab 365 910 = some (.iload_n 3, 1, 0, 0, 0, 0, 0, 0) from rfl) rfl l3) ?_
    refine mTo_tr (e_st hT hq_law (show aTab 365 911 = some (.iconst 1, 1, 0, 0, 0, 0, 0, 0) from rfl) (fr' := (365, 912, clv, [.int 1, .int x, .ref 0, .ref 128])) (M' := _) rfl) ?_
    refine mTo_tr (e_st hT hq_law (show aTab 365 912 = some (.iadd, 1, 0, 0, 0, 0, 0, 0) from rfl) (fr' := (365, 913, clv, [.int (x + 1), .ref 0, .ref 128])) (M' := _) rfl) ?_
    refine mTo_tr (e_ald0 hT hq_law (show aTab 365 913 = some (.iaload, 1, 0, 0, 0, 0, 0, 0) from rfl) rfl (by omega)) ?_
    rw [← ha1]
    refine mTo_tr (e_call hT hq_law (show aTab 365 914 = some (.invokevirtual 100, 3, 1, 294, 0, 1, 3, 12) from rfl) rfl ⟨by decide, Nat.le_of_ble_eq_true rfl⟩ hfs2 (Nat.le_of_ble_eq_true rfl) (Nat.le_of_ble_eq_true rfl) ⟨by decide, by decide⟩ p2) ?_
    refine mTo_tr (e_st hT hq_law (show aTab 365 917 = some (.pop, 1, 0, 0, 0, 0, 0, 0) from rfl) (fr' := (365, 918, clv, [])) (M' := _) rfl) ?_
    refine mTo_tr (e_st hT hq_law (show aTab 365 918 = some (.goto 920, 3, 0, 0, 0, 0, 0, 0) from rfl) (fr' := (365, 1838, clv, [])) (M' := _) rfl) ?_
    exact mTo_rf
  exact hEnd_to go (hTail hT hn ⟨l0, l1, l2, ⟨x, l3, hx⟩, hb, t2, hR2⟩ he)
theorem hC_21 (hT : aTabOk) {n : Nat} {f : Nat → Int32} (hn : n ≤ 384) (h : hBoth 204 297 1 false) : hStep n f 921 := by
  intro e clv M hst he
  obtain ⟨l0, l1, l2, ⟨x, l3, hx⟩, hb, hM, hR⟩ := id hst
  have hx1 : (x + 1).toInt = e + 1 := by rw [i32_add (by rw [hx, show (1 : Int32).toInt = 1 from rfl]; omega) (by rw [hx, show (1 : Int32).toInt = 1 from rfl]; omega), hx, show (1 : Int32).toInt = 1 from rfl]
  obtain ⟨a1, ha1⟩ : ∃ a, a = f (x + 1).toInt.toNat := ⟨_, rfl⟩
  obtain ⟨K1, M1, K2, M2, r1, r2, p1, t1, p2, t2, hR2, heq⟩ := h M hM hR [a1] rfl
  obtain ⟨fs1, hfs1⟩ := ob_at hM (rfl : tTy 0 = some (.inr (11, _)))
  obtain ⟨fs2, hfs2⟩ := ob_at t1 (rfl : tTy 119 = some (.inr (12, _)))
  have go : mTo (some (n, f)) 150 (365, 921, clv, []) M (365, 1838, clv, []) M2 := by
    refine mTo_tr (e_al1 hT hq_law (show aTab 365 921 = some (.aload_n 1, 1, 0, 0, 0, 0, 0, 0) from rfl) rfl l1) ?_
    refine mTo_tr (e_al1 hT hq_law (show aTab 365 922 = some (.aload_n 0, 1, 0, 0, 0, 0, 0, 0) from rfl) rfl l0) ?_
    refine mTo_tr (e_il1 hT hq_law (show aTab 365 923 = some (.iload_n 3, 1, 0, 0, 0, 0, 0, 0) from rfl) rfl l3) ?_
    refine mTo_tr (e_st hT hq_law (show aTab 365 924 = some (.iconst 1, 1, 0, 0, 0, 0, 0, 0) from rfl) (fr' := (365, 925, clv, [.int 1, .int x, .ref 0, .ref 9])) (M' := _) rfl) ?_
    refine mTo_tr (e_st hT hq_law (show aTab 365 925 = some (.iadd, 1, 0, 0, 0, 0, 0, 0) from rfl) (fr' := (365, 926, clv, [.int (x + 1), .ref 0, .ref 9])) (M' := _) rfl) ?_
    refine mTo_tr (e_ald0 hT hq_law (show aTab 365 926 = some (.iaload, 1, 0, 0, 0, 0, 0, 0) from rfl) rfl (by omega)) ?_
    rw [← ha1]
    refine mTo_tr (e_call hT hq_law (show aTab 365 927 = some (.invokevirtual 101, 3, 1, 204, 0, 1, 2, 11) from rfl) rfl ⟨by decide, Nat.le_of_ble_eq_true rfl⟩ hfs1 (Nat.le_of_ble_eq_true rfl) (Nat.le_of_ble_eq_true rfl) ⟨by decide, by decide⟩ p1) ?_
    refine mTo_tr (e_st hT hq_law (show aTab 365 930 = some (.pop, 1, 0, 0, 0, 0, 0, 0) from rfl) (fr' := (365, 931, clv, [])) (M' := _) rfl) ?_
    refine mTo_tr (e_al1 hT hq_law (show aTab 365 931 = some (.aload_n 2, 1, 0, 0, 0, 0, 0, 0) from rfl) rfl l2) ?_
    refine mTo_tr (e_al1 hT hq_law (show aTab 365 932 = some (.aload_n 0, 1, 0, 0, 0, 0, 0, 0) from rfl) rfl l0) ?_
    refine mTo_tr (e_il1 hT hq_law (show aTab 365 933 = some (.iload_n 3, 1, 0, 0, 0, 0, 0, 0) from rfl) rfl l3) ?_
    refine mTo_tr (e_st hT hq_law (show aTab 365 934 = some (.iconst 1, 1, 0, 0, 0, 0, 0, 0) from rfl) (fr' := (365, 935, clv, [.int 1, .int x, .ref 0, .ref 128])) (M' := _) rfl) ?_
    refine mTo_tr (e_st hT hq_law (show aTab 365 935 = some (.iadd, 1, 0, 0, 0, 0, 0, 0) from rfl) (fr' := (365, 936, clv, [.int (x + 1), .ref 0, .ref 128])) (M' := _) rfl) ?_
    refine mTo_tr (e_ald0 hT hq_law (show aTab 365 936 = some (.iaload, 1, 0, 0, 0, 0, 0, 0) from rfl) rfl (by omega)) ?_
    rw [← ha1]
    refine mTo_tr (e_call hT hq_law (show aTab 365 937 = some (.invokevirtual 104, 3, 1, 297, 0, 1, 2, 12) from rfl) rfl ⟨by decide, Nat.le_of_ble_eq_true rfl⟩ hfs2 (Nat.le_of_ble_eq_true rfl) (Nat.le_of_ble_eq_true rfl) ⟨by decide, by decide⟩ p2) ?_
    refine mTo_tr (e_st hT hq_law (show aTab 365 940 = some (.pop, 1, 0, 0, 0, 0, 0, 0) from rfl) (fr' := (365, 941, clv, [])) (M' := _) rfl) ?_
    refine mTo_tr (e_st hT hq_law (show aTab 365 941 = some (.goto 897, 3, 0, 0, 0, 0, 0, 0) from rfl) (fr' := (365, 1838, clv, [])) (M' := _) rfl) ?_
    exact mTo_rf
  exact hEnd_to go (hTail hT hn ⟨l0, l1, l2, ⟨x, l3, hx⟩, hb, t2, hR2⟩ he)
theorem hC_22 (hT : aTabOk) {n : Nat} {f : Nat → Int32} (hn : n ≤ 384) (h : hBoth 205 300 2 false) : hStep n f 944 := by
  intro e clv M hst he
  obtain ⟨l0, l1, l2, ⟨x, l3, hx⟩, hb, hM, hR⟩ := id hst
  have hx1 : (x + 1).toInt = e + 1 := by rw [i32_add (by rw [hx, show (1 : Int32).toInt = 1 from rfl]; omega) (by rw [hx, show (1 : Int32).toInt = 1 from rfl]; omega), hx, show (1 : Int32).toInt = 1 from rfl]
  obtain ⟨a1, ha1⟩ : ∃ a, a = f (x + 1).toInt.toNat := ⟨_, rfl⟩
  have hx2 : (x + 2).toInt = e + 2 := by rw [i32_add (by rw [hx, show (2 : Int32).toInt = 2 from rfl]; omega) (by rw [hx, show (2 : Int32).toInt = 2 from rfl]; omega), hx, show (2 : Int32).toInt = 2 from rfl]
  obtain ⟨a2, ha2⟩ : ∃ a, a = f (x + 2).toInt.toNat := ⟨_, rfl⟩
  obtain ⟨K1, M1, K2, M2, r1, r2, p1, t1, p2, t2, hR2, heq⟩ := h M hM hR [a1, a2] rfl
  obtain ⟨fs1, hfs1⟩ := ob_at hM (rfl : tTy 0 = some (.inr (11, _)))
  obtain ⟨fs2, hfs2⟩ := ob_at t1 (rfl : tTy 119 = some (.inr (12, _)))
  have go : mTo (some (n, f)) 150 (365, 944, clv, []) M (365, 1838, clv, []) M2 := by
    refine mTo_tr (e_al1 hT hq_law (show aTab 365 944 = some (.aload_n 1, 1, 0, 0, 0, 0, 0, 0) from rfl) rfl l1) ?_
    refine mTo_tr (e_al1 hT hq_law (show aTab 365 945 = some (.aload_n 0, 1, 0, 0, 0, 0, 0, 0) from rfl) rfl l0) ?_
    refine mTo_tr (e_il1 hT hq_law (show aTab 365 946 = some (.iload_n 3, 1, 0, 0, 0, 0, 0, 0) from rfl) rfl l3) ?_
    refine mTo_tr (e_st hT hq_law (show aTab 365 947 = some (.iconst 1, 1, 0, 0, 0, 0, 0, 0) from rfl) (fr' := (365, 948, clv, [.int 1, .int x, .ref 0, .ref 9])) (M' := _) rfl) ?_
    refine mTo_tr (e_st hT hq_law (show aTab 365 948 = some (.iadd, 1, 0, 0, 0, 0, 0, 0) from rfl) (fr' := (365, 949, clv, [.int (x + 1), .ref 0, .ref 9])) (M' := _) rfl) ?_
    refine mTo_tr (e_ald0 hT hq_law (show aTab 365 949 = some (.iaload, 1, 0, 0, 0, 0, 0, 0) from rfl) rfl (by omega)) ?_
    rw [← ha1]
    refine mTo_tr (e_al1 hT hq_law (show aTab 365 950 = some (.aload_n 0, 1, 0, 0, 0, 0, 0, 0) from rfl) rfl l0) ?_
    refine mTo_tr (e_il1 hT hq_law (show aTab 365 951 = some (.iload_n 3, 1, 0, 0, 0, 0, 0, 0) from rfl) rfl l3) ?_
    refine mTo_tr (e_st hT hq_law (show aTab 365 952 = some (.iconst 2, 1, 0, 0, 0, 0, 0, 0) from rfl) (fr' := (365, 953, clv, [.int 2, .int x, .ref 0, .int a1, .ref 9])) (M' := _) rfl) ?_
    refine mTo_tr (e_st hT hq_law (show aTab 365 953 = some (.iadd, 1, 0, 0, 0, 0, 0, 0) from rfl) (fr' := (365, 954, clv, [.int (x + 2), .ref 0, .int a1, .ref 9])) (M' := _) rfl) ?_
    refine mTo_tr (e_ald0 hT hq_law (show aTab 365 954 = some (.iaload, 1, 0, 0, 0, 0, 0, 0) from rfl) rfl (by omega)) ?_
    rw [← ha2]
    refine mTo_tr (e_call hT hq_law (show aTab 365 955 = some (.invokevirtual 105, 3, 1, 205, 0, 2, 3, 11) from rfl) rfl ⟨by decide, Nat.le_of_ble_eq_true rfl⟩ hfs1 (Nat.le_of_ble_eq_true rfl) (Nat.le_of_ble_eq_true rfl) ⟨by decide, by decide⟩ p1) ?_
    refine mTo_tr (e_st hT hq_law (show aTab 365 958 = some (.pop, 1, 0, 0, 0, 0, 0, 0) from rfl) (fr' := (365, 959, clv, [])) (M' := _) rfl) ?_
    refine mTo_tr (e_al1 hT hq_law (show aTab 365 959 = some (.aload_n 2, 1, 0, 0, 0, 0, 0, 0) from rfl) rfl l2) ?_
    refine mTo_tr (e_al1 hT hq_law (show aTab 365 960 = some (.aload_n 0, 1, 0, 0, 0, 0, 0, 0) from rfl) rfl l0) ?_
    refine mTo_tr (e_il1 hT hq_law (show aTab 365 961 = some (.iload_n 3, 1, 0, 0, 0, 0, 0, 0) from rfl) rfl l3) ?_
    refine mTo_tr (e_st hT hq_law (show aTab 365 962 = some (.iconst 1, 1, 0, 0, 0, 0, 0, 0) from rfl) (fr' := (365, 963, clv, [.int 1, .int x, .ref 0, .ref 128])) (M' := _) rfl) ?_
    refine mTo_tr (e_st hT hq_law (show aTab 365 963 = some (.iadd, 1, 0, 0, 0, 0, 0, 0) from rfl) (fr' := (365, 964, clv, [.int (x + 1), .ref 0, .ref 128])) (M' := _) rfl) ?_
    refine mTo_tr (e_ald0 hT hq_law (show aTab 365 964 = some (.iaload, 1, 0, 0, 0, 0, 0, 0) from rfl) rfl (by omega)) ?_
    rw [← ha1]
    refine mTo_tr (e_al1 hT hq_law (show aTab 365 965 = some (.aload_n 0, 1, 0, 0, 0, 0, 0, 0) from rfl) rfl l0) ?_
    refine mTo_tr (e_il1 hT hq_law (show aTab 365 966 = some (.iload_n 3, 1, 0, 0, 0, 0, 0, 0) from rfl) rfl l3) ?_
    refine mTo_tr (e_st hT hq_law (show aTab 365 967 = some (.iconst 2, 1, 0, 0, 0, 0, 0, 0) from rfl) (fr' := (365, 968, clv, [.int 2, .int x, .ref 0, .int a1, .ref 128])) (M' := _) rfl) ?_
    refine mTo_tr (e_st hT hq_law (show aTab 365 968 = some (.iadd, 1, 0, 0, 0, 0, 0, 0) from rfl) (fr' := (365, 969, clv, [.int (x + 2), .ref 0, .int a1, .ref 128])) (M' := _) rfl) ?_
    refine mTo_tr (e_ald0 hT hq_law (show aTab 365 969 = some (.iaload, 1, 0, 0, 0, 0, 0, 0) from rfl) rfl (by omega)) ?_
    rw [← ha2]
    refine mTo_tr (e_call hT hq_law (show aTab 365 970 = some (.invokevirtual 108, 3, 1, 300, 0, 2, 8, 12) from rfl) rfl ⟨by decide, Nat.le_of_ble_eq_true rfl⟩ hfs2 (Nat.le_of_ble_eq_true rfl) (Nat.le_of_ble_eq_true rfl) ⟨by decide, by decide⟩ p2) ?_
    refine mTo_tr (e_st hT hq_law (show aTab 365 973 = some (.pop, 1, 0, 0, 0, 0, 0, 0) from rfl) (fr' := (365, 974, clv, [])) (M' := _) rfl) ?_
    refine mTo_tr (e_st hT hq_law (show aTab 365 974 = some (.goto 864, 3, 0, 0, 0, 0, 0, 0) from rfl) (fr' := (365, 1838, clv, [])) (M' := _) rfl) ?_
    exact mTo_rf
  exact hEnd_to go (hTail hT hn ⟨l0, l1, l2, ⟨x, l3, hx⟩, hb, t2, hR2⟩ he)
theorem hC_23 (hT : aTabOk) {n : Nat} {f : Nat → Int32} (hn : n ≤ 384) (h : hBoth 206 301 3 false) : hStep n f 977 := by
  intro e clv M hst he
  obtain ⟨l0, l1, l2, ⟨x, l3, hx⟩, hb, hM, hR⟩ := id hst
  have hx1 : (x + 1).toInt = e + 1 := by rw [i32_add (by rw [hx, show (1 : Int32).toInt = 1 from rfl]; omega) (by rw [hx, show (1 : Int32).toInt = 1 from rfl]; omega), hx, show (1 : Int32).toInt = 1 from rfl]
  obtain ⟨a1, ha1⟩ : ∃ a, a = f (x + 1).toInt.toNat := ⟨_, rfl⟩
  have hx2 : (x + 2).toInt = e + 2 := by rw [i32_add (by rw [hx, show (2 : Int32).toInt = 2 from rfl]; omega) (by rw [hx, show (2 : Int32).toInt = 2 from rfl]; omega), hx, show (2 : Int32).toInt = 2 from rfl]
  obtain ⟨a2, ha2⟩ : ∃ a, a = f (x + 2).toInt.toNat := ⟨_, rfl⟩
  have hx3 : (x + 3).toInt = e + 3 := by rw [i32_add (by rw [hx, show (3 : Int32).toInt = 3 from rfl]; omega) (by rw [hx, show (3 : Int32).toInt = 3 from rfl]; omega), hx, show (3 : Int32).toInt = 3 from rfl]
  obtain ⟨a3, ha3⟩ : ∃ a, a = f (x + 3).toInt.toNat := ⟨_, rfl⟩
  obtain ⟨K1, M1, K2, M2, r1, r2, p1, t1, p2, t2, hR2, heq⟩ := h M hM hR [a1, a2, a3] rfl
  obtain ⟨fs1, hfs1⟩ := ob_at hM (rfl : tTy 0 = some (.inr (11, _)))
  obtain ⟨fs2, hfs2⟩ := ob_at t1 (rfl : tTy 119 = some (.inr (12, _)))
  have go : mTo (some (n, f)) 150 (365, 977, clv, []) M (365, 1838, clv, []) M2 := by
    refine mTo_tr (e_al1 hT hq_law (show aTab 365 977 = some (.aload_n 1, 1, 0, 0, 0, 0, 0, 0) from rfl) rfl l1) ?_
    refine mTo_tr (e_al1 hT hq_law (show aTab 365 978 = some (.aload_n 0, 1, 0, 0, 0, 0, 0, 0) from rfl) rfl l0) ?_
    refine mTo_tr (e_il1 hT hq_law (show aTab 365 979 = some (.iload_n 3, 1, 0, 0, 0, 0, 0, 0) from rfl) rfl l3) ?_
    refine mTo_tr (e_st hT hq_law (show aTab 365 980 = some (.iconst 1, 1, 0, 0, 0, 0, 0, 0) from rfl) (fr' := (365, 981, clv, [.int 1, .int x, .ref 0, .ref 9])) (M' := _) rfl) ?_
    refine mTo_tr (e_st hT hq_law (show aTab 365 981 = some (.iadd, 1, 0, 0, 0, 0, 0, 0) from rfl) (fr' := (365, 982, clv, [.int (x + 1), .ref 0, .ref 9])) (M' := _) rfl) ?_
    refine mTo_tr (e_ald0 hT hq_law (show aTab 365 982 = some (.iaload, 1, 0, 0, 0, 0, 0, 0) from rfl) rfl (by omega)) ?_
    rw [← ha1]
    refine mTo_tr (e_al1 hT hq_law (show aTab 365 983 = some (.aload_n 0, 1, 0, 0, 0, 0, 0, 0) from rfl) rfl l0) ?_
    refine mTo_tr (e_il1 hT hq_law (show aTab 365 984 = some (.iload_n 3, 1, 0, 0, 0, 0, 0, 0) from rfl) rfl l3) ?_
    refine mTo_tr (e_st hT hq_law (show aTab 365 985 = some (.iconst 2, 1, 0, 0, 0, 0, 0, 0) from rfl) (fr' := (365, 986, clv, [.int 2, .int x, .ref 0, .int a1, .ref 9])) (M' := _) rfl) ?_
    refine mTo_tr (e_st hT hq_law (show aTab 365 986 = some (.iadd, 1, 0, 0, 0, 0, 0, 0) from rfl) (fr' := (365, 987, clv, [.int (x + 2), .ref 0, .int a1, .ref 9])) (M' := _) rfl) ?_
    refine mTo_tr (e_ald0 hT hq_law (show aTab 365 987 = some (.iaload, 1, 0, 0, 0, 0, 0, 0) from rfl) rfl (by omega)) ?_
    rw [← ha2]
    refine mTo_tr (e_al1 hT hq_law (show aTab 365 988 = some (.aload_n 0, 1, 0, 0, 0, 0, 0, 0) from rfl) rfl l0) ?_
    refine mTo_tr (e_il1 hT hq_law (show aTab 365 989 = some (.iload_n 3, 1, 0, 0, 0, 0, 0, 0) from rfl) rfl l3) ?_
    refine mTo_tr (e_st hT hq_law (show aTab 365 990 = some (.iconst 3, 1, 0, 0, 0, 0, 0, 0) from rfl) (fr' := (365, 991, clv, [.int 3, .int x, .ref 0, .int a2, .int a1, .ref 9])) (M' := _) rfl) ?_
    refine mTo_tr (e_st hT hq_law (show aTab 365 991 = some (.iadd, 1, 0, 0, 0, 0, 0, 0) from rfl) (fr' := (365, 992, clv, [.int (x + 3), .ref 0, .int a2, .int a1, .ref 9])) (M' := _) rfl) ?_
    refine mTo_tr (e_ald0 hT hq_law (show aTab 365 992 = some (.iaload, 1, 0, 0, 0, 0, 0, 0) from rfl) rfl (by omega)) ?_
    rw [← ha3]
    refine mTo_tr (e_call hT hq_law (show aTab 365 993 = some (.invokevirtual 109, 3, 1, 206, 0, 3, 4, 11) from rfl) rfl ⟨by decide, Nat.le_of_ble_eq_true rfl⟩ hfs1 (Nat.le_of_ble_eq_true rfl) (Nat.le_of_ble_eq_true rfl) ⟨by decide, by decide⟩ p1) ?_
    refine mTo_tr (e_st hT hq_law (show aTab 365 996 = some (.pop, 1, 0, 0, 0, 0, 0, 0) from rfl) (fr' := (365, 997, clv, [])) (M' := _) rfl) ?_
    refine mTo_tr (e_al1 hT hq_law (show aTab 365 997 = some (.aload_n 2, 1, 0, 0, 0, 0, 0, 0) from rfl) rfl l2) ?_
    refine mTo_tr (e_al1 hT hq_law (show aTab 365 998 = some (.aload_n 0, 1, 0, 0, 0, 0, 0, 0) from rfl) rfl l0) ?_
    refine mTo_tr (e_il1 hT hq_law (show aTab 365 999 = some (.iload_n 3, 1, 0, 0, 0, 0, 0, 0) from rfl) rfl l3) ?_
    refine mTo_tr (e_st hT hq_law (show aTab 365 1000 = some (.iconst 1, 1, 0, 0, 0, 0, 0, 0) from rfl) (fr' := (365, 1001, clv, [.int 1, .int x, .ref 0, .ref 128])) (M' := _) rfl) ?_
    refine mTo_tr (e_st hT hq_law (show aTab 365 1001 = some (.iadd, 1, 0, 0, 0, 0, 0, 0) from rfl) (fr' := (365, 1002, clv, [.int (x + 1), .ref 0, .ref 128])) (M' := _) rfl) ?_
    refine mTo_tr (e_ald0 hT hq_law (show aTab 365 1002 = some (.iaload, 1, 0, 0, 0, 0, 0, 0) from rfl) rfl (by omega)) ?_
    rw [← ha1]
    refine mTo_tr (e_al1 hT hq_law (show aTab 365 1003 = some (.aload_n 0, 1, 0, 0, 0, 0, 0, 0) from rfl) rfl l0) ?_
    refine mTo_tr (e_il1 hT hq_law (show aTab 365 1004 = some (.iload_n 3, 1, 0, 0, 0, 0, 0, 0) from rfl) rfl l3) ?_
    refine mTo_tr (e_st hT hq_law (show aTab 365 1005 = some (.iconst 2, 1, 0, 0, 0, 0, 0, 0) from rfl) (fr' := (365, 1006, clv, [.int 2, .int x, .ref 0, .int a1, .ref 128])) (M' := _) rfl) ?_
    refine mTo_tr (e_st hT hq_law (show aTab 365 1006 = some (.iadd, 1, 0, 0, 0, 0, 0, 0) from rfl) (fr' := (365, 1007, clv, [.int (x + 2), .ref 0, .int a1, .ref 128])) (M' := _) rfl) ?_
    refine mTo_tr (e_ald0 hT hq_law (show aTab 365 1007 = some (.iaload, 1, 0, 0, 0, 0, 0, 0) from rfl) rfl (by omega)) ?_
    rw [← ha2]
    refine mTo_tr (e_al1 hT hq_law (show aTab 365 1008 = some (.aload_n 0, 1, 0, 0, 0, 0, 0, 0) from rfl) rfl l0) ?_
    refine mTo_tr (e_il1 hT hq_law (show aTab 365 1009 = some (.iload_n 3, 1, 0, 0, 0, 0, 0, 0) from rfl) rfl l3) ?_
    refine mTo_tr (e_st hT hq_law (show aTab 365 1010 = some (.iconst 3, 1, 0, 0, 0, 0, 0, 0) from rfl) (fr' := (365, 1011, clv, [.int 3, .int x, .ref 0, .int a2, .int a1, .ref 128])) (M' := _) rfl) ?_
    refine mTo_tr (e_st hT hq_law (show aTab 365 1011 = some (.iadd, 1, 0, 0, 0, 0, 0, 0) from rfl) (fr' := (365, 1012, clv, [.int (x + 3), .ref 0, .int a2, .int a1, .ref 128])) (M' := _) rfl) ?_
    refine mTo_tr (e_ald0 hT hq_law (show aTab 365 1012 = some (.iaload, 1, 0, 0, 0, 0, 0, 0) from rfl) rfl (by omega)) ?_
    rw [← ha3]
    refine mTo_tr (e_call hT hq_law (show aTab 365 1013 = some (.invokevirtual 112, 3, 1, 301, 0, 3, 6, 12) from rfl) rfl ⟨by decide, Nat.le_of_ble_eq_true rfl⟩ hfs2 (Nat.le_of_ble_eq_true rfl) (Nat.le_of_ble_eq_true rfl) ⟨by decide, by decide⟩ p2) ?_
    refine mTo_tr (e_st hT hq_law (show aTab 365 1016 = some (.pop, 1, 0, 0, 0, 0, 0, 0) from rfl) (fr' := (365, 1017, clv, [])) (M' := _) rfl) ?_
    refine mTo_tr (e_st hT hq_law (show aTab 365 1017 = some (.goto 821, 3, 0, 0, 0, 0, 0, 0) from rfl) (fr' := (365, 1838, clv, [])) (M' := _) rfl) ?_
    exact mTo_rf
  exact hEnd_to go (hTail hT hn ⟨l0, l1, l2, ⟨x, l3, hx⟩, hb, t2, hR2⟩ he)
theorem hC_24 (hT : aTabOk) {n : Nat} {f : Nat → Int32} (hn : n ≤ 384) (h : hBoth 207 302 1 false) : hStep n f 1020 := by
  intro e clv M hst he
  obtain ⟨l0, l1, l2, ⟨x, l3, hx⟩, hb, hM, hR⟩ := id hst
  have hx1 : (x + 1).toInt = e + 1 := by rw [i32_add (by rw [hx, show (1 : Int32).toInt = 1 from rfl]; omega) (by rw [hx, show (1 : Int32).toInt = 1 from rfl]; omega), hx, show (1 : Int32).toInt = 1 from rfl]
  obtain ⟨a1, ha1⟩ : ∃ a, a = f (x + 1).toInt.toNat := ⟨_, rfl⟩
  obtain ⟨K1, M1, K2, M2, r1, r2, p1, t1, p2, t2, hR2, heq⟩ := h M hM hR [a1] rfl
  obtain ⟨fs1, hfs1⟩ := ob_at hM (rfl : tTy 0 = some (.inr (11, _)))
  obtain ⟨fs2, hfs2⟩ := ob_at t1 (rfl : tTy 119 = some (.inr (12, _)))
  have go : mTo (some (n, f)) 150 (365, 1020, clv, []) M (365, 1838, clv, []) M2 := by
    refine mTo_tr (e_al1 hT hq_law (show aTab 365 1020 = some (.aload_n 1, 1, 0, 0, 0, 0, 0, 0) from rfl) rfl l1) ?_
    refine mTo_tr (e_al1 hT hq_law (show aTab 365 1021 = some (.aload_n 0, 1, 0, 0, 0, 0, 0, 0) from rfl) rfl l0) ?_
    refine mTo_tr (e_il1 hT hq_law (show aTab 365 1022 = some (.iload_n 3, 1, 0, 0, 0, 0, 0, 0) from rfl) rfl l3) ?_
    refine mTo_tr (e_st hT hq_law (show aTab 365 1023 = some (.iconst 1, 1, 0, 0, 0, 0, 0, 0) from rfl) (fr' := (365, 1024, clv, [.int 1, .int x, .ref 0, .ref 9])) (M' := _) rfl) ?_
    refine mTo_tr (e_st hT hq_law (show aTab 365 1024 = some (.iadd, 1, 0, 0, 0, 0, 0, 0) from rfl) (fr' := (365, 1025, clv, [.int (x + 1), .ref 0, .ref 9])) (M' := _) rfl) ?_
    refine mTo_tr (e_ald0 hT hq_law (show aTab 365 1025 = some (.iaload, 1, 0, 0, 0, 0, 0, 0) from rfl) rfl (by omega)) ?_
    rw [← ha1]
    refine mTo_tr (e_call hT hq_law (show aTab 365 1026 = some (.invokevirtual 113, 3, 1, 207, 0, 1, 2, 11) from rfl) rfl ⟨by decide, Nat.le_of_ble_eq_true rfl⟩ hfs1 (Nat.le_of_ble_eq_true rfl) (Nat.le_of_ble_eq_true rfl) ⟨by decide, by decide⟩ p1) ?_
    refine mTo_tr (e_st hT hq_law (show aTab 365 1029 = some (.pop, 1, 0, 0, 0, 0, 0, 0) from rfl) (fr' := (365, 1030, clv, [])) (M' := _) rfl) ?_
    refine mTo_tr (e_al1 hT hq_law (show aTab 365 1030 = some (.aload_n 2, 1, 0, 0, 0, 0, 0, 0) from rfl) rfl l2) ?_
    refine mTo_tr (e_al1 hT hq_law (show aTab 365 1031 = some (.aload_n 0, 1, 0, 0, 0, 0, 0, 0) from rfl) rfl l0) ?_
    refine mTo_tr (e_il1 hT hq_law (show aTab 365 1032 = some (.iload_n 3, 1, 0, 0, 0, 0, 0, 0) from rfl) rfl l3) ?_
    refine mTo_tr (e_st hT hq_law (show aTab 365 1033 = some (.iconst 1, 1, 0, 0, 0, 0, 0, 0) from rfl) (fr' := (365, 1034, clv, [.int 1, .int x, .ref 0, .ref 128])) (M' := _) rfl) ?_
    refine mTo_tr (e_st hT hq_law (show aTab 365 1034 = some (.iadd, 1, 0, 0, 0, 0, 0, 0) from rfl) (fr' := (365, 1035, clv, [.int (x + 1), .ref 0, .ref 128])) (M' := _) rfl) ?_
    refine mTo_tr (e_ald0 hT hq_law (show aTab 365 1035 = some (.iaload, 1, 0, 0, 0, 0, 0, 0) from rfl) rfl (by omega)) ?_
    rw [← ha1]
    refine mTo_tr (e_call hT hq_law (show aTab 365 1036 = some (.invokevirtual 116, 3, 1, 302, 0, 1, 2, 12) from rfl) rfl ⟨by decide, Nat.le_of_ble_eq_true rfl⟩ hfs2 (Nat.le_of_ble_eq_true rfl) (Nat.le_of_ble_eq_true rfl) ⟨by decide, by decide⟩ p2) ?_
    refine mTo_tr (e_st hT hq_law (show aTab 365 1039 = some (.pop, 1, 0, 0, 0, 0, 0, 0) from rfl) (fr' := (365, 1040, clv, [])) (M' := _) rfl) ?_
    refine mTo_tr (e_st hT hq_law (show aTab 365 1040 = some (.goto 798, 3, 0, 0, 0, 0, 0, 0) from rfl) (fr' := (365, 1838, clv, [])) (M' := _) rfl) ?_
    exact mTo_rf
  exact hEnd_to go (hTail hT hn ⟨l0, l1, l2, ⟨x, l3, hx⟩, hb, t2, hR2⟩ he)
theorem hC_25 (hT : aTabOk) {n : Nat} {f : Nat → Int32} (hn : n ≤ 384) (h : hBoth 208 319 1 false) : hStep n f 1043 := by
  intro e clv M hst he
  obtain ⟨l0, l1, l2, ⟨x, l3, hx⟩, hb, hM, hR⟩ := id hst
  have hx1 : (x + 1).toInt = e + 1 := by rw [i32_add (by rw [hx, show (1 : Int32).toInt = 1 from rfl]; omega) (by rw [hx, show (1 : Int32).toInt = 1 from rfl]; omega), hx, show (1 : Int32).toInt = 1 from rfl]
  obtain ⟨a1, ha1⟩ : ∃ a, a = f (x + 1).toInt.toNat := ⟨_, rfl⟩
  obtain ⟨K1, M1, K2, M2, r1, r2, p1, t1, p2, t2, hR2, heq⟩ := h M hM hR [a1] rfl
  obtain ⟨fs1, hfs1⟩ := ob_at hM (rfl : tTy 0 = some (.inr (11, _)))
  obtain ⟨fs2, hfs2⟩ := ob_at t1 (rfl : tTy 119 = some (.inr (12, _)))
  have go : mTo (some (n, f)) 150 (365, 1043, clv, []) M (365, 1838, clv, []) M2 := by
    refine mTo_tr (e_al1 hT hq_law (show aTab 365 1043 = some (.aload_n 1, 1, 0, 0, 0, 0, 0, 0) from rfl) rfl l1) ?_
    refine mTo_tr (e_al1 hT hq_law (show aTab 365 1044 = some (.aload_n 0, 1, 0, 0, 0, 0, 0, 0) from rfl) rfl l0) ?_
    refine mTo_tr (e_il1 hT hq_law (show aTab 365 1045 = some (.iload_n 3, 1, 0, 0, 0, 0, 0, 0) from rfl) rfl l3) ?_
    refine mTo_tr (e_st hT hq_law (show aTab 365 1046 = some (.iconst 1, 1, 0, 0, 0, 0, 0, 0) from rfl) (fr' := (365, 1047, clv, [.int 1, .int x, .ref 0, .ref 9])) (M' := _) rfl) ?_
    refine mTo_tr (e_st hT hq_law (show aTab 365 1047 = some (.iadd, 1, 0, 0, 0, 0, 0, 0) from rfl) (fr' := (365, 1048, clv, [.int (x + 1), .ref 0, .ref 9])) (M' := _) rfl) ?_
    refine mTo_tr (e_ald0 hT hq_law (show aTab 365 1048 = some (.iaload, 1, 0, 0, 0, 0, 0, 0) from rfl) rfl (by omega)) ?_
    rw [← ha1]
    refine mTo_tr (e_call hT hq_law (show aTab 365 1049 = some (.invokevirtual 117, 3, 1, 208, 0, 1, 3, 11) from rfl) rfl ⟨by decide, Nat.le_of_ble_eq_true rfl⟩ hfs1 (Nat.le_of_ble_eq_true rfl) (Nat.le_of_ble_eq_true rfl) ⟨by decide, by decide⟩ p1) ?_
    refine mTo_tr (e_st hT hq_law (show aTab 365 1052 = some (.pop, 1, 0, 0, 0, 0, 0, 0) from rfl) (fr' := (365, 1053, clv, [])) (M' := _) rfl) ?_
    refine mTo_tr (e_al1 hT hq_law (show aTab 365 1053 = some (.aload_n 2, 1, 0, 0, 0, 0, 0, 0) from rfl) rfl l2) ?_
    refine mTo_tr (e_al1 hT hq_law (show aTab 365 1054 = some (.aload_n 0, 1, 0, 0, 0, 0, 0, 0) from rfl) rfl l0) ?_
    refine mTo_tr (e_il1 hT hq_law (show aTab 365 1055 = some (.iload_n 3, 1, 0, 0, 0, 0, 0, 0) from rfl) rfl l3) ?_
    refine mTo_tr (e_st hT hq_law (show aTab 365 1056 = some (.iconst 1, 1, 0, 0, 0, 0, 0, 0) from rfl) (fr' := (365, 1057, clv, [.int 1, .int x, .ref 0, .ref 128])) (M' := _) rfl) ?_
    refine mTo_tr (e_st hT hq_law (show aTab 365 1057 = some (.iadd, 1, 0, 0, 0, 0, 0, 0) from rfl) (fr' := (365, 1058, clv, [.int (x + 1), .ref 0, .ref 128])) (M' := _) rfl) ?_
    refine mTo_tr (e_ald0 hT hq_law (show aTab 365 1058 = some (.iaload, 1, 0, 0, 0, 0, 0, 0) from rfl) rfl (by omega)) ?_
    rw [← ha1]
    refine mTo_tr (e_call hT hq_law (show aTab 365 1059 = some (.invokevirtual 120, 3, 1, 319, 0, 1, 5, 12) from rfl) rfl ⟨by decide, Nat.le_of_ble_eq_true rfl⟩ hfs2 (Nat.le_of_ble_eq_true rfl) (Nat.le_of_ble_eq_true rfl) ⟨by decide, by decide⟩ p2) ?_
    refine mTo_tr (e_st hT hq_law (show aTab 365 1062 = some (.pop, 1, 0, 0, 0, 0, 0, 0) from rfl) (fr' := (365, 1063, clv, [])) (M' := _) rfl) ?_
    refine mTo_tr (e_st hT hq_law (show aTab 365 1063 = some (.goto 775, 3, 0, 0, 0, 0, 0, 0) from rfl) (fr' := (365, 1838, clv, [])) (M' := _) rfl) ?_
    exact mTo_rf
  exact hEnd_to go (hTail hT hn ⟨l0, l1, l2, ⟨x, l3, hx⟩, hb, t2, hR2⟩ he)
theorem hC_26 (hT : aTabOk) {n : Nat} {f : Nat → Int32} (hn : n ≤ 384) (h : hBoth 209 320 2 false) : hStep n f 1066 := by
  intro e clv M hst he
  obtain ⟨l0, l1, l2, ⟨x, l3, hx⟩, hb, hM, hR⟩ := id hst
  have hx1 : (x + 1).toInt = e + 1 := by rw [i32_add (by rw [hx, show (1 : Int32).toInt = 1 from rfl]; omega) (by rw [hx, show (1 : Int32).toInt = 1 from rfl]; omega), hx, show (1 : Int32).toInt = 1 from rfl]
  obtain ⟨a1, ha1⟩ : ∃ a, a = f (x + 1).toInt.toNat := ⟨_, rfl⟩
  have hx2 : (x + 2).toInt = e + 2 := by rw [i32_add (by rw [hx, show (2 : Int32).toInt = 2 from rfl]; omega) (by rw [hx, show (2 : Int32).toInt = 2 from rfl]; omega), hx, show (2 : Int32).toInt = 2 from rfl]
  obtain ⟨a2, ha2⟩ : ∃ a, a = f (x + 2).toInt.toNat := ⟨_, rfl⟩
  obtain ⟨K1, M1, K2, M2, r1, r2, p1, t1, p2, t2, hR2, heq⟩ := h M hM hR [a1, a2] rfl
  obtain ⟨fs1, hfs1⟩ := ob_at hM (rfl : tTy 0 = some (.inr (11, _)))
  obtain ⟨fs2, hfs2⟩ := ob_at t1 (rfl : tTy 119 = some (.inr (12, _)))
  have go : mTo (some (n, f)) 150 (365, 1066, clv, []) M (365, 1838, clv, []) M2 := by
    refine mTo_tr (e_al1 hT hq_law (show aTab 365 1066 = some (.aload_n 1, 1, 0, 0, 0, 0, 0, 0) from rfl) rfl l1) ?_
    refine mTo_tr (e_al1 hT hq_law (show aTab 365 1067 = some (.aload_n 0, 1, 0, 0, 0, 0, 0, 0) from rfl) rfl l0) ?_
    refine mTo_tr (e_il1 hT hq_law (show aTab 365 1068 = some (.iload_n 3, 1, 0, 0, 0, 0, 0, 0) from rfl) rfl l3) ?_
    refine mTo_tr (e_st hT hq_law (show aTab 365 1069 = some (.iconst 1, 1, 0, 0, 0, 0, 0, 0) from rfl) (fr' := (365, 1070, clv, [.int 1, .int x, .ref 0, .ref 9])) (M' := _) rfl) ?_
    refine mTo_tr (e_st hT hq_law (show aTab 365 1070 = some (.iadd, 1, 0, 0, 0, 0, 0, 0) from rfl) (fr' := (365, 1071, clv, [.int (x + 1), .ref 0, .ref 9])) (M' := _) rfl) ?_
    refine mTo_tr (e_ald0 hT hq_law (show aTab 365 1071 = some (.iaload, 1, 0, 0, 0, 0, 0, 0) from rfl) rfl (by omega)) ?_
    rw [← ha1]
    refine mTo_tr (e_al1 hT hq_law (show aTab 365 1072 = some (.aload_n 0, 1, 0, 0, 0, 0, 0, 0) from rfl) rfl l0) ?_
    refine mTo_tr (e_il1 hT hq_law (show aTab 365 1073 = some (.iload_n 3, 1, 0, 0, 0, 0, 0, 0) from rfl) rfl l3) ?_
    refine mTo_tr (e_st hT hq_law (show aTab 365 1074 = some (.iconst 2, 1, 0, 0, 0, 0, 0, 0) from rfl) (fr' := (365, 1075, clv, [.int 2, .int x, .ref 0, .int a1, .ref 9])) (M' := _) rfl) ?_
    refine mTo_tr (e_st hT hq_law (show aTab 365 1075 = some (.iadd, 1, 0, 0, 0, 0, 0, 0) from rfl) (fr' := (365, 1076, clv, [.int (x + 2), .ref 0, .int a1, .ref 9])) (M' := _) rfl) ?_
    refine mTo_tr (e_ald0 hT hq_law (show aTab 365 1076 = some (.iaload, 1, 0, 0, 0, 0, 0, 0) from rfl) rfl (by omega)) ?_
    rw [← ha2]
    refine mTo_tr (e_call hT hq_law (show aTab 365 1077 = some (.invokevirtual 121, 3, 1, 209, 0, 2, 3, 11) from rfl) rfl ⟨by decide, Nat.le_of_ble_eq_true rfl⟩ hfs1 (Nat.le_of_ble_eq_true rfl) (Nat.le_of_ble_eq_true rfl) ⟨by decide, by decide⟩ p1) ?_
    refine mTo_tr (e_st hT hq_law (show aTab 365 1080 = some (.pop, 1, 0, 0, 0, 0, 0, 0) from rfl) (fr' := (365, 1081, clv, [])) (M' := _) rfl) ?_
    refine mTo_tr (e_al1 hT hq_law (show aTab 365 1081 = some (.aload_n 2, 1, 0, 0, 0, 0, 0, 0) from rfl) rfl l2) ?_
    refine mTo_tr (e_al1 hT hq_law (show aTab 365 1082 = some (.aload_n 0, 1, 0, 0, 0, 0, 0, 0) from rfl) rfl l0) ?_
    refine mTo_tr (e_il1 hT hq_law (show aTab 365 1083 = some (.iload_n 3, 1, 0, 0, 0, 0, 0, 0) from rfl) rfl l3) ?_
    refine mTo_tr (e_st hT hq_law (show aTab 365 1084 = some (.iconst 1, 1, 0, 0, 0, 0, 0, 0) from rfl) (fr' := (365, 1085, clv, [.int 1, .int x, .ref 0, .ref 128])) (M' := _) rfl) ?_
    refine mTo_tr (e_st hT hq_law (show aTab 365 1085 = some (.iadd, 1, 0, 0, 0, 0, 0, 0) from rfl) (fr' := (365, 1086, clv, [.int (x + 1), .ref 0, .ref 128])) (M' := _) rfl) ?_
    refine mTo_tr (e_ald0 hT hq_law (show aTab 365 1086 = some (.iaload, 1, 0, 0, 0, 0, 0, 0) from rfl) rfl (by omega)) ?_
    rw [← ha1]
    refine mTo_tr (e_al1 hT hq_law (show aTab 365 1087 = some (.aload_n 0, 1, 0, 0, 0, 0, 0, 0) from rfl) rfl l0) ?_
    refine mTo_tr (e_il1 hT hq_law (show aTab 365 1088 = some (.iload_n 3, 1, 0, 0, 0, 0, 0, 0) from rfl) rfl l3) ?_
    refine mTo_tr (e_st hT hq_law (show aTab 365 1089 = some (.iconst 2, 1, 0, 0, 0, 0, 0, 0) from rfl) (fr' := (365, 1090, clv, [.int 2, .int x, .ref 0, .int a1, .ref 128])) (M' := _) rfl) ?_
    refine mTo_tr (e_st hT hq_law (show aTab 365 1090 = some (.iadd, 1, 0, 0, 0, 0, 0, 0) from rfl) (fr' := (365, 1091, clv, [.int (x + 2), .ref 0, .int a1, .ref 128])) (M' := _) rfl) ?_
    refine mTo_tr (e_ald0 hT hq_law (show aTab 365 1091 = some (.iaload, 1, 0, 0, 0, 0, 0, 0) from rfl) rfl (by omega)) ?_
    rw [← ha2]
    refine mTo_tr (e_call hT hq_law (show aTab 365 1092 = some (.invokevirtual 124, 3, 1, 320, 0, 2, 3, 12) from rfl) rfl ⟨by decide, Nat.le_of_ble_eq_true rfl⟩ hfs2 (Nat.le_of_ble_eq_true rfl) (Nat.le_of_ble_eq_true rfl) ⟨by decide, by decide⟩ p2) ?_
    refine mTo_tr (e_st hT hq_law (show aTab 365 1095 = some (.pop, 1, 0, 0, 0, 0, 0, 0) from rfl) (fr' := (365, 1096, clv, [])) (M' := _) rfl) ?_
    refine mTo_tr (e_st hT hq_law (show aTab 365 1096 = some (.goto 742, 3, 0, 0, 0, 0, 0, 0) from rfl) (fr' := (365, 1838, clv, [])) (M' := _) rfl) ?_
    exact mTo_rf
  exact hEnd_to go (hTail hT hn ⟨l0, l1, l2, ⟨x, l3, hx⟩, hb, t2, hR2⟩ he)
theorem hC_27 (hT : aTabOk) {n : Nat} {f : Nat → Int32} (hn : n ≤ 384) (h : hBoth 210 322 1 false) : hStep n f 1099 := by
  intro e clv M hst he
  obtain ⟨l0, l1, l2, ⟨x, l3, hx⟩, hb, hM, hR⟩ := id hst
  have hx1 : (x + 1).toInt = e + 1 := by rw [i32_add (by rw [hx, show (1 : Int32).toInt = 1 from rfl]; omega) (by rw [hx, show (1 : Int32).toInt = 1 from rfl]; omega), hx, show (1 : Int32).toInt = 1 from rfl]
  obtain ⟨a1, ha1⟩ : ∃ a, a = f (x + 1).toInt.toNat := ⟨_, rfl⟩
  obtain ⟨K1, M1, K2, M2, r1, r2, p1, t1, p2, t2, hR2, heq⟩ := h M hM hR [a1] rfl
  obtain ⟨fs1, hfs1⟩ := ob_at hM (rfl : tTy 0 = some (.inr (11, _)))
  obtain ⟨fs2, hfs2⟩ := ob_at t1 (rfl : tTy 119 = some (.inr (12, _)))
  have go : mTo (some (n, f)) 150 (365, 1099, clv, []) M (365, 1838, clv, []) M2 := by
    refine mTo_tr (e_al1 hT hq_law (show aTab 365 1099 = some (.aload_n 1, 1, 0, 0, 0, 0, 0, 0) from rfl) rfl l1) ?_
    refine mTo_tr (e_al1 hT hq_law (show aTab 365 1100 = some (.aload_n 0, 1, 0, 0, 0, 0, 0, 0) from rfl) rfl l0) ?_
    refine mTo_tr (e_il1 hT hq_law (show aTab 365 1101 = some (.iload_n 3, 1, 0, 0, 0, 0, 0, 0) from rfl) rfl l3) ?_
    refine mTo_tr (e_st hT hq_law (show aTab 365 1102 = some (.iconst 1, 1, 0, 0, 0, 0, 0, 0) from rfl) (fr' := (365, 1103, clv, [.int 1, .int x, .ref 0, .ref 9])) (M' := _) rfl) ?_
    refine mTo_tr (e_st hT hq_law (show aTab 365 1103 = some (.iadd, 1, 0, 0, 0, 0, 0, 0) from rfl) (fr' := (365, 1104, clv, [.int (x + 1), .ref 0, .ref 9])) (M' := _) rfl) ?_
    refine mTo_tr (e_ald0 hT hq_law (show aTab 365 1104 = some (.iaload, 1, 0, 0, 0, 0, 0, 0) from rfl) rfl (by omega)) ?_
    rw [← ha1]
    refine mTo_tr (e_call hT hq_law (show aTab 365 1105 = some (.invokevirtual 125, 3, 1, 210, 0, 1, 2, 11) from rfl) rfl ⟨by decide, Nat.le_of_ble_eq_true rfl⟩ hfs1 (Nat.le_of_ble_eq_true rfl) (Nat.le_of_ble_eq_true rfl) ⟨by decide, by decide⟩ p1) ?_
    refine mTo_tr (e_st hT hq_law (show aTab 365 1108 = some (.pop, 1, 0, 0, 0, 0, 0, 0) from rfl) (fr' := (365, 1109, clv, [])) (M' := _) rfl) ?_
    refine mTo_tr (e_al1 hT hq_law (show aTab 365 1109 = some (.aload_n 2, 1, 0, 0, 0, 0, 0, 0) from rfl) rfl l2) ?_
    refine mTo_tr (e_al1 hT hq_law (show aTab 365 1110 = some (.aload_n 0, 1, 0, 0, 0, 0, 0, 0) from rfl) rfl l0) ?_
    refine mTo_tr (e_il1 hT hq_law (show aTab 365 1111 = some (.iload_n 3, 1, 0, 0, 0, 0, 0, 0) from rfl) rfl l3) ?_
    refine mTo_tr (e_st hT hq_law (show aTab 365 1112 = some (.iconst 1, 1, 0, 0, 0, 0, 0, 0) from rfl) (fr' := (365, 1113, clv, [.int 1, .int x, .ref 0, .ref 128])) (M' := _) rfl) ?_
    refine mTo_tr (e_st hT hq_law (show aTab 365 1113 = some (.iadd, 1, 0, 0, 0, 0, 0, 0) from rfl) (fr' := (365, 1114, clv, [.int (x + 1), .ref 0, .ref 128])) (M' := _) rfl) ?_
    refine mTo_tr (e_ald0 hT hq_law (show aTab 365 1114 = some (.iaload, 1, 0, 0, 0, 0, 0, 0) from rfl) rfl (by omega)) ?_
    rw [← ha1]
    refine mTo_tr (e_call hT hq_law (show aTab 365 1115 = some (.invokevirtual 128, 3, 1, 322, 0, 1, 2, 12) from rfl) rfl ⟨by decide, Nat.le_of_ble_eq_true rfl⟩ hfs2 (Nat.le_of_ble_eq_true rfl) (Nat.le_of_ble_eq_true rfl) ⟨by decide, by decide⟩ p2) ?_
    refine mTo_tr (e_st hT hq_law (show aTab 365 1118 = some (.pop, 1, 0, 0, 0, 0, 0, 0) from rfl) (fr' := (365, 1119, clv, [])) (M' := _) rfl) ?_
    refine mTo_tr (e_st hT hq_law (show aTab 365 1119 = some (.goto 719, 3, 0, 0, 0, 0, 0, 0) from rfl) (fr' := (365, 1838, clv, [])) (M' := _) rfl) ?_
    exact mTo_rf
  exact hEnd_to go (hTail hT hn ⟨l0, l1, l2, ⟨x, l3, hx⟩, hb, t2, hR2⟩ he)
theorem hC_28 (hT : aTabOk) {n : Nat} {f : Nat → Int32} (hn : n ≤ 384) (h : hBoth 211 325 2 false) : hStep n f 1122 := by
  intro e clv M hst he
  obtain ⟨l0, l1, l2, ⟨x, l3, hx⟩, hb, hM, hR⟩ := id hst
  have hx1 : (x + 1).toInt = e + 1 := by rw [i32_add (by rw [hx, show (1 : Int32).toInt = 1 from rfl]; omega) (by rw [hx, show (1 : Int32).toInt = 1 from rfl]; omega), hx, show (1 : Int32).toInt = 1 from rfl]
  obtain ⟨a1, ha1⟩ : ∃ a, a = f (x + 1).toInt.toNat := ⟨_, rfl⟩
  have hx2 : (x + 2).toInt = e + 2 := by rw [i32_add (by rw [hx, show (2 : Int32).toInt = 2 from rfl]; omega) (by rw [hx, show (2 : Int32).toInt = 2 from rfl]; omega), hx, show (2 : Int32).toInt = 2 from rfl]
  obtain ⟨a2, ha2⟩ : ∃ a, a = f (x + 2).toInt.toNat := ⟨_, rfl⟩
  obtain ⟨K1, M1, K2, M2, r1, r2, p1, t1, p2, t2, hR2, heq⟩ := h M hM hR [a1, a2] rfl
  obtain ⟨fs1, hfs1⟩ := ob_at hM (rfl : tTy 0 = some (.inr (11, _)))
  obtain ⟨fs2, hfs2⟩ := ob_at t1 (rfl : tTy 119 = some (.inr (12, _)))
  have go : mTo (some (n, f)) 150 (365, 1122, clv, []) M (365, 1838, clv, []) M2 := by
    refine mTo_tr (e_al1 hT hq_law (show aTab 365 1122 = some (.aload_n 1, 1, 0, 0, 0, 0, 0, 0) from rfl) rfl l1) ?_
    refine mTo_tr (e_al1 hT hq_law (show aTab 365 1123 = some (.aload_n 0, 1, 0, 0, 0, 0, 0, 0) from rfl) rfl l0) ?_
    refine mTo_tr (e_il1 hT hq_law (show aTab 365 1124 = some (.iload_n 3, 1, 0, 0, 0, 0, 0, 0) from rfl) rfl l3) ?_
    refine mTo_tr (e_st hT hq_law (show aTab 365 1125 = some (.iconst 1, 1, 0, 0, 0, 0, 0, 0) from rfl) (fr' := (365, 1126, clv, [.int 1, .int x, .ref 0, .ref 9])) (M' := _) rfl) ?_
    refine mTo_tr (e_st hT hq_law (show aTab 365 1126 = some (.iadd, 1, 0, 0, 0, 0, 0, 0) from rfl) (fr' := (365, 1127, clv, [.int (x + 1), .ref 0, .ref 9])) (M' := _) rfl) ?_
    refine mTo_tr (e_ald0 hT hq_law (show aTab 365 1127 = some (.iaload, 1, 0, 0, 0, 0, 0, 0) from rfl) rfl (by omega)) ?_
    rw [← ha1]
    refine mTo_tr (e_al1 hT hq_law (show aTab 365 1128 = some (.aload_n 0, 1, 0, 0, 0, 0, 0, 0) from rfl) rfl l0) ?_
    refine mTo_tr (e_il1 hT hq_law (show aTab 365 1129 = some (.iload_n 3, 1, 0, 0, 0, 0, 0, 0) from rfl) rfl l3) ?_
    refine mTo_tr (e_st hT hq_law (show aTab 365 1130 = some (.iconst 2, 1, 0, 0, 0, 0, 0, 0) from rfl) (fr' := (365, 1131, clv, [.int 2, .int x, .ref 0, .int a1, .ref 9])) (M' := _) rfl) ?_
    refine mTo_tr (e_st hT hq_law (show aTab 365 1131 = some (.iadd, 1, 0, 0, 0, 0, 0, 0) from rfl) (fr' := (365, 1132, clv, [.int (x + 2), .ref 0, .int a1, .ref 9])) (M' := _) rfl) ?_
    refine mTo_tr (e_ald0 hT hq_law (show aTab 365 1132 = some (.iaload, 1, 0, 0, 0, 0, 0, 0) from rfl) rfl (by omega)) ?_
    rw [← ha2]
    refine mTo_tr (e_call hT hq_law (show aTab 365 1133 = some (.invokevirtual 129, 3, 1, 211, 0, 2, 3, 11) from rfl) rfl ⟨by decide, Nat.le_of_ble_eq_true rfl⟩ hfs1 (Nat.le_of_ble_eq_true rfl) (Nat.le_of_ble_eq_true rfl) ⟨by decide, by decide⟩ p1) ?_
    refine mTo_tr (e_st hT hq_law (show aTab 365 1136 = some (.pop, 1, 0, 0, 0, 0, 0, 0) from rfl) (fr' := (365, 1137, clv, [])) (M' := _) rfl) ?_
    refine mTo_tr (e_al1 hT hq_law (show aTab 365 1137 = some (.aload_n 2, 1, 0, 0, 0, 0, 0, 0) from rfl) rfl l2) ?_
    refine mTo_tr (e_al1 hT hq_law (show aTab 365 1138 = some (.aload_n 0, 1, 0, 0, 0, 0, 0, 0) from rfl) rfl l0) ?_
    refine mTo_tr (e_il1 hT hq_law (show aTab 365 1139 = some (.iload_n 3, 1, 0, 0, 0, 0, 0, 0) from rfl) rfl l3) ?_
    refine mTo_tr (e_st hT hq_law (show aTab 365 1140 = some (.iconst 1, 1, 0, 0, 0, 0, 0, 0) from rfl) (fr' := (365, 1141, clv, [.int 1, .int x, .ref 0, .ref 128])) (M' := _) rfl) ?_
    refine mTo_tr (e_st hT hq_law (show aTab 365 1141 = some (.iadd, 1, 0, 0, 0, 0, 0, 0) from rfl) (fr' := (365, 1142, clv, [.int (x + 1), .ref 0, .ref 128])) (M' := _) rfl) ?_
    refine mTo_tr (e_ald0 hT hq_law (show aTab 365 1142 = some (.iaload, 1, 0, 0, 0, 0, 0, 0) from rfl) rfl (by omega)) ?_
    rw [← ha1]
    refine mTo_tr (e_al1 hT hq_law (show aTab 365 1143 = some (.aload_n 0, 1, 0, 0, 0, 0, 0, 0) from rfl) rfl l0) ?_
    refine mTo_tr (e_il1 hT hq_law (show aTab 365 1144 = some (.iload_n 3, 1, 0, 0, 0, 0, 0, 0) from rfl) rfl l3) ?_
    refine mTo_tr (e_st hT hq_law (show aTab 365 1145 = some (.iconst 2, 1, 0, 0, 0, 0, 0, 0) from rfl) (fr' := (365, 1146, clv, [.int 2, .int x, .ref 0, .int a1, .ref 128])) (M' := _) rfl) ?_
    refine mTo_tr (e_st hT hq_law (show aTab 365 1146 = some (.iadd, 1, 0, 0, 0, 0, 0, 0) from rfl) (fr' := (365, 1147, clv, [.int (x + 2), .ref 0, .int a1, .ref 128])) (M' := _) rfl) ?_
    refine mTo_tr (e_ald0 hT hq_law (show aTab 365 1147 = some (.iaload, 1, 0, 0, 0, 0, 0, 0) from rfl) rfl (by omega)) ?_
    rw [← ha2]
    refine mTo_tr (e_call hT hq_law (show aTab 365 1148 = some (.invokevirtual 132, 3, 1, 325, 0, 2, 3, 12) from rfl) rfl ⟨by decide, Nat.le_of_ble_eq_true rfl⟩ hfs2 (Nat.le_of_ble_eq_true rfl) (Nat.le_of_ble_eq_true rfl) ⟨by decide, by decide⟩ p2) ?_
    refine mTo_tr (e_st hT hq_law (show aTab 365 1151 = some (.pop, 1, 0, 0, 0, 0, 0, 0) from rfl) (fr' := (365, 1152, clv, [])) (M' := _) rfl) ?_
    refine mTo_tr (e_st hT hq_law (show aTab 365 1152 = some (.goto 686, 3, 0, 0, 0, 0, 0, 0) from rfl) (fr' := (365, 1838, clv, [])) (M' := _) rfl) ?_
    exact mTo_rf
  exact hEnd_to go (hTail hT hn ⟨l0, l1, l2, ⟨x, l3, hx⟩, hb, t2, hR2⟩ he)
theorem hC_29 (hT : aTabOk) {n : Nat} {f : Nat → Int32} (hn : n ≤ 384) (h : hBoth 212 328 1 false) : hStep n f 1155 := by
  intro e clv M hst he
  obtain ⟨l0, l1, l2, ⟨x, l3, hx⟩, hb, hM, hR⟩ := id hst
  have hx1 : (x + 1).toInt = e + 1 := by rw [i32_add (by rw [hx, show (1 : Int32).toInt = 1 from rfl]; omega) (by rw [hx, show (1 : Int32).toInt = 1 from rfl]; omega), hx, show (1 : Int32).toInt = 1 from rfl]
  obtain ⟨a1, ha1⟩ : ∃ a, a = f (x + 1).toInt.toNat := ⟨_, rfl⟩
  obtain ⟨K1, M1, K2, M2, r1, r2, p1, t1, p2, t2, hR2, heq⟩ := h M hM hR [a1] rfl
  obtain ⟨fs1, hfs1⟩ := ob_at hM (rfl : tTy 0 = some (.inr (11, _)))
  obtain ⟨fs2, hfs2⟩ := ob_at t1 (rfl : tTy 119 = some (.inr (12, _)))
  have go : mTo (some (n, f)) 150 (365, 1155, clv, []) M (365, 1838, clv, []) M2 := by
    refine mTo_tr (e_al1 hT hq_law (show aTab 365 1155 = some (.aload_n 1, 1, 0, 0, 0, 0, 0, 0) from rfl) rfl l1) ?_
    refine mTo_tr (e_al1 hT hq_law (show aTab 365 1156 = some (.aload_n 0, 1, 0, 0, 0, 0, 0, 0) from rfl) rfl l0) ?_
    refine mTo_tr (e_il1 hT hq_law (show aTab 365 1157 = some (.iload_n 3, 1, 0, 0, 0, 0, 0, 0) from rfl) rfl l3) ?_
    refine mTo_tr (e_st hT hq_law (show aTab 365 1158 = some (.iconst 1, 1, 0, 0, 0, 0, 0, 0) from rfl) (fr' := (365, 1159, clv, [.int 1, .int x, .ref 0, .ref 9])) (M' := _) rfl) ?_
    refine mTo_tr (e_st hT hq_law (show aTab 365 1159 = some (.iadd, 1, 0, 0, 0, 0, 0, 0) from rfl) (fr' := (365, 1160, clv, [.int (x + 1), .ref 0, .ref 9])) (M' := _) rfl) ?_
    refine mTo_tr (e_ald0 hT hq_law (show aTab 365 1160 = some (.iaload, 1, 0, 0, 0, 0, 0, 0) from rfl) rfl (by omega)) ?_
    rw [← ha1]
    refine mTo_tr (e_call hT hq_law (show aTab 365 1161 = some (.invokevirtual 133, 3, 1, 212, 0, 1, 2, 11) from rfl) rfl ⟨by decide, Nat.le_of_ble_eq_true rfl⟩ hfs1 (Nat.le_of_ble_eq_true rfl) (Nat.le_of_ble_eq_true rfl) ⟨by decide, by decide⟩ p1) ?_
    refine mTo_tr (e_st hT hq_law (show aTab 365 1164 = some (.pop, 1, 0, 0, 0, 0, 0, 0) from rfl) (fr' := (365, 1165, clv, [])) (M' := _) rfl) ?_
    refine mTo_tr (e_al1 hT hq_law (show aTab 365 1165 = some (.aload_n 2, 1, 0, 0, 0, 0, 0, 0) from rfl) rfl l2) ?_
    refine mTo_tr (e_al1 hT hq_law (show aTab 365 1166 = some (.aload_n 0, 1, 0, 0, 0, 0, 0, 0) from rfl) rfl l0) ?_
    refine mTo_tr (e_il1 hT hq_law (show aTab 365 1167 = some (.iload_n 3, 1, 0, 0, 0, 0, 0, 0) from rfl) rfl l3) ?_
    refine mTo_tr (e_st hT hq_law (show aTab 365 1168 = some (.iconst 1, 1, 0, 0, 0, 0, 0, 0) from rfl) (fr' := (365, 1169, clv, [.int 1, .int x, .ref 0, .ref 128])) (M' := _) rfl) ?_
    refine mTo_tr (e_st hT hq_law (show aTab 365 1169 = some (.iadd, 1, 0, 0, 0, 0, 0, 0) from rfl) (fr' := (365, 1170, clv, [.int (x + 1), .ref 0, .ref 128])) (M' := _) rfl) ?_
    refine mTo_tr (e_ald0 hT hq_law (show aTab 365 1170 = some (.iaload, 1, 0, 0, 0, 0, 0, 0) from rfl) rfl (by omega)) ?_
    rw [← ha1]
    refine mTo_tr (e_call hT hq_law (show aTab 365 1171 = some (.invokevirtual 136, 3, 1, 328, 0, 1, 6, 12) from rfl) rfl ⟨by decide, Nat.le_of_ble_eq_true rfl⟩ hfs2 (Nat.le_of_ble_eq_true rfl) (Nat.le_of_ble_eq_true rfl) ⟨by decide, by decide⟩ p2) ?_
    refine mTo_tr (e_st hT hq_law (show aTab 365 1174 = some (.pop, 1, 0, 0, 0, 0, 0, 0) from rfl) (fr' := (365, 1175, clv, [])) (M' := _) rfl) ?_
    refine mTo_tr (e_st hT hq_law (show aTab 365 1175 = some (.goto 663, 3, 0, 0, 0, 0, 0, 0) from rfl) (fr' := (365, 1838, clv, [])) (M' := _) rfl) ?_
    exact mTo_rf
  exact hEnd_to go (hTail hT hn ⟨l0, l1, l2, ⟨x, l3, hx⟩, hb, t2, hR2⟩ he)
theorem hC_30 (hT : aTabOk) {n : Nat} {f : Nat → Int32} (hn : n ≤ 384) (h : hBoth 213 329 0 false) : hStep n f 1178 := by
  intro e clv M hst he
  obtain ⟨l0, l1, l2, ⟨x, l3, hx⟩, hb, hM, hR⟩ := id hst
  obtain ⟨K1, M1, K2, M2, r1, r2, p1, t1, p2, t2, hR2, heq⟩ := h M hM hR [] rfl
  obtain ⟨fs1, hfs1⟩ := ob_at hM (rfl : tTy 0 = some (.inr (11, _)))
  obtain ⟨fs2, hfs2⟩ := ob_at t1 (rfl : tTy 119 = some (.inr (12, _)))
  have go : mTo (some (n, f)) 150 (365, 1178, clv, []) M (365, 1838, clv, []) M2 := by
    refine mTo_tr (e_al1 hT hq_law (show aTab 365 1178 = some (.aload_n 1, 1, 0, 0, 0, 0, 0, 0) from rfl) rfl l1) ?_
    refine mTo_tr (e_call hT hq_law (show aTab 365 1179 = some (.invokevirtual 137, 3, 1, 213, 0, 0, 1, 11) from rfl) rfl ⟨by decide, Nat.le_of_ble_eq_true rfl⟩ hfs1 (Nat.le_of_ble_eq_true rfl) (Nat.le_of_ble_eq_true rfl) ⟨by decide, by decide⟩ p1) ?_
    refine mTo_tr (e_st hT hq_law (show aTab 365 1182 = some (.pop, 1, 0, 0, 0, 0, 0, 0) from rfl) (fr' := (365, 1183, clv, [])) (M' := _) rfl) ?_
    refine mTo_tr (e_al1 hT hq_law (show aTab 365 1183 = some (.aload_n 2, 1, 0, 0, 0, 0, 0, 0) from rfl) rfl l2) ?_
    refine mTo_tr (e_call hT hq_law (show aTab 365 1184 = some (.invokevirtual 141, 3, 1, 329, 0, 0, 6, 12) from rfl) rfl ⟨by decide, Nat.le_of_ble_eq_true rfl⟩ hfs2 (Nat.le_of_ble_eq_true rfl) (Nat.le_of_ble_eq_true rfl) ⟨by decide, by decide⟩ p2) ?_
    refine mTo_tr (e_st hT hq_law (show aTab 365 1187 = some (.pop, 1, 0, 0, 0, 0, 0, 0) from rfl) (fr' := (365, 1188, clv, [])) (M' := _) rfl) ?_
    refine mTo_tr (e_st hT hq_law (show aTab 365 1188 = some (.goto 650, 3, 0, 0, 0, 0, 0, 0) from rfl) (fr' := (365, 1838, clv, [])) (M' := _) rfl) ?_
    exact mTo_rf
  exact hEnd_to go (hTail hT hn ⟨l0, l1, l2, ⟨x, l3, hx⟩, hb, t2, hR2⟩ he)
theorem hC_31 (hT : aTabOk) {n : Nat} {f : Nat → Int32} (hn : n ≤ 384) (h : hBoth 214 331 3 false) : hStep n f 1191 := by
  intro e clv M hst he
  obtain ⟨l0, l1, l2, ⟨x, l3, hx⟩, hb, hM, hR⟩ := id hst
  have hx1 : (x + 1).toInt = e + 1 := by rw [i32_add (by rw [hx, show (1 : Int32).toInt = 1 from rfl]; omega) (by rw [hx, show (1 : Int32).toInt = 1 from rfl]; omega), hx, show (1 : Int32).toInt = 1 from rfl]
  obtain ⟨a1, ha1⟩ : ∃ a, a = f (x + 1).toInt.toNat := ⟨_, rfl⟩
  have hx2 : (x + 2).toInt = e + 2 := by rw [i32_add (by rw [hx, show (2 : Int32).toInt = 2 from rfl]; omega) (by rw [hx, show (2 : Int32).toInt = 2 from rfl]; omega), hx, show (2 : Int32).toInt = 2 from rfl]
  obtain ⟨a2, ha2⟩ : ∃ a, a = f (x + 2).toInt.toNat := ⟨_, rfl⟩
  have hx3 : (x + 3).toInt = e + 3 := by rw [i32_add (by rw [hx, show (3 : Int32).toInt = 3 from rfl]; omega) (by rw [hx, show (3 : Int32).toInt = 3 from rfl]; omega), hx, show (3 : Int32).toInt = 3 from rfl]
  obtain ⟨a3, ha3⟩ : ∃ a, a = f (x + 3).toInt.toNat := ⟨_, rfl⟩
  obtain ⟨K1, M1, K2, M2, r1, r2, p1, t1, p2, t2, hR2, heq⟩ := h M hM hR [a1, a2, a3] rfl
  obtain ⟨fs1, hfs1⟩ := ob_at hM (rfl : tTy 0 = some (.inr (11, _)))
  obtain ⟨fs2, hfs2⟩ := ob_at t1 (rfl : tTy 119 = some (.inr (12, _)))
  have go : mTo (some (n, f)) 150 (365, 1191, clv, []) M (365, 1838, clv, []) M2 := by
    refine mTo_tr (e_al1 hT hq_law (show aTab 365 1191 = some (.aload_n 1, 1, 0, 0, 0, 0, 0, 0) from rfl) rfl l1) ?_
    refine mTo_tr (e_al1 hT hq_law (show aTab 365 1192 = some (.aload_n 0, 1, 0, 0, 0, 0, 0, 0) from rfl) rfl l0) ?_
    refine mTo_tr (e_il1 hT hq_law (show aTab 365 1193 = some (.iload_n 3, 1, 0, 0, 0, 0, 0, 0) from rfl) rfl l3) ?_
    refine mTo_tr (e_st hT hq_law (show aTab 365 1194 = some (.iconst 1, 1, 0, 0, 0, 0, 0, 0) from rfl) (fr' := (365, 1195, clv, [.int 1, .int x, .ref 0, .ref 9])) (M' := _) rfl) ?_
    refine mTo_tr (e_st hT hq_law (show aTab 365 1195 = some (.iadd, 1, 0, 0, 0, 0, 0, 0) from rfl) (fr' := (365, 1196, clv, [.int (x + 1), .ref 0, .ref 9])) (M' := _) rfl) ?_
    refine mTo_tr (e_ald0 hT hq_law (show aTab 365 1196 = some (.iaload, 1, 0, 0, 0, 0, 0, 0) from rfl) rfl (by omega)) ?_
    rw [← ha1]
    refine mTo_tr (e_al1 hT hq_law (show aTab 365 1197 = some (.aload_n 0, 1, 0, 0, 0, 0, 0, 0) from rfl) rfl l0) ?_
    refine mTo_tr (e_il1 hT hq_law (show aTab 365 1198 = some (.iload_n 3, 1, 0, 0, 0, 0, 0, 0) from rfl) rfl l3) ?_
    refine mTo_tr (e_st hT hq_law (show aTab 365 1199 = some (.iconst 2, 1, 0, 0, 0, 0, 0, 0) from rfl) (fr' := (365, 1200, clv, [.int 2, .int x, .ref 0, .int a1, .ref 9])) (M' := _) rfl) ?_
    refine mTo_tr (e_st hT hq_law (show aTab 365 1200 = some (.iadd, 1, 0, 0, 0, 0, 0, 0) from rfl) (fr' := (365, 1201, clv, [.int (x + 2), .ref 0, .int a1, .ref 9])) (M' := _) rfl) ?_
    refine mTo_tr (e_ald0 hT hq_law (show aTab 365 1201 = some (.iaload, 1, 0, 0, 0, 0, 0, 0) from rfl) rfl (by omega)) ?_
    rw [← ha2]
    refine mTo_tr (e_al1 hT hq_law (show aTab 365 1202 = some (.aload_n 0, 1, 0, 0, 0, 0, 0, 0) from rfl) rfl l0) ?_
    refine mTo_tr (e_il1 hT hq_law (show aTab 365 1203 = some (.iload_n 3, 1, 0, 0, 0, 0, 0, 0) from rfl) rfl l3) ?_
    refine mTo_tr (e_st hT hq_law (show aTab 365 1204 = some (.iconst 3, 1, 0, 0, 0, 0, 0, 0) from rfl) (fr' := (365, 1205, clv, [.int 3, .int x, .ref 0, .int a2, .int a1, .ref 9])) (M' := _) rfl) ?_
    refine mTo_tr (e_st hT hq_law (show aTab 365 1205 = some (.iadd, 1, 0, 0, 0, 0, 0, 0) from rfl) (fr' := (365, 1206, clv, [.int (x + 3), .ref 0, .int a2, .int a1, .ref 9])) (M' := _) rfl) ?_
    refine mTo_tr (e_ald0 hT hq_law (show aTab 365 1206 = some (.iaload, 1, 0, 0, 0, 0, 0, 0) from rfl) rfl (by omega)) ?_
    rw [← ha3]
    refine mTo_tr (e_call hT hq_law (show aTab 365 1207 = some (.invokevirtual 142, 3, 1, 214, 0, 3, 4, 11) from rfl) rfl ⟨by decide, Nat.le_of_ble_eq_true rfl⟩ hfs1 (Nat.le_of_ble_eq_true rfl) (Nat.le_of_ble_eq_true rfl) ⟨by decide, by decide⟩ p1) ?_
    refine mTo_tr (e_st hT hq_law (show aTab 365 1210 = some (.pop, 1, 0, 0, 0, 0, 0, 0) from rfl) (fr' := (365, 1211, clv, [])) (M' := _) rfl) ?_
    refine mTo_tr (e_al1 hT hq_law (show aTab 365 1211 = some (.aload_n 2, 1, 0, 0, 0, 0, 0, 0) from rfl) rfl l2) ?_
    refine mTo_tr (e_al1 hT hq_law (show aTab 365 1212 = some (.aload_n 0, 1, 0, 0, 0, 0, 0, 0) from rfl) rfl l0) ?_
    refine mTo_tr (e_il1 hT hq_law (show aTab 365 1213 = some (.iload_n 3, 1, 0, 0, 0, 0, 0, 0) from rfl) rfl l3) ?_
    refine mTo_tr (e_st hT hq_law (show aTab 365 1214 = some (.iconst 1, 1, 0, 0, 0, 0, 0, 0) from rfl) (fr' := (365, 1215, clv, [.int 1, .int x, .ref 0, .ref 128])) (M' := _) rfl) ?_
    refine mTo_tr (e_st hT hq_law (show aTab 365 1215 = some (.iadd, 1, 0, 0, 0, 0, 0, 0) from rfl) (fr' := (365, 1216, clv, [.int (x + 1), .ref 0, .ref 128])) (M' := _) rfl) ?_
    refine mTo_tr (e_ald0 hT hq_law (show aTab 365 1216 = some (.iaload, 1, 0, 0, 0, 0, 0, 0) from rfl) rfl (by omega)) ?_
    rw [← ha1]
    refine mTo_tr (e_al1 hT hq_law (show aTab 365 1217 = some (.aload_n 0, 1, 0, 0, 0, 0, 0, 0) from rfl) rfl l0) ?_
    refine mTo_tr (e_il1 hT hq_law (show aTab 365 1218 = some (.iload_n 3, 1, 0, 0, 0, 0, 0, 0) from rfl) rfl l3) ?_
    refine mTo_tr (e_st hT hq_law (show aTab 365 1219 = some (.iconst 2, 1, 0, 0, 0, 0, 0, 0) from rfl) (fr' := (365, 1220, clv, [.int 2, .int x, .ref 0, .int a1, .ref 128])) (M' := _) rfl) ?_
    refine mTo_tr (e_st hT hq_law (show aTab 365 1220 = some (.iadd, 1, 0, 0, 0, 0, 0, 0) from rfl) (fr' := (365, 1221, clv, [.int (x + 2), .ref 0, .int a1, .ref 128])) (M' := _) rfl) ?_
    refine mTo_tr (e_ald0 hT hq_law (show aTab 365 1221 = some (.iaload, 1, 0, 0, 0, 0, 0, 0) from rfl) rfl (by omega)) ?_
    rw [← ha2]
    refine mTo_tr (e_al1 hT hq_law (show aTab 365 1222 = some (.aload_n 0, 1, 0, 0, 0, 0, 0, 0) from rfl) rfl l0) ?_
    refine mTo_tr (e_il1 hT hq_law (show aTab 365 1223 = some (.iload_n 3, 1, 0, 0, 0, 0, 0, 0) from rfl) rfl l3) ?_
    refine mTo_tr (e_st hT hq_law (show aTab 365 1224 = some (.iconst 3, 1, 0, 0, 0, 0, 0, 0) from rfl) (fr' := (365, 1225, clv, [.int 3, .int x, .ref 0, .int a2, .int a1, .ref 128])) (M' := _) rfl) ?_
    refine mTo_tr (e_st hT hq_law (show aTab 365 1225 = some (.iadd, 1, 0, 0, 0, 0, 0, 0) from rfl) (fr' := (365, 1226, clv, [.int (x + 3), .ref 0, .int a2, .int a1, .ref 128])) (M' := _) rfl) ?_
    refine mTo_tr (e_ald0 hT hq_law (show aTab 365 1226 = some (.iaload, 1, 0, 0, 0, 0, 0, 0) from rfl) rfl (by omega)) ?_
    rw [← ha3]
    refine mTo_tr (e_call hT hq_law (show aTab 365 1227 = some (.invokevirtual 145, 3, 1, 331, 0, 3, 5, 12) from rfl) rfl ⟨by decide, Nat.le_of_ble_eq_true rfl⟩ hfs2 (Nat.le_of_ble_eq_true rfl) (Nat.le_of_ble_eq_true rfl) ⟨by decide, by decide⟩ p2) ?_
    refine mTo_tr (e_st hT hq_law (show aTab 365 1230 = some (.pop, 1, 0, 0, 0, 0, 0, 0) from rfl) (fr' := (365, 1231, clv, [])) (M' := _) rfl) ?_
    refine mTo_tr (e_st hT hq_law (show aTab 365 1231 = some (.goto 607, 3, 0, 0, 0, 0, 0, 0) from rfl) (fr' := (365, 1838, clv, [])) (M' := _) rfl) ?_
    exact mTo_rf
  exact hEnd_to go (hTail hT hn ⟨l0, l1, l2, ⟨x, l3, hx⟩, hb, t2, hR2⟩ he)
theorem hC_32 (hT : aTabOk) {n : Nat} {f : Nat → Int32} (hn : n ≤ 384) (h : hBoth 215 332 3 false) : hStep n f 1234 := by
  intro e clv M hst he
  obtain ⟨l0, l1, l2, ⟨x, l3, hx⟩, hb, hM, hR⟩ := id hst
  have hx1 : (x + 1).toInt = e + 1 := by rw [i32_add (by rw [hx, show (1 : Int32).toInt = 1 from rfl]; omega) (by rw [hx, show (1 : Int32).toInt = 1 from rfl]; omega), hx, show (1 : Int32).toInt = 1 from rfl]
  obtain ⟨a1, ha1⟩ : ∃ a, a = f (x + 1).toInt.toNat := ⟨_, rfl⟩
  have hx2 : (x + 2).toInt = e + 2 := by rw [i32_add (by rw [hx, show (2 : Int32).toInt = 2 from rfl]; omega) (by rw [hx, show (2 : Int32).toInt = 2 from rfl]; omega), hx, show (2 : Int32).toInt = 2 from rfl]
  obtain ⟨a2, ha2⟩ : ∃ a, a = f (x + 2).toInt.toNat := ⟨_, rfl⟩
  have hx3 : (x + 3).toInt = e + 3 := by rw [i32_add (by rw [hx, show (3 : Int32).toInt = 3 from rfl]; omega) (by rw [hx, show (3 : Int32).toInt = 3 from rfl]; omega), hx, show (3 : Int32).toInt = 3 from rfl]
  obtain ⟨a3, ha3⟩ : ∃ a, a = f (x + 3).toInt.toNat := ⟨_, rfl⟩
  obtain ⟨K1, M1, K2, M2, r1, r2, p1, t1, p2, t2, hR2, heq⟩ := h M hM hR [a1, a2, a3] rfl
  obtain ⟨fs1, hfs1⟩ := ob_at hM (rfl : tTy 0 = some (.inr (11, _)))
  obtain ⟨fs2, hfs2⟩ := ob_at t1 (rfl : tTy 119 = some (.inr (12, _)))
  have go : mTo (some (n, f)) 150 (365, 1234, clv, []) M (365, 1838, clv, []) M2 := by
    refine mTo_tr (e_al1 hT hq_law (show aTab 365 1234 = some (.aload_n 1, 1, 0, 0, 0, 0, 0, 0) from rfl) rfl l1) ?_
    refine mTo_tr (e_al1 hT hq_law (show aTab 365 1235 = some (.aload_n 0, 1, 0, 0, 0, 0, 0, 0) from rfl) rfl l0) ?_
    refine mTo_tr (e_il1 hT hq_law (show aTab 365 1236 = some (.iload_n 3, 1, 0, 0, 0, 0, 0, 0) from rfl) rfl l3) ?_
    refine mTo_tr (e_st hT hq_law (show aTab 365 1237 = some (.iconst 1, 1, 0, 0, 0, 0, 0, 0) from rfl) (fr' := (365, 1238, clv, [.int 1, .int x, .ref 0, .ref 9])) (M' := _) rfl) ?_
    refine mTo_tr (e_st hT hq_law (show aTab 365 1238 = some (.iadd, 1, 0, 0, 0, 0, 0, 0) from rfl) (fr' := (365, 1239, clv, [.int (x + 1), .ref 0, .ref 9])) (M' := _) rfl) ?_
    refine mTo_tr (e_ald0 hT hq_law (show aTab 365 1239 = some (.iaload, 1, 0, 0, 0, 0, 0, 0) from rfl) rfl (by omega)) ?_
    rw [← ha1]
    refine mTo_tr (e_al1 hT hq_law (show aTab 365 1240 = some (.aload_n 0, 1, 0, 0, 0, 0, 0, 0) from rfl) rfl l0) ?_
    refine mTo_tr (e_il1 hT hq_law (show aTab 365 1241 = some (.iload_n 3, 1, 0, 0, 0, 0, 0, 0) from rfl) rfl l3) ?_
    refine mTo_tr (e_st hT hq_law (show aTab 365 1242 = some (.iconst 2, 1, 0, 0, 0, 0, 0, 0) from rfl) (fr' := (365, 1243, clv, [.int 2, .int x, .ref 0, .int a1, .ref 9])) (M' := _) rfl) ?_
    refine mTo_tr (e_st hT hq_law (show aTab 365 1243 = some (.iadd, 1, 0, 0, 0, 0, 0, 0) from rfl) (fr' := (365, 1244, clv, [.int (x + 2), .ref 0, .int a1, .ref 9])) (M' := _) rfl) ?_
    refine mTo_tr (e_ald0 hT hq_law (show aTab 365 1244 = some (.iaload, 1, 0, 0, 0, 0, 0, 0) from rfl) rfl (by omega)) ?_
    rw [← ha2]
    refine mTo_tr (e_al1 hT hq_law (show aTab 365 1245 = some (.aload_n 0, 1, 0, 0, 0, 0, 0, 0) from rfl) rfl l0) ?_
    refine mTo_tr (e_il1 hT hq_law (show aTab 365 1246 = some (.iload_n 3, 1, 0, 0, 0, 0, 0, 0) from rfl) rfl l3) ?_
    refine mTo_tr (e_st hT hq_law (show aTab 365 1247 = some (.iconst 3, 1, 0, 0, 0, 0, 0, 0) from rfl) (fr' := (365, 1248, clv, [.int 3, .int x, .ref 0, .int a2, .int a1, .ref 9])) (M' := _) rfl) ?_
    refine mTo_tr (e_st hT hq_law (show aTab 365 1248 = some (.iadd, 1, 0, 0, 0, 0, 0, 0) from rfl) (fr' := (365, 1249, clv, [.int (x + 3), .ref 0, .int a2, .int a1, .ref 9])) (M' := _) rfl) ?_
    refine mTo_tr (e_ald0 hT hq_law (show aTab 365 1249 = some (.iaload, 1, 0, 0, 0, 0, 0, 0) from rfl) rfl (by omega)) ?_
    rw [← ha3]
    refine mTo_tr (e_call hT hq_law (show aTab 365 1250 = some (.invokevirtual 146, 3, 1, 215, 0, 3, 4, 11) from rfl) rfl ⟨by decide, Nat.le_of_ble_eq_true rfl⟩ hfs1 (Nat.le_of_ble_eq_true rfl) (Nat.le_of_ble_eq_true rfl) ⟨by decide, by decide⟩ p1) ?_
    refine mTo_tr (e_st hT hq_law (show aTab 365 1253 = some (.pop, 1, 0, 0, 0, 0, 0, 0) from rfl) (fr' := (365, 1254, clv, [])) (M' := _) rfl) ?_
    refine mTo_tr (e_al1 hT hq_law (show aTab 365 1254 = some (.aload_n 2, 1, 0, 0, 0, 0, 0, 0) from rfl) rfl l2) ?_
    refine mTo_tr (e_al1 hT hq_law (show aTab 365 1255 = some (.aload_n 0, 1, 0, 0, 0, 0, 0, 0) from rfl) rfl l0) ?_
    refine mTo_tr (e_il1 hT hq_law (show aTab 365 1256 = some (.iload_n 3, 1, 0, 0, 0, 0, 0, 0) from rfl) rfl l3) ?_
    refine mTo_tr (e_st hT hq_law (show aTab 365 1257 = some (.iconst 1, 1, 0, 0, 0, 0, 0, 0) from rfl) (fr' := (365, 1258, clv, [.int 1, .int x, .ref 0, .ref 128])) (M' := _) rfl) ?_
    refine mTo_tr (e_st hT hq_law (show aTab 365 1258 = some (.iadd, 1, 0, 0, 0, 0, 0, 0) from rfl) (fr' := (365, 1259, clv, [.int (x + 1), .ref 0, .ref 128])) (M' := _) rfl) ?_
    refine mTo_tr (e_ald0 hT hq_law (show aTab 365 1259 = some (.iaload, 1, 0, 0, 0, 0, 0, 0) from rfl) rfl (by omega)) ?_
    rw [← ha1]
    refine mTo_tr (e_al1 hT hq_law (show aTab 365 1260 = some (.aload_n 0, 1, 0, 0, 0, 0, 0, 0) from rfl) rfl l0) ?_
    refine mTo_tr (e_il1 hT hq_law (show aTab 365 1261 = some (.iload_n 3, 1, 0, 0, 0, 0, 0, 0) from rfl) rfl l3) ?_
    refine mTo_tr (e_st hT hq_law (show aTab 365 1262 = some (.iconst 2, 1, 0, 0, 0, 0, 0, 0) from rfl) (fr' := (365, 1263, clv, [.int 2, .int x, .ref 0, .int a1, .ref 128])) (M' := _) rfl) ?_
    refine mTo_tr (e_st hT hq_law (show aTab 365 1263 = some (.iadd, 1, 0, 0, 0, 0, 0, 0) from rfl) (fr' := (365, 1264, clv, [.int (x + 2), .ref 0, .int a1, .ref 128])) (M' := _) rfl) ?_
    refine mTo_tr (e_ald0 hT hq_law (show aTab 365 1264 = some (.iaload, 1, 0, 0, 0, 0, 0, 0) from rfl) rfl (by omega)) ?_
    rw [← ha2]
    refine mTo_tr (e_al1 hT hq_law (show aTab 365 1265 = some (.aload_n 0, 1, 0, 0, 0, 0, 0, 0) from rfl) rfl l0) ?_
    refine mTo_tr (e_il1 hT hq_law (show aTab 365 1266 = some (.iload_n 3, 1, 0, 0, 0, 0, 0, 0) from rfl) rfl l3) ?_
    refine mTo_tr (e_st hT hq_law (show aTab 365 1267 = some (.iconst 3, 1, 0, 0, 0, 0, 0, 0) from rfl) (fr' := (365, 1268, clv, [.int 3, .int x, .ref 0, .int a2, .int a1, .ref 128])) (M' := _) rfl) ?_
    refine mTo_tr (e_st hT hq_law (show aTab 365 1268 = some (.iadd, 1, 0, 0, 0, 0, 0, 0) from rfl) (fr' := (365, 1269, clv, [.int (x + 3), .ref 0, .int a2, .int a1, .ref 128])) (M' := _) rfl) ?_
    refine mTo_tr (e_ald0 hT hq_law (show aTab 365 1269 = some (.iaload, 1, 0, 0, 0, 0, 0, 0) from rfl) rfl (by omega)) ?_
    rw [← ha3]
    refine mTo_tr (e_call hT hq_law (show aTab 365 1270 = some (.invokevirtual 149, 3, 1, 332, 0, 3, 4, 12) from rfl) rfl ⟨by decide, Nat.le_of_ble_eq_true rfl⟩ hfs2 (Nat.le_of_ble_eq_true rfl) (Nat.le_of_ble_eq_true rfl) ⟨by decide, by decide⟩ p2) ?_
    refine mTo_tr (e_st hT hq_law (show aTab 365 1273 = some (.pop, 1, 0, 0, 0, 0, 0, 0) from rfl) (fr' := (365, 1274, clv, [])) (M' := _) rfl) ?_
    refine mTo_tr (e_st hT hq_law (show aTab 365 1274 = some (.goto 564, 3, 0, 0, 0, 0, 0, 0) from rfl) (fr' := (365, 1838, clv, [])) (M' := _) rfl) ?_
    exact mTo_rf
  exact hEnd_to go (hTail hT hn ⟨l0, l1, l2, ⟨x, l3, hx⟩, hb, t2, hR2⟩ he)
theorem hC_33 (hT : aTabOk) {n : Nat} {f : Nat → Int32} (hn : n ≤ 384) (h : hBoth 216 334 2 false) : hStep n f 1277 := by
  intro e clv M hst he
  obtain ⟨l0, l1, l2, ⟨x, l3, hx⟩, hb, hM, hR⟩ := id hst
  have hx1 : (x + 1).toInt = e + 1 := by rw [i32_add (by rw [hx, show (1 : Int32).toInt = 1 from rfl]; omega) (by rw [hx, show (1 : Int32).toInt = 1 from rfl]; omega), hx, show (1 : Int32).toInt = 1 from rfl]
  obtain ⟨a1, ha1⟩ : ∃ a, a = f (x + 1).toInt.toNat := ⟨_, rfl⟩
  have hx2 : (x + 2).toInt = e + 2 := by rw [i32_add (by rw [hx, show (2 : Int32).toInt = 2 from rfl]; omega) (by rw [hx, show (2 : Int32).toInt = 2 from rfl]; omega), hx, show (2 : Int32).toInt = 2 from rfl]
  obtain ⟨a2, ha2⟩ : ∃ a, a = f (x + 2).toInt.toNat := ⟨_, rfl⟩
  obtain ⟨K1, M1, K2, M2, r1, r2, p1, t1, p2, t2, hR2, heq⟩ := h M hM hR [a1, a2] rfl
  obtain ⟨fs1, hfs1⟩ := ob_at hM (rfl : tTy 0 = some (.inr (11, _)))
  obtain ⟨fs2, hfs2⟩ := ob_at t1 (rfl : tTy 119 = some (.inr (12, _)))
  have go : mTo (some (n, f)) 150 (365, 1277, clv, []) M (365, 1838, clv, []) M2 := by
    refine mTo_tr (e_al1 hT hq_law (show aTab 365 1277 = some (.aload_n 1, 1, 0, 0, 0, 0, 0, 0) from rfl) rfl l1) ?_
    refine mTo_tr (e_al1 hT hq_law (show aTab 365 1278 = some (.aload_n 0, 1, 0, 0, 0, 0, 0, 0) from rfl) rfl l0) ?_
    refine mTo_tr (e_il1 hT hq_law (show aTab 365 1279 = some (.iload_n 3, 1, 0, 0, 0, 0, 0, 0) from rfl) rfl l3) ?_
    refine mTo_tr (e_st hT hq_law (show aTab 365 1280 = some (.iconst 1, 1, 0, 0, 0, 0, 0, 0) from rfl) (fr' := (365, 1281, clv, [.int 1, .int x, .ref 0, .ref 9])) (M' := _) rfl) ?_
    refine mTo_tr (e_st hT hq_law (show aTab 365 1281 = some (.iadd, 1, 0, 0, 0, 0, 0, 0) from rfl) (fr' := (365, 1282, clv, [.int (x + 1), .ref 0, .ref 9])) (M' := _) rfl) ?_
    refine mTo_tr (e_ald0 hT hq_law (show aTab 365 1282 = some (.iaload, 1, 0, 0, 0, 0, 0, 0) from rfl) rfl (by omega)) ?_
    rw [← ha1]
    refine mTo_tr (e_al1 hT hq_law (show aTab 365 1283 = some (.aload_n 0, 1, 0, 0, 0, 0, 0, 0) from rfl) rfl l0) ?_
    refine mTo_tr (e_il1 hT hq_law (show aTab 365 1284 = some (.iload_n 3, 1, 0, 0, 0, 0, 0, 0) from rfl) rfl l3) ?_
    refine mTo_tr (e_st hT hq_law (show aTab 365 1285 = some (.iconst 2, 1, 0, 0, 0, 0, 0, 0) from rfl) (fr' := (365, 1286, clv, [.int 2, .int x, .ref 0, .int a1, .ref 9])) (M' := _) rfl) ?_
    refine mTo_tr (e_st hT hq_law (show aTab 365 1286 = some (.iadd, 1, 0, 0, 0, 0, 0, 0) from rfl) (fr' := (365, 1287, clv, [.int (x + 2), .ref 0, .int a1, .ref 9])) (M' := _) rfl) ?_
    refine mTo_tr (e_ald0 hT hq_law (show aTab 365 1287 = some (.iaload, 1, 0, 0, 0, 0, 0, 0) from rfl) rfl (by omega)) ?_
    rw [← ha2]
    refine mTo_tr (e_call hT hq_law (show aTab 365 1288 = some (.invokevirtual 150, 3, 1, 216, 0, 2, 3, 11) from rfl) rfl ⟨by decide, Nat.le_of_ble_eq_true rfl⟩ hfs1 (Nat.le_of_ble_eq_true rfl) (Nat.le_of_ble_eq_true rfl) ⟨by decide, by decide⟩ p1) ?_
    refine mTo_tr (e_st hT hq_law (show aTab 365 1291 = some (.pop, 1, 0, 0, 0, 0, 0, 0) from rfl) (fr' := (365, 1292, clv, [])) (M' := _) rfl) ?_
    refine mTo_tr (e_al1 hT hq_law (show aTab 365 1292 = some (.aload_n 2, 1, 0, 0, 0, 0, 0, 0) from rfl) rfl l2) ?_
    refine mTo_tr (e_al1 hT hq_law (show aTab 365 1293 = some (.aload_n 0, 1, 0, 0, 0, 0, 0, 0) from rfl) rfl l0) ?_
    refine mTo_tr (e_il1 hT hq_law (show aTab 365 1294 = some (.iload_n 3, 1, 0, 0, 0, 0, 0, 0) from rfl) rfl l3) ?_
    refine mTo_tr (e_st hT hq_law (show aTab 365 1295 = some (.iconst 1, 1, 0, 0, 0, 0, 0, 0) from rfl) (fr' := (365, 1296, clv, [.int 1, .int x, .ref 0, .ref 128])) (M' := _) rfl) ?_
    refine mTo_tr (e_st hT hq_law (show aTab 365 1296 = some (.iadd, 1, 0, 0, 0, 0, 0, 0) from rfl) (fr' := (365, 1297, clv, [.int (x + 1), .ref 0, .ref 128])) (M' := _) rfl) ?_
    refine mTo_tr (e_ald0 hT hq_law (show aTab 365 1297 = some (.iaload, 1, 0, 0, 0, 0, 0, 0) from rfl) rfl (by omega)) ?_
    rw [← ha1]
    refine mTo_tr (e_al1 hT hq_law (show aTab 365 1298 = some (.aload_n 0, 1, 0, 0, 0, 0, 0, 0) from rfl) rfl l0) ?_
    refine mTo_tr (e_il1 hT hq_law (show aTab 365 1299 = some (.iload_n 3, 1, 0, 0, 0, 0, 0, 0) from rfl) rfl l3) ?_
    refine mTo_tr (e_st hT hq_law (show aTab 365 1300 = some (.iconst 2, 1, 0, 0, 0, 0, 0, 0) from rfl) (fr' := (365, 1301, clv, [.int 2, .int x, .ref 0, .int a1, .ref 128])) (M' := _) rfl) ?_
    refine mTo_tr (e_st hT hq_law (show aTab 365 1301 = some (.iadd, 1, 0, 0, 0, 0, 0, 0) from rfl) (fr' := (365, 1302, clv, [.int (x + 2), .ref 0, .int a1, .ref 128])) (M' := _) rfl) ?_
    refine mTo_tr (e_ald0 hT hq_law (show aTab 365 1302 = some (.iaload, 1, 0, 0, 0, 0, 0, 0) from rfl) rfl (by omega)) ?_
    rw [← ha2]
    refine mTo_tr (e_call hT hq_law (show aTab 365 1303 = some (.invokevirtual 153, 3, 1, 334, 0, 2, 4, 12) from rfl) rfl ⟨by decide, Nat.le_of_ble_eq_true rfl⟩ hfs2 (Nat.le_of_ble_eq_true rfl) (Nat.le_of_ble_eq_true rfl) ⟨by decide, by decide⟩ p2) ?_
    refine mTo_tr (e_st hT hq_law (show aTab 365 1306 = some (.pop, 1, 0, 0, 0, 0, 0, 0) from rfl) (fr' := (365, 1307, clv, [])) (M' := _) rfl) ?_
    refine mTo_tr (e_st hT hq_law (show aTab 365 1307 = some (.goto 531, 3, 0, 0, 0, 0, 0, 0) from rfl) (fr' := (365, 1838, clv, [])) (M' := _) rfl) ?_
    exact mTo_rf
  exact hEnd_to go (hTail hT hn ⟨l0, l1, l2, ⟨x, l3, hx⟩, hb, t2, hR2⟩ he)
theorem hC_34 (hT : aTabOk) {n : Nat} {f : Nat → Int32} (hn : n ≤ 384) (h : hBoth 217 335 5 false) : hStep n f 1310 := by
  intro e clv M hst he
  obtain ⟨l0, l1, l2, ⟨x, l3, hx⟩, hb, hM, hR⟩ := id hst
  have hx1 : (x + 1).toInt = e + 1 := by rw [i32_add (by rw [hx, show (1 : Int32).toInt = 1 from rfl]; omega) (by rw [hx, show (1 : Int32).toInt = 1 from rfl]; omega), hx, show (1 : Int32).toInt = 1 from rfl]
  obtain ⟨a1, ha1⟩ : ∃ a, a = f (x + 1).toInt.toNat := ⟨_, rfl⟩
  have hx2 : (x + 2).toInt = e + 2 := by rw [i32_add (by rw [hx, show (2 : Int32).toInt = 2 from rfl]; omega) (by rw [hx, show (2 : Int32).toInt = 2 from rfl]; omega), hx, show (2 : Int32).toInt = 2 from rfl]
  obtain ⟨a2, ha2⟩ : ∃ a, a = f (x + 2).toInt.toNat := ⟨_, rfl⟩
  have hx3 : (x + 3).toInt = e + 3 := by rw [i32_add (by rw [hx, show (3 : Int32).toInt = 3 from rfl]; omega) (by rw [hx, show (3 : Int32).toInt = 3 from rfl]; omega), hx, show (3 : Int32).toInt = 3 from rfl]
  obtain ⟨a3, ha3⟩ : ∃ a, a = f (x + 3).toInt.toNat := ⟨_, rfl⟩
  have hx4 : (x + 4).toInt = e + 4 := by rw [i32_add (by rw [hx, show (4 : Int32).toInt = 4 from rfl]; omega) (by rw [hx, show (4 : Int32).toInt = 4 from rfl]; omega), hx, show (4 : Int32).toInt = 4 from rfl]
  obtain ⟨a4, ha4⟩ : ∃ a, a = f (x + 4).toInt.toNat := ⟨_, rfl⟩
  have hx5 : (x + 5).toInt = e + 5 := by rw [i32_add (by rw [hx, show (5 : Int32).toInt = 5 from rfl]; omega) (by rw [hx, show (5 : Int32).toInt = 5 from rfl]; omega), hx, show (5 : Int32).toInt = 5 from rfl]
  obtain ⟨a5, ha5⟩ : ∃ a, a = f (x + 5).toInt.toNat := ⟨_, rfl⟩
  obtain ⟨K1, M1, K2, M2, r1, r2, p1, t1, p2, t2, hR2, heq⟩ := h M hM hR [a1, a2, a3, a4, a5] rfl
  obtain ⟨fs1, hfs1⟩ := ob_at hM (rfl : tTy 0 = some (.inr (11, _)))
  obtain ⟨fs2, hfs2⟩ := ob_at t1 (rfl : tTy 119 = some (.inr (12, _)))
  have go : mTo (some (n, f)) 150 (365, 1310, clv, []) M (365, 1838, clv, []) M2 := by
    refine mTo_tr (e_al1 hT hq_law (show aTab 365 1310 = some (.aload_n 1, 1, 0, 0, 0, 0, 0, 0) from rfl) rfl l1) ?_
    refine mTo_tr (e_al1 hT hq_law (show aTab 365 1311 = some (.aload_n 0, 1, 0, 0, 0, 0, 0, 0) from rfl) rfl l0) ?_
    refine mTo_tr (e_il1 hT hq_law (show aTab 365 1312 = some (.iload_n 3, 1, 0, 0, 0, 0, 0, 0) from rfl) rfl l3) ?_
    refine mTo_tr (e_st hT hq_law (show aTab 365 1313 = some (.iconst 1, 1, 0, 0, 0, 0, 0, 0) from rfl) (fr' := (365, 1314, clv, [.int 1, .int x, .ref 0, .ref 9])) (M' := _) rfl) ?_
    refine mTo_tr (e_st hT hq_law (show aTab 365 1314 = some (.iadd, 1, 0, 0, 0, 0, 0, 0) from rfl) (fr' := (365, 1315, clv, [.int (x + 1), .ref 0, .ref 9])) (M' := _) rfl) ?_
    refine mTo_tr (e_ald0 hT hq_law (show aTab 365 1315 = some (.iaload, 1, 0, 0, 0, 0, 0, 0) from rfl) rfl (by omega)) ?_
    rw [← ha1]
    refine mTo_tr (e_al1 hT hq_law (show aTab 365 1316 = some (.aload_n 0, 1, 0, 0, 0, 0, 0, 0) from rfl) rfl l0) ?_
    refine mTo_tr (e_il1 hT hq_law (show aTab 365 1317 = some (.iload_n 3, 1, 0, 0, 0, 0, 0, 0) from rfl) rfl l3) ?_
    refine mTo_tr (e_st hT hq_law (show aTab 365 1318 = some (.iconst 2, 1, 0, 0, 0, 0, 0, 0) from rfl) (fr' := (365, 1319, clv, [.int 2, .int x, .ref 0, .int a1, .ref 9])) (M' := _) rfl) ?_
    refine mTo_tr (e_st hT hq_law (show aTab 365 1319 = some (.iadd, 1, 0, 0, 0, 0, 0, 0) from rfl) (fr' := (365, 1320, clv, [.int (x + 2), .ref 0, .int a1, .ref 9])) (M' := _) rfl) ?_
    refine mTo_tr (e_ald0 hT hq_law (show aTab 365 1320 = some (.iaload, 1, 0, 0, 0, 0, 0, 0) from rfl) rfl (by omega)) ?_
    rw [← ha2]
    refine mTo_tr (e_al1 hT hq_law (show aTab 365 1321 = some (.aload_n 0, 1, 0, 0, 0, 0, 0, 0) from rfl) rfl l0) ?_
    refine mTo_tr (e_il1 hT hq_law (show aTab 365 1322 = some (.iload_n 3, 1, 0, 0, 0, 0, 0, 0) from rfl) rfl l3) ?_
    refine mTo_tr (e_st hT hq_law (show aTab 365 1323 = some (.iconst 3, 1, 0, 0, 0, 0, 0, 0) from rfl) (fr' := (365, 1324, clv, [.int 3, .int x, .ref 0, .int a2, .int a1, .ref 9])) (M' := _) rfl) ?_
    refine mTo_tr (e_st hT hq_law (show aTab 365 1324 = some (.iadd, 1, 0, 0, 0, 0, 0, 0) from rfl) (fr' := (365, 1325, clv, [.int (x + 3), .ref 0, .int a2, .int a1, .ref 9])) (M' := _) rfl) ?_
    refine mTo_tr (e_ald0 hT hq_law (show aTab 365 1325 = some (.iaload, 1, 0, 0, 0, 0, 0, 0) from rfl) rfl (by omega)) ?_
    rw [← ha3]
    refine mTo_tr (e_al1 hT hq_law (show aTab 365 1326 = some (.aload_n 0, 1, 0, 0, 0, 0, 0, 0) from rfl) rfl l0) ?_
    refine mTo_tr (e_il1 hT hq_law (show aTab 365 1327 = some (.iload_n 3, 1, 0, 0, 0, 0, 0, 0) from rfl) rfl l3) ?_
    refine mTo_tr (e_st hT hq_law (show aTab 365 1328 = some (.iconst 4, 1, 0, 0, 0, 0, 0, 0) from rfl) (fr' := (365, 1329, clv, [.int 4, .int x, .ref 0, .int a3, .int a2, .int a1, .ref 9])) (M' := _) rfl) ?_
    refine mTo_tr (e_st hT hq_law (show aTab 365 1329 = some (.iadd, 1, 0, 0, 0, 0, 0, 0) from rfl) (fr' := (365, 1330, clv, [.int (x + 4), .ref 0, .int a3, .int a2, .int a1, .ref 9])) (M' := _) rfl) ?_
    refine mTo_tr (e_ald0 hT hq_law (show aTab 365 1330 = some (.iaload, 1, 0, 0, 0, 0, 0, 0) from rfl) rfl (by omega)) ?_
    rw [← ha4]
    refine mTo_tr (e_al1 hT hq_law (show aTab 365 1331 = some (.aload_n 0, 1, 0, 0, 0, 0, 0, 0) from rfl) rfl l0) ?_
    refine mTo_tr (e_il1 hT hq_law (show aTab 365 1332 = some (.iload_n 3, 1, 0, 0, 0, 0, 0, 0) from rfl) rfl l3) ?_
    refine mTo_tr (e_st hT hq_law (show aTab 365 1333 = some (.iconst 5, 1, 0, 0, 0, 0, 0, 0) from rfl) (fr' := (365, 1334, clv, [.int 5, .int x, .ref 0, .int a4, .int a3, .int a2, .int a1, .ref 9])) (M' := _) rfl) ?_
    refine mTo_tr (e_st hT hq_law (show aTab 365 1334 = some (.iadd, 1, 0, 0, 0, 0, 0, 0) from rfl) (fr' := (365, 1335, clv, [.int (x + 5), .ref 0, .int a4, .int a3, .int a2, .int a1, .ref 9])) (M' := _) rfl) ?_
    refine mTo_tr (e_ald0 hT hq_law (show aTab 365 1335 = some (.iaload, 1, 0, 0, 0, 0, 0, 0) from rfl) rfl (by omega)) ?_
    rw [← ha5]
    refine mTo_tr (e_call hT hq_law (show aTab 365 1336 = some (.invokevirtual 154, 3, 1, 217, 0, 5, 6, 11) from rfl) rfl ⟨by decide, Nat.le_of_ble_eq_true rfl⟩ hfs1 (Nat.le_of_ble_eq_true rfl) (Nat.le_of_ble_eq_true rfl) ⟨by decide, by decide⟩ p1) ?_
    refine mTo_tr (e_st hT hq_law (show aTab 365 1339 = some (.pop, 1, 0, 0, 0, 0, 0, 0) from rfl) (fr' := (365, 1340, clv, [])) (M' := _) rfl) ?_
    refine mTo_tr (e_al1 hT hq_law (show aTab 365 1340 = some (.aload_n 2, 1, 0, 0, 0, 0, 0, 0) from rfl) rfl l2) ?_
    refine mTo_tr (e_al1 hT hq_law (show aTab 365 1341 = some (.aload_n 0, 1, 0, 0, 0, 0, 0, 0) from rfl) rfl l0) ?_
    refine mTo_tr (e_il1 hT hq_law (show aTab 365 1342 = some (.iload_n 3, 1, 0, 0, 0, 0, 0, 0) from rfl) rfl l3) ?_
    refine mTo_tr (e_st hT hq_law (show aTab 365 1343 = some (.iconst 1, 1, 0, 0, 0, 0, 0, 0) from rfl) (fr' := (365, 1344, clv, [.int 1, .int x, .ref 0, .ref 128])) (M' := _) rfl) ?_
    refine mTo_tr (e_st hT hq_law (show aTab 365 1344 = some (.iadd, 1, 0, 0, 0, 0, 0, 0) from rfl) (fr' := (365, 1345, clv, [.int (x + 1), .ref 0, .ref 128])) (M' := _) rfl) ?_
    refine mTo_tr (e_ald0 hT hq_law (show aTab 365 1345 = some (.iaload, 1, 0, 0, 0, 0, 0, 0) from rfl) rfl (by omega)) ?_
    rw [← ha1]
    refine mTo_tr (e_al1 hT hq_law (show aTab 365 1346 = some (.aload_n 0, 1, 0, 0, 0, 0, 0, 0) from rfl) rfl l0) ?_
    refine mTo_tr (e_il1 hT hq_law (show aTab 365 1347 = some (.iload_n 3, 1, 0, 0, 0, 0, 0, 0) from rfl) rfl l3) ?_
    refine mTo_tr (e_st hT hq_law (show aTab 365 1348 = some (.iconst 2, 1, 0, 0, 0, 0, 0, 0) from rfl) (fr' := (365, 1349, clv, [.int 2, .int x, .ref 0, .int a1, .ref 128])) (M' := _) rfl) ?_
    refine mTo_tr (e_st hT hq_law (show aTab 365 1349 = some (.iadd, 1, 0, 0, 0, 0, 0, 0) from rfl) (fr' := (365, 1350, clv, [.int (x + 2), .ref 0, .int a1, .ref 128])) (M' := _) rfl) ?_
    refine mTo_tr (e_ald0 hT hq_law (show aTab 365 1350 = some (.iaload, 1, 0, 0, 0, 0, 0, 0) from rfl) rfl (by omega)) ?_
    rw [← ha2]
    refine mTo_tr (e_al1 hT hq_law (show aTab 365 1351 = some (.aload_n 0, 1, 0, 0, 0, 0, 0, 0) from rfl) rfl l0) ?_
    refine mTo_tr (e_il1 hT hq_law (show aTab 365 1352 = some (.iload_n 3, 1, 0, 0, 0, 0, 0, 0) from rfl) rfl l3) ?_
    refine mTo_tr (e_st hT hq_law (show aTab 365 1353 = some (.iconst 3, 1, 0, 0, 0, 0, 0, 0) from rfl) (fr' := (365, 1354, clv, [.int 3, .int x, .ref 0, .int a2, .int a1, .ref 128])) (M' := _) rfl) ?_
    refine mTo_tr (e_st hT hq_law (show aTab 365 1354 = some (.iadd, 1, 0, 0, 0, 0, 0, 0) from rfl) (fr' := (365, 1355, clv, [.int (x + 3), .ref 0, .int a2, .int a1, .ref 128])) (M' := _) rfl) ?_
    refine mTo_tr (e_ald0 hT hq_law (show aTab 365 1355 = some (.iaload, 1, 0, 0, 0, 0, 0, 0) from rfl) rfl (by omega)) ?_
    rw [← ha3]
    refine mTo_tr (e_al1 hT hq_law (show aTab 365 1356 = some (.aload_n 0, 1, 0, 0, 0, 0, 0, 0) from rfl) rfl l0) ?_
    refine mTo_tr (e_il1 hT hq_law (show aTab 365 1357 = some (.iload_n 3, 1, 0, 0, 0, 0, 0, 0) from rfl) rfl l3) ?_
    refine mTo_tr (e_st hT hq_law (show aTab 365 1358 = some (.iconst 4, 1, 0, 0, 0, 0, 0, 0) from rfl) (fr' := (365, 1359, clv, [.int 4, .int x, .ref 0, .int a3, .int a2, .int a1, .ref 128])) (M' := _) rfl) ?_
    refine mTo_tr (e_st hT hq_law (show aTab 365 1359 = some (.iadd, 1, 0, 0, 0, 0, 0, 0) from rfl) (fr' := (365, 1360, clv, [.int (x + 4), .ref 0, .int a3, .int a2, .int a1, .ref 128])) (M' := _) rfl) ?_
    refine mTo_tr (e_ald0 hT hq_law (show aTab 365 1360 = some (.iaload, 1, 0, 0, 0, 0, 0, 0) from rfl) rfl (by omega)) ?_
    rw [← ha4]
    refine mTo_tr (e_al1 hT hq_law (show aTab 365 1361 = some (.aload_n 0, 1, 0, 0, 0, 0, 0, 0) from rfl) rfl l0) ?_
    refine mTo_tr (e_il1 hT hq_law (show aTab 365 1362 = some (.iload_n 3, 1, 0, 0, 0, 0, 0, 0) from rfl) rfl l3) ?_
    refine mTo_tr (e_st hT hq_law (show aTab 365 1363 = some (.iconst 5, 1, 0, 0, 0, 0, 0, 0) from rfl) (fr' := (365, 1364, clv, [.int 5, .int x, .ref 0, .int a4, .int a3, .int a2, .int a1, .ref 128])) (M' := _) rfl) ?_
    refine mTo_tr (e_st hT hq_law (show aTab 365 1364 = some (.iadd, 1, 0, 0, 0, 0, 0, 0) from rfl) (fr' := (365, 1365, clv, [.int (x + 5), .ref 0, .int a4, .int a3, .int a2, .int a1, .ref 128])) (M' := _) rfl) ?_
    refine mTo_tr (e_ald0 hT hq_law (show aTab 365 1365 = some (.iaload, 1, 0, 0, 0, 0, 0, 0) from rfl) rfl (by omega)) ?_
    rw [← ha5]
    refine mTo_tr (e_call hT hq_law (show aTab 365 1366 = some (.invokevirtual 158, 3, 1, 335, 0, 5, 7, 12) from rfl) rfl ⟨by decide, Nat.le_of_ble_eq_true rfl⟩ hfs2 (Nat.le_of_ble_eq_true rfl) (Nat.le_of_ble_eq_true rfl) ⟨by decide, by decide⟩ p2) ?_
    refine mTo_tr (e_st hT hq_law (show aTab 365 1369 = some (.pop, 1, 0, 0, 0, 0, 0, 0) from rfl) (fr' := (365, 1370, clv, [])) (M' := _) rfl) ?_
    refine mTo_tr (e_st hT hq_law (show aTab 365 1370 = some (.goto 468, 3, 0, 0, 0, 0, 0, 0) from rfl) (fr' := (365, 1838, clv, [])) (M' := _) rfl) ?_
    exact mTo_rf
  exact hEnd_to go (hTail hT hn ⟨l0, l1, l2, ⟨x, l3, hx⟩, hb, t2, hR2⟩ he)
theorem hC_35 (hT : aTabOk) {n : Nat} {f : Nat → Int32} (hn : n ≤ 384) (h : hBoth 218 336 2 false) : hStep n f 1373 := by
  intro e clv M hst he
  obtain ⟨l0, l1, l2, ⟨x, l3, hx⟩, hb, hM, hR⟩ := id hst
  have hx1 : (x + 1).toInt = e + 1 := by rw [i32_add (by rw [hx, show (1 : Int32).toInt = 1 from rfl]; omega) (by rw [hx, show (1 : Int32).toInt = 1 from rfl]; omega), hx, show (1 : Int32).toInt = 1 from rfl]
  obtain ⟨a1, ha1⟩ : ∃ a, a = f (x + 1).toInt.toNat := ⟨_, rfl⟩
  have hx2 : (x + 2).toInt = e + 2 := by rw [i32_add (by rw [hx, show (2 : Int32).toInt = 2 from rfl]; omega) (by rw [hx, show (2 : Int32).toInt = 2 from rfl]; omega), hx, show (2 : Int32).toInt = 2 from rfl]
  obtain ⟨a2, ha2⟩ : ∃ a, a = f (x + 2).toInt.toNat := ⟨_, rfl⟩
  obtain ⟨K1, M1, K2, M2, r1, r2, p1, t1, p2, t2, hR2, heq⟩ := h M hM hR [a1, a2] rfl
  obtain ⟨fs1, hfs1⟩ := ob_at hM (rfl : tTy 0 = some (.inr (11, _)))
  obtain ⟨fs2, hfs2⟩ := ob_at t1 (rfl : tTy 119 = some (.inr (12, _)))
  have go : mTo (some (n, f)) 150 (365, 1373, clv, []) M (365, 1838, clv, []) M2 := by
    refine mTo_tr (e_al1 hT hq_law (show aTab 365 1373 = some (.aload_n 1, 1, 0, 0, 0, 0, 0, 0) from rfl) rfl l1) ?_
    refine mTo_tr (e_al1 hT hq_law (show aTab 365 1374 = some (.aload_n 0, 1, 0, 0, 0, 0, 0, 0) from rfl) rfl l0) ?_
    refine mTo_tr (e_il1 hT hq_law (show aTab 365 1375 = some (.iload_n 3, 1, 0, 0, 0, 0, 0, 0) from rfl) rfl l3) ?_
    refine mTo_tr (e_st hT hq_law (show aTab 365 1376 = some (.iconst 1, 1, 0, 0, 0, 0, 0, 0) from rfl) (fr' := (365, 1377, clv, [.int 1, .int x, .ref 0, .ref 9])) (M' := _) rfl) ?_
    refine mTo_tr (e_st hT hq_law (show aTab 365 1377 = some (.iadd, 1, 0, 0, 0, 0, 0, 0) from rfl) (fr' := (365, 1378, clv, [.int (x + 1), .ref 0, .ref 9])) (M' := _) rfl) ?_
    refine mTo_tr (e_ald0 hT hq_law (show aTab 365 1378 = some (.iaload, 1, 0, 0, 0, 0, 0, 0) from rfl) rfl (by omega)) ?_
    rw [← ha1]
    refine mTo_tr (e_al1 hT hq_law (show aTab 365 1379 = some (.aload_n 0, 1, 0, 0, 0, 0, 0, 0) from rfl) rfl l0) ?_
    refine mTo_tr (e_il1 hT hq_law (show aTab 365 1380 = some (.iload_n 3, 1, 0, 0, 0, 0, 0, 0) from rfl) rfl l3) ?_
    refine mTo_tr (e_st hT hq_law (show aTab 365 1381 = some (.iconst 2, 1, 0, 0, 0, 0, 0, 0) from rfl) (fr' := (365, 1382, clv, [.int 2, .int x, .ref 0, .int a1, .ref 9])) (M' := _) rfl) ?_
    refine mTo_tr (e_st hT hq_law (show aTab 365 1382 = some (.iadd, 1, 0, 0, 0, 0, 0, 0) from rfl) (fr' := (365, 1383, clv, [.int (x + 2), .ref 0, .int a1, .ref 9])) (M' := _) rfl) ?_
    refine mTo_tr (e_ald0 hT hq_law (show aTab 365 1383 = some (.iaload, 1, 0, 0, 0, 0, 0, 0) from rfl) rfl (by omega)) ?_
    rw [← ha2]
    refine mTo_tr (e_call hT hq_law (show aTab 365 1384 = some (.invokevirtual 159, 3, 1, 218, 0, 2, 3, 11) from rfl) rfl ⟨by decide, Nat.le_of_ble_eq_true rfl⟩ hfs1 (Nat.le_of_ble_eq_true rfl) (Nat.le_of_ble_eq_true rfl) ⟨by decide, by decide⟩ p1) ?_
    refine mTo_tr (e_st hT hq_law (show aTab 365 1387 = some (.pop, 1, 0, 0, 0, 0, 0, 0) from rfl) (fr' := (365, 1388, clv, [])) (M' := _) rfl) ?_
    refine mTo_tr (e_al1 hT hq_law (show aTab 365 1388 = some (.aload_n 2, 1, 0, 0, 0, 0, 0, 0) from rfl) rfl l2) ?_
    refine mTo_tr (e_al1 hT hq_law (show aTab 365 1389 = some (.aload_n 0, 1, 0, 0, 0, 0, 0, 0) from rfl) rfl l0) ?_
    refine mTo_tr (e_il1 hT hq_law (show aTab 365 1390 = some (.iload_n 3, 1, 0, 0, 0, 0, 0, 0) from rfl) rfl l3) ?_
    refine mTo_tr (e_st hT hq_law (show aTab 365 1391 = some (.iconst 1, 1, 0, 0, 0, 0, 0, 0) from rfl) (fr' := (365, 1392, clv, [.int 1, .int x, .ref 0, .ref 128])) (M' := _) rfl) ?_
    refine mTo_tr (e_st hT hq_law (show aTab 365 1392 = some (.iadd, 1, 0, 0, 0, 0, 0, 0) from rfl) (fr' := (365, 1393, clv, [.int (x + 1), .ref 0, .ref 128])) (M' := _) rfl) ?_
    refine mTo_tr (e_ald0 hT hq_law (show aTab 365 1393 = some (.iaload, 1, 0, 0, 0, 0, 0, 0) from rfl) rfl (by omega)) ?_
    rw [← ha1]
    refine mTo_tr (e_al1 hT hq_law (show aTab 365 1394 = some (.aload_n 0, 1, 0, 0, 0, 0, 0, 0) from rfl) rfl l0) ?_
    refine mTo_tr (e_il1 hT hq_law (show aTab 365 1395 = some (.iload_n 3, 1, 0, 0, 0, 0, 0, 0) from rfl) rfl l3) ?_
    refine mTo_tr (e_st hT hq_law (show aTab 365 1396 = some (.iconst 2, 1, 0, 0, 0, 0, 0, 0) from rfl) (fr' := (365, 1397, clv, [.int 2, .int x, .ref 0, .int a1, .ref 128])) (M' := _) rfl) ?_
    refine mTo_tr (e_st hT hq_law (show aTab 365 1397 = some (.iadd, 1, 0, 0, 0, 0, 0, 0) from rfl) (fr' := (365, 1398, clv, [.int (x + 2), .ref 0, .int a1, .ref 128])) (M' := _) rfl) ?_
    refine mTo_tr (e_ald0 hT hq_law (show aTab 365 1398 = some (.iaload, 1, 0, 0, 0, 0, 0, 0) from rfl) rfl (by omega)) ?_
    rw [← ha2]
    refine mTo_tr (e_call hT hq_law (show aTab 365 1399 = some (.invokevirtual 162, 3, 1, 336, 0, 2, 10, 12) from rfl) rfl ⟨by decide, Nat.le_of_ble_eq_true rfl⟩ hfs2 (Nat.le_of_ble_eq_true rfl) (Nat.le_of_ble_eq_true rfl) ⟨by decide, by decide⟩ p2) ?_
    refine mTo_tr (e_st hT hq_law (show aTab 365 1402 = some (.pop, 1, 0, 0, 0, 0, 0, 0) from rfl) (fr' := (365, 1403, clv, [])) (M' := _) rfl) ?_
    refine mTo_tr (e_st hT hq_law (show aTab 365 1403 = some (.goto 435, 3, 0, 0, 0, 0, 0, 0) from rfl) (fr' := (365, 1838, clv, [])) (M' := _) rfl) ?_
    exact mTo_rf
  exact hEnd_to go (hTail hT hn ⟨l0, l1, l2, ⟨x, l3, hx⟩, hb, t2, hR2⟩ he)
theorem hC_36 (hT : aTabOk) {n : Nat} {f : Nat → Int32} (hn : n ≤ 384) (h : hBoth 219 337 2 false) : hStep n f 1406 := by
  intro e clv M hst he
  obtain ⟨l0, l1, l2, ⟨x, l3, hx⟩, hb, hM, hR⟩ := id hst
  have hx1 : (x + 1).toInt = e + 1 := by rw [i32_add (by rw [hx, show (1 : Int32).toInt = 1 from rfl]; omega) (by rw [hx, show (1 : Int32).toInt = 1 from rfl]; omega), hx, show (1 : Int32).toInt = 1 from rfl]
  obtain ⟨a1, ha1⟩ : ∃ a, a = f (x + 1).toInt.toNat := ⟨_, rfl⟩
  have hx2 : (x + 2).toInt = e + 2 := by rw [i32_add (by rw [hx, show (2 : Int32).toInt = 2 from rfl]; omega) (by rw [hx, show (2 : Int32).toInt = 2 from rfl]; omega), hx, show (2 : Int32).toInt = 2 from rfl]
  obtain ⟨a2, ha2⟩ : ∃ a, a = f (x + 2).toInt.toNat := ⟨_, rfl⟩
  obtain ⟨K1, M1, K2, M2, r1, r2, p1, t1, p2, t2, hR2, heq⟩ := h M hM hR [a1, a2] rfl
  obtain ⟨fs1, hfs1⟩ := ob_at hM (rfl : tTy 0 = some (.inr (11, _)))
  obtain ⟨fs2, hfs2⟩ := ob_at t1 (rfl : tTy 119 = some (.inr (12, _)))
  have go : mTo (some (n, f)) 150 (365, 1406, clv, []) M (365, 1838, clv, []) M2 := by
    refine mTo_tr (e_al1 hT hq_law (show aTab 365 1406 = some (.aload_n 1, 1, 0, 0, 0, 0, 0, 0) from rfl) rfl l1) ?_
    refine mTo_tr (e_al1 hT hq_law (show aTab 365 1407 = some (.aload_n 0, 1, 0, 0, 0, 0, 0, 0) from rfl) rfl l0) ?_
    refine mTo_tr (e_il1 hT hq_law (show aTab 365 1408 = some (.iload_n 3, 1, 0, 0, 0, 0, 0, 0) from rfl) rfl l3) ?_
    refine mTo_tr (e_st hT hq_law (show aTab 365 1409 = some (.iconst 1, 1, 0, 0, 0, 0, 0, 0) from rfl) (fr' := (365, 1410, clv, [.int 1, .int x, .ref 0, .ref 9])) (M' := _) rfl) ?_
    refine mTo_tr (e_st hT hq_law (show aTab 365 1410 = some (.iadd, 1, 0, 0, 0, 0, 0, 0) from rfl) (fr' := (365, 1411, clv, [.int (x + 1), .ref 0, .ref 9])) (M' := _) rfl) ?_
    refine mTo_tr (e_ald0 hT hq_law (show aTab 365 1411 = some (.iaload, 1, 0, 0, 0, 0, 0, 0) from rfl) rfl (by omega)) ?_
    rw [← ha1]
    refine mTo_tr (e_al1 hT hq_law (show aTab 365 1412 = some (.aload_n 0, 1, 0, 0, 0, 0, 0, 0) from rfl) rfl l0) ?_
    refine mTo_tr (e_il1 hT hq_law (show aTab 365 1413 = some (.iload_n 3, 1, 0, 0, 0, 0, 0, 0) from rfl) rfl l3) ?_
    refine mTo_tr (e_st hT hq_law (show aTab 365 1414 = some (.iconst 2, 1, 0, 0, 0, 0, 0, 0) from rfl) (fr' := (365, 1415, clv, [.int 2, .int x, .ref 0, .int a1, .ref 9])) (M' := _) rfl) ?_
    refine mTo_tr (e_st hT hq_law (show aTab 365 1415 = some (.iadd, 1, 0, 0, 0, 0, 0, 0) from rfl) (fr' := (365, 1416, clv, [.int (x + 2), .ref 0, .int a1, .ref 9])) (M' := _) rfl) ?_
    refine mTo_tr (e_ald0 hT hq_law (show aTab 365 1416 = some (.iaload, 1, 0, 0, 0, 0, 0, 0) from rfl) rfl (by omega)) ?_
    rw [← ha2]
    refine mTo_tr (e_call hT hq_law (show aTab 365 1417 = some (.invokevirtual 163, 3, 1, 219, 0, 2, 3, 11) from rfl) rfl ⟨by decide, Nat.le_of_ble_eq_true rfl⟩ hfs1 (Nat.le_of_ble_eq_true rfl) (Nat.le_of_ble_eq_true rfl) ⟨by decide, by decide⟩ p1) ?_
    refine mTo_tr (e_st hT hq_law (show aTab 365 1420 = some (.pop, 1, 0, 0, 0, 0, 0, 0) from rfl) (fr' := (365, 1421, clv, [])) (M' := _) rfl) ?_
    refine mTo_tr (e_al1 hT hq_law (show aTab 365 1421 = some (.aload_n 2, 1, 0, 0, 0, 0, 0, 0) from rfl) rfl l2) ?_
    refine mTo_tr (e_al1 hT hq_law (show aTab 365 1422 = some (.aload_n 0, 1, 0, 0, 0, 0, 0, 0) from rfl) rfl l0) ?_
    refine mTo_tr (e_il1 hT hq_law (show aTab 365 1423 = some (.iload_n 3, 1, 0, 0, 0, 0, 0, 0) from rfl) rfl l3) ?_
    refine mTo_tr (e_st hT hq_law (show aTab 365 1424 = some (.iconst 1, 1, 0, 0, 0, 0, 0, 0) from rfl) (fr' := (365, 1425, clv, [.int 1, .int x, .ref 0, .ref 128])) (M' := _) rfl) ?_
    refine mTo_tr (e_st hT hq_law (show aTab 365 1425 = some (.iadd, 1, 0, 0, 0, 0, 0, 0) from rfl) (fr' := (365, 1426, clv, [.int (x + 1), .ref 0, .ref 128])) (M' := _) rfl) ?_
    refine mTo_tr (e_ald0 hT hq_law (show aTab 365 1426 = some (.iaload, 1, 0, 0, 0, 0, 0, 0) from rfl) rfl (by omega)) ?_
    rw [← ha1]
    refine mTo_tr (e_al1 hT hq_law (show aTab 365 1427 = some (.aload_n 0, 1, 0, 0, 0, 0, 0, 0) from rfl) rfl l0) ?_
    refine mTo_tr (e_il1 hT hq_law (show aTab 365 1428 = some (.iload_n 3, 1, 0, 0, 0, 0, 0, 0) from rfl) rfl l3) ?_
    refine mTo_tr (e_st hT hq_law (show aTab 365 1429 = some (.iconst 2, 1, 0, 0, 0, 0, 0, 0) from rfl) (fr' := (365, 1430, clv, [.int 2, .int x, .ref 0, .int a1, .ref 128])) (M' := _) rfl) ?_
    refine mTo_tr (e_st hT hq_law (show aTab 365 1430 = some (.iadd, 1, 0, 0, 0, 0, 0, 0) from rfl) (fr' := (365, 1431, clv, [.int (x + 2), .ref 0, .int a1, .ref 128])) (M' := _) rfl) ?_
    refine mTo_tr (e_ald0 hT hq_law (show aTab 365 1431 = some (.iaload, 1, 0, 0, 0, 0, 0, 0) from rfl) rfl (by omega)) ?_
    rw [← ha2]
    refine mTo_tr (e_call hT hq_law (show aTab 365 1432 = some (.invokevirtual 166, 3, 1, 337, 0, 2, 3, 12) from rfl) rfl ⟨by decide, Nat.le_of_ble_eq_true rfl⟩ hfs2 (Nat.le_of_ble_eq_true rfl) (Nat.le_of_ble_eq_true rfl) ⟨by decide, by decide⟩ p2) ?_
    refine mTo_tr (e_st hT hq_law (show aTab 365 1435 = some (.pop, 1, 0, 0, 0, 0, 0, 0) from rfl) (fr' := (365, 1436, clv, [])) (M' := _) rfl) ?_
    refine mTo_tr (e_st hT hq_law (show aTab 365 1436 = some (.goto 402, 3, 0, 0, 0, 0, 0, 0) from rfl) (fr' := (365, 1838, clv, [])) (M' := _) rfl) ?_
    exact mTo_rf
  exact hEnd_to go (hTail hT hn ⟨l0, l1, l2, ⟨x, l3, hx⟩, hb, t2, hR2⟩ he)
theorem hC_37 (hT : aTabOk) {n : Nat} {f : Nat → Int32} (hn : n ≤ 384) (h : hBoth 220 340 2 false) : hStep n f 1439 := by
  intro e clv M hst he
  obtain ⟨l0, l1, l2, ⟨x, l3, hx⟩, hb, hM, hR⟩ := id hst
  have hx1 : (x + 1).toInt = e + 1 := by rw [i32_add (by rw [hx, show (1 : Int32).toInt = 1 from rfl]; omega) (by rw [hx, show (1 : Int32).toInt = 1 from rfl]; omega), hx, show (1 : Int32).toInt = 1 from rfl]
  obtain ⟨a1, ha1⟩ : ∃ a, a = f (x + 1).toInt.toNat := ⟨_, rfl⟩
  have hx2 : (x + 2).toInt = e + 2 := by rw [i32_add (by rw [hx, show (2 : Int32).toInt = 2 from rfl]; omega) (by rw [hx, show (2 : Int32).toInt = 2 from rfl]; omega), hx, show (2 : Int32).toInt = 2 from rfl]
  obtain ⟨a2, ha2⟩ : ∃ a, a = f (x + 2).toInt.toNat := ⟨_, rfl⟩
  obtain ⟨K1, M1, K2, M2, r1, r2, p1, t1, p2, t2, hR2, heq⟩ := h M hM hR [a1, a2] rfl
  obtain ⟨fs1, hfs1⟩ := ob_at hM (rfl : tTy 0 = some (.inr (11, _)))
  obtain ⟨fs2, hfs2⟩ := ob_at t1 (rfl : tTy 119 = some (.inr (12, _)))
  have go : mTo (some (n, f)) 150 (365, 1439, clv, []) M (365, 1838, clv, []) M2 := by
    refine mTo_tr (e_al1 hT hq_law (show aTab 365 1439 = some (.aload_n 1, 1, 0, 0, 0, 0, 0, 0) from rfl) rfl l1) ?_
    refine mTo_tr (e_al1 hT hq_law (show aTab 365 1440 = some (.aload_n 0, 1, 0, 0, 0, 0, 0, 0) from rfl) rfl l0) ?_
    refine mTo_tr (e_il1 hT hq_law (show aTab 365 1441 = some (.iload_n 3, 1, 0, 0, 0, 0, 0, 0) from rfl) rfl l3) ?_
    refine mTo_tr (e_st hT hq_law (show aTab 365 1442 = some (.iconst 1, 1, 0, 0, 0, 0, 0, 0) from rfl) (fr' := (365, 1443, clv, [.int 1, .int x, .ref 0, .ref 9])) (M' := _) rfl) ?_
    refine mTo_tr (e_st hT hq_law (show aTab 365 1443 = some (.iadd, 1, 0, 0, 0, 0, 0, 0) from rfl) (fr' := (365, 1444, clv, [.int (x + 1), .ref 0, .ref 9])) (M' := _) rfl) ?_
    refine mTo_tr (e_ald0 hT hq_law (show aTab 365 1444 = some (.iaload, 1, 0, 0, 0, 0, 0, 0) from rfl) rfl (by omega)) ?_
    rw [← ha1]
    refine mTo_tr (e_al1 hT hq_law (show aTab 365 1445 = some (.aload_n 0, 1, 0, 0, 0, 0, 0, 0) from rfl) rfl l0) ?_
    refine mTo_tr (e_il1 hT hq_law (show aTab 365 1446 = some (.iload_n 3, 1, 0, 0, 0, 0, 0, 0) from rfl) rfl l3) ?_
    refine mTo_tr (e_st hT hq_law (show aTab 365 1447 = some (.iconst 2, 1, 0, 0, 0, 0, 0, 0) from rfl) (fr' := (365, 1448, clv, [.int 2, .int x, .ref 0, .int a1, .ref 9])) (M' := _) rfl) ?_
    refine mTo_tr (e_st hT hq_law (show aTab 365 1448 = some (.iadd, 1, 0, 0, 0, 0, 0, 0) from rfl) (fr' := (365, 1449, clv, [.int (x + 2), .ref 0, .int a1, .ref 9])) (M' := _) rfl) ?_
    refine mTo_tr (e_ald0 hT hq_law (show aTab 365 1449 = some (.iaload, 1, 0, 0, 0, 0, 0, 0) from rfl) rfl (by omega)) ?_
    rw [← ha2]
    refine mTo_tr (e_call hT hq_law (show aTab 365 1450 = some (.invokevirtual 167, 3, 1, 220, 0, 2, 3, 11) from rfl) rfl ⟨by decide, Nat.le_of_ble_eq_true rfl⟩ hfs1 (Nat.le_of_ble_eq_true rfl) (Nat.le_of_ble_eq_true rfl) ⟨by decide, by decide⟩ p1) ?_
    refine mTo_tr (e_st hT hq_law (show aTab 365 1453 = some (.pop, 1, 0, 0, 0, 0, 0, 0) from rfl) (fr' := (365, 1454, clv, [])) (M' := _) rfl) ?_
    refine mTo_tr (e_al1 hT hq_law (show aTab 365 1454 = some (.aload_n 2, 1, 0, 0, 0, 0, 0, 0) from rfl) rfl l2) ?_
    refine mTo_tr (e_al1 hT hq_law (show aTab 365 1455 = some (.aload_n 0, 1, 0, 0, 0, 0, 0, 0) from rfl) rfl l0) ?_
    refine mTo_tr (e_il1 hT hq_law (show aTab 365 1456 = some (.iload_n 3, 1, 0, 0, 0, 0, 0, 0) from rfl) rfl l3) ?_
    refine mTo_tr (e_st hT hq_law (show aTab 365 1457 = some (.iconst 1, 1, 0, 0, 0, 0, 0, 0) from rfl) (fr' := (365, 1458, clv, [.int 1, .int x, .ref 0, .ref 128])) (M' := _) rfl) ?_
    refine mTo_tr (e_st hT hq_law (show aTab 365 1458 = some (.iadd, 1, 0, 0, 0, 0, 0, 0) from rfl) (fr' := (365, 1459, clv, [.int (x + 1), .ref 0, .ref 128])) (M' := _) rfl) ?_
    refine mTo_tr (e_ald0 hT hq_law (show aTab 365 1459 = some (.iaload, 1, 0, 0, 0, 0, 0, 0) from rfl) rfl (by omega)) ?_
    rw [← ha1]
    refine mTo_tr (e_al1 hT hq_law (show aTab 365 1460 = some (.aload_n 0, 1, 0, 0, 0, 0, 0, 0) from rfl) rfl l0) ?_
    refine mTo_tr (e_il1 hT hq_law (show aTab 365 1461 = some (.iload_n 3, 1, 0, 0, 0, 0, 0, 0) from rfl) rfl l3) ?_
    refine mTo_tr (e_st hT hq_law (show aTab 365 1462 = some (.iconst 2, 1, 0, 0, 0, 0, 0, 0) from rfl) (fr' := (365, 1463, clv, [.int 2, .int x, .ref 0, .int a1, .ref 128])) (M' := _) rfl) ?_
    refine mTo_tr (e_st hT hq_law (show aTab 365 1463 = some (.iadd, 1, 0, 0, 0, 0, 0, 0) from rfl) (fr' := (365, 1464, clv, [.int (x + 2), .ref 0, .int a1, .ref 128])) (M' := _) rfl) ?_
    refine mTo_tr (e_ald0 hT hq_law (show aTab 365 1464 = some (.iaload, 1, 0, 0, 0, 0, 0, 0) from rfl) rfl (by omega)) ?_
    rw [← ha2]
    refine mTo_tr (e_call hT hq_law (show aTab 365 1465 = some (.invokevirtual 170, 3, 1, 340, 0, 2, 9, 12) from rfl) rfl ⟨by decide, Nat.le_of_ble_eq_true rfl⟩ hfs2 (Nat.le_of_ble_eq_true rfl) (Nat.le_of_ble_eq_true rfl) ⟨by decide, by decide⟩ p2) ?_
    refine mTo_tr (e_st hT hq_law (show aTab 365 1468 = some (.pop, 1, 0, 0, 0, 0, 0, 0) from rfl) (fr' := (365, 1469, clv, [])) (M' := _) rfl) ?_
    refine mTo_tr (e_st hT hq_law (show aTab 365 1469 = some (.goto 369, 3, 0, 0, 0, 0, 0, 0) from rfl) (fr' := (365, 1838, clv, [])) (M' := _) rfl) ?_
    exact mTo_rf
  exact hEnd_to go (hTail hT hn ⟨l0, l1, l2, ⟨x, l3, hx⟩, hb, t2, hR2⟩ he)
theorem hC_38 (hT : aTabOk) {n : Nat} {f : Nat → Int32} (hn : n ≤ 384) (h : hBoth 221 341 0 false) : hStep n f 1472 := by
  intro e clv M hst he
  obtain ⟨l0, l1, l2, ⟨x, l3, hx⟩, hb, hM, hR⟩ := id hst
  obtain ⟨K1, M1, K2, M2, r1, r2, p1, t1, p2, t2, hR2, heq⟩ := h M hM hR [] rfl
  obtain ⟨fs1, hfs1⟩ := ob_at hM (rfl : tTy 0 = some (.inr (11, _)))
  obtain ⟨fs2, hfs2⟩ := ob_at t1 (rfl : tTy 119 = some (.inr (12, _)))
  have go : mTo (some (n, f)) 150 (365, 1472, clv, []) M (365, 1838, clv, []) M2 := by
    refine mTo_tr (e_al1 hT hq_law (show aTab 365 1472 = some (.aload_n 1, 1, 0, 0, 0, 0, 0, 0) from rfl) rfl l1) ?_
    refine mTo_tr (e_call hT hq_law (show aTab 365 1473 = some (.invokevirtual 171, 3, 1, 221, 0, 0, 1, 11) from rfl) rfl ⟨by decide, Nat.le_of_ble_eq_true rfl⟩ hfs1 (Nat.le_of_ble_eq_true rfl) (Nat.le_of_ble_eq_true rfl) ⟨by decide, by decide⟩ p1) ?_
    refine mTo_tr (e_st hT hq_law (show aTab 365 1476 = some (.pop, 1, 0, 0, 0, 0, 0, 0) from rfl) (fr' := (365, 1477, clv, [])) (M' := _) rfl) ?_
    refine mTo_tr (e_al1 hT hq_law (show aTab 365 1477 = some (.aload_n 2, 1, 0, 0, 0, 0, 0, 0) from rfl) rfl l2) ?_
    refine mTo_tr (e_call hT hq_law (show aTab 365 1478 = some (.invokevirtual 174, 3, 1, 341, 0, 0, 2, 12) from rfl) rfl ⟨by decide, Nat.le_of_ble_eq_true rfl⟩ hfs2 (Nat.le_of_ble_eq_true rfl) (Nat.le_of_ble_eq_true rfl) ⟨by decide, by decide⟩ p2) ?_
    refine mTo_tr (e_st hT hq_law (show aTab 365 1481 = some (.pop, 1, 0, 0, 0, 0, 0, 0) from rfl) (fr' := (365, 1482, clv, [])) (M' := _) rfl) ?_
    refine mTo_tr (e_st hT hq_law (show aTab 365 1482 = some (.goto 356, 3, 0, 0, 0, 0, 0, 0) from rfl) (fr' := (365, 1838, clv, [])) (M' := _) rfl) ?_
    exact mTo_rf
  exact hEnd_to go (hTail hT hn ⟨l0, l1, l2, ⟨x, l3, hx⟩, hb, t2, hR2⟩ he)
theorem hC_39 (hT : aTabOk) {n : Nat} {f : Nat → Int32} (hn : n ≤ 384) (h : hBoth 222 342 3 false) : hStep n f 1485 := by
  intro e clv M hst he
  obtain ⟨l0, l1, l2, ⟨x, l3, hx⟩, hb, hM, hR⟩ := id hst
  have hx1 : (x + 1).toInt = e + 1 := by rw [i32_add (by rw [hx, show (1 : Int32).toInt = 1 from rfl]; omega) (by rw [hx, show (1 : Int32).toInt = 1 from rfl]; omega), hx, show (1 : Int32).toInt = 1 from rfl]
  obtain ⟨a1, ha1⟩ : ∃ a, a = f (x + 1).toInt.toNat := ⟨_, rfl⟩
  have hx2 : (x + 2).toInt = e + 2 := by rw [i32_add (by rw [hx, show (2 : Int32).toInt = 2 from rfl]; omega) (by rw [hx, show (2 : Int32).toInt = 2 from rfl]; omega), hx, show (2 : Int32).toInt = 2 from rfl]
  obtain ⟨a2, ha2⟩ : ∃ a, a = f (x + 2).toInt.toNat := ⟨_, rfl⟩
  have hx3 : (x + 3).toInt = e + 3 := by rw [i32_add (by rw [hx, show (3 : Int32).toInt = 3 from rfl]; omega) (by rw [hx, show (3 : Int32).toInt = 3 from rfl]; omega), hx, show (3 : Int32).toInt = 3 from rfl]
  obtain ⟨a3, ha3⟩ : ∃ a, a = f (x + 3).toInt.toNat := ⟨_, rfl⟩
  obtain ⟨K1, M1, K2, M2, r1, r2, p1, t1, p2, t2, hR2, heq⟩ := h M hM hR [a1, a2, a3] rfl
  obtain ⟨fs1, hfs1⟩ := ob_at hM (rfl : tTy 0 = some (.inr (11, _)))
  obtain ⟨fs2, hfs2⟩ := ob_at t1 (rfl : tTy 119 = some (.inr (12, _)))
  have go : mTo (some (n, f)) 150 (365, 1485, clv, []) M (365, 1838, clv, []) M2 := by
    refine mTo_tr (e_al1 hT hq_law (show aTab 365 1485 = some (.aload_n 1, 1, 0, 0, 0, 0, 0, 0) from rfl) rfl l1) ?_
    refine mTo_tr (e_al1 hT hq_law (show aTab 365 1486 = some (.aload_n 0, 1, 0, 0, 0, 0, 0, 0) from rfl) rfl l0) ?_
    refine mTo_tr (e_il1 hT hq_law (show aTab 365 1487 = some (.iload_n 3, 1, 0, 0, 0, 0, 0, 0) from rfl) rfl l3) ?_
    refine mTo_tr (e_st hT hq_law (show aTab 365 1488 = some (.iconst 1, 1, 0, 0, 0, 0, 0, 0) from rfl) (fr' := (365, 1489, clv, [.int 1, .int x, .ref 0, .ref 9])) (M' := _) rfl) ?_
    refine mTo_tr (e_st hT hq_law (show aTab 365 1489 = some (.iadd, 1, 0, 0, 0, 0, 0, 0) from rfl) (fr' := (365, 1490, clv, [.int (x + 1), .ref 0, .ref 9])) (M' := _) rfl) ?_
    refine mTo_tr (e_ald0 hT hq_law (show aTab 365 1490 = some (.iaload, 1, 0, 0, 0, 0, 0, 0) from rfl) rfl (by omega)) ?_
    rw [← ha1]
    refine mTo_tr (e_al1 hT hq_law (show aTab 365 1491 = some (.aload_n 0, 1, 0, 0, 0, 0, 0, 0) from rfl) rfl l0) ?_
    refine mTo_tr (e_il1 hT hq_law (show aTab 365 1492 = some (.iload_n 3, 1, 0, 0, 0, 0, 0, 0) from rfl) rfl l3) ?_
    refine mTo_tr (e_st hT hq_law (show aTab 365 1493 = some (.iconst 2, 1, 0, 0, 0, 0, 0, 0) from rfl) (fr' := (365, 1494, clv, [.int 2, .int x, .ref 0, .int a1, .ref 9])) (M' := _) rfl) ?_
    refine mTo_tr (e_st hT hq_law (show aTab 365 1494 = some (.iadd, 1, 0, 0, 0, 0, 0, 0) from rfl) (fr' := (365, 1495, clv, [.int (x + 2), .ref 0, .int a1, .ref 9])) (M' := _) rfl) ?_
    refine mTo_tr (e_ald0 hT hq_law (show aTab 365 1495 = some (.iaload, 1, 0, 0, 0, 0, 0, 0) from rfl) rfl (by omega)) ?_
    rw [← ha2]
    refine mTo_tr (e_al1 hT hq_law (show aTab 365 1496 = some (.aload_n 0, 1, 0, 0, 0, 0, 0, 0) from rfl) rfl l0) ?_
    refine mTo_tr (e_il1 hT hq_law (show aTab 365 1497 = some (.iload_n 3, 1, 0, 0, 0, 0, 0, 0) from rfl) rfl l3) ?_
    refine mTo_tr (e_st hT hq_law (show aTab 365 1498 = some (.iconst 3, 1, 0, 0, 0, 0, 0, 0) from rfl) (fr' := (365, 1499, clv, [.int 3, .int x, .ref 0, .int a2, .int a1, .ref 9])) (M' := _) rfl) ?_
    refine mTo_tr (e_st hT hq_law (show aTab 365 1499 = some (.iadd, 1, 0, 0, 0, 0, 0, 0) from rfl) (fr' := (365, 1500, clv, [.int (x + 3), .ref 0, .int a2, .int a1, .ref 9])) (M' := _) rfl) ?_
    refine mTo_tr (e_ald0 hT hq_law (show aTab 365 1500 = some (.iaload, 1, 0, 0, 0, 0, 0, 0) from rfl) rfl (by omega)) ?_
    rw [← ha3]
    refine mTo_tr (e_call hT hq_law (show aTab 365 1501 = some (.invokevirtual 175, 3, 1, 222, 0, 3, 4, 11) from rfl) rfl ⟨by decide, Nat.le_of_ble_eq_true rfl⟩ hfs1 (Nat.le_of_ble_eq_true rfl) (Nat.le_of_ble_eq_true rfl) ⟨by decide, by decide⟩ p1) ?_
    refine mTo_tr (e_st hT hq_law (show aTab 365 1504 = some (.pop, 1, 0, 0, 0, 0, 0, 0) from rfl) (fr' := (365, 1505, clv, [])) (M' := _) rfl) ?_
    refine mTo_tr (e_al1 hT hq_law (show aTab 365 1505 = some (.aload_n 2, 1, 0, 0, 0, 0, 0, 0) from rfl) rfl l2) ?_
    refine mTo_tr (e_al1 hT hq_law (show aTab 365 1506 = some (.aload_n 0, 1, 0, 0, 0, 0, 0, 0) from rfl) rfl l0) ?_
    refine mTo_tr (e_il1 hT hq_law (show aTab 365 1507 = some (.iload_n 3, 1, 0, 0, 0, 0, 0, 0) from rfl) rfl l3) ?_
    refine mTo_tr (e_st hT hq_law (show aTab 365 1508 = some (.iconst 1, 1, 0, 0, 0, 0, 0, 0) from rfl) (fr' := (365, 1509, clv, [.int 1, .int x, .ref 0, .ref 128])) (M' := _) rfl) ?_
    refine mTo_tr (e_st hT hq_law (show aTab 365 1509 = some (.iadd, 1, 0, 0, 0, 0, 0, 0) from rfl) (fr' := (365, 1510, clv, [.int (x + 1), .ref 0, .ref 128])) (M' := _) rfl) ?_
    refine mTo_tr (e_ald0 hT hq_law (show aTab 365 1510 = some (.iaload, 1, 0, 0, 0, 0, 0, 0) from rfl) rfl (by omega)) ?_
    rw [← ha1]
    refine mTo_tr (e_al1 hT hq_law (show aTab 365 1511 = some (.aload_n 0, 1, 0, 0, 0, 0, 0, 0) from rfl) rfl l0) ?_
    refine mTo_tr (e_il1 hT hq_law (show aTab 365 1512 = some (.iload_n 3, 1, 0, 0, 0, 0, 0, 0) from rfl) rfl l3) ?_
    refine mTo_tr (e_st hT hq_law (show aTab 365 1513 = some (.iconst 2, 1, 0, 0, 0, 0, 0, 0) from rfl) (fr' := (365, 1514, clv, [.int 2, .int x, .ref 0, .int a1, .ref 128])) (M' := _) rfl) ?_
    refine mTo_tr (e_st hT hq_law (show aTab 365 1514 = some (.iadd, 1, 0, 0, 0, 0, 0, 0) from rfl) (fr' := (365, 1515, clv, [.int (x + 2), .ref 0, .int a1, .ref 128])) (M' := _) rfl) ?_
    refine mTo_tr (e_ald0 hT hq_law (show aTab 365 1515 = some (.iaload, 1, 0, 0, 0, 0, 0, 0) from rfl) rfl (by omega)) ?_
    rw [← ha2]
    refine mTo_tr (e_al1 hT hq_law (show aTab 365 1516 = some (.aload_n 0, 1, 0, 0, 0, 0, 0, 0) from rfl) rfl l0) ?_
    refine mTo_tr (e_il1 hT hq_law (show aTab 365 1517 = some (.iload_n 3, 1, 0, 0, 0, 0, 0, 0) from rfl) rfl l3) ?_
    refine mTo_tr (e_st hT hq_law (show aTab 365 1518 = some (.iconst 3, 1, 0, 0, 0, 0, 0, 0) from rfl) (fr' := (365, 1519, clv, [.int 3, .int x, .ref 0, .int a2, .int a1, .ref 128])) (M' := _) rfl) ?_
    refine mTo_tr (e_st hT hq_law (show aTab 365 1519 = some (.iadd, 1, 0, 0, 0, 0, 0, 0) from rfl) (fr' := (365, 1520, clv, [.int (x + 3), .ref 0, .int a2, .int a1, .ref 128])) (M' := _) rfl) ?_
    refine mTo_tr (e_ald0 hT hq_law (show aTab 365 1520 = some (.iaload, 1, 0, 0, 0, 0, 0, 0) from rfl) rfl (by omega)) ?_
    rw [← ha3]
    refine mTo_tr (e_call hT hq_law (show aTab 365 1521 = some (.invokevirtual 178, 3, 1, 342, 0, 3, 7, 12) from rfl) rfl ⟨by decide, Nat.le_of_ble_eq_true rfl⟩ hfs2 (Nat.le_of_ble_eq_true rfl) (Nat.le_of_ble_eq_true rfl) ⟨by decide, by decide⟩ p2) ?_
    refine mTo_tr (e_st hT hq_law (show aTab 365 1524 = some (.pop, 1, 0, 0, 0, 0, 0, 0) from rfl) (fr' := (365, 1525, clv, [])) (M' := _) rfl) ?_
    refine mTo_tr (e_st hT hq_law (show aTab 365 1525 = some (.goto 313, 3, 0, 0, 0, 0, 0, 0) from rfl) (fr' := (365, 1838, clv, [])) (M' := _) rfl) ?_
    exact mTo_rf
  exact hEnd_to go (hTail hT hn ⟨l0, l1, l2, ⟨x, l3, hx⟩, hb, t2, hR2⟩ he)
theorem hC_40 (hT : aTabOk) {n : Nat} {f : Nat → Int32} (hn : n ≤ 384) (h : hBoth 223 343 3 false) : hStep n f 1528 := by
  intro e clv M hst he
  obtain ⟨l0, l1, l2, ⟨x, l3, hx⟩, hb, hM, hR⟩ := id hst
  have hx1 : (x + 1).toInt = e + 1 := by rw [i32_add (by rw [hx, show (1 : Int32).toInt = 1 from rfl]; omega) (by rw [hx, show (1 : Int32).toInt = 1 from rfl]; omega), hx, show (1 : Int32).toInt = 1 from rfl]
  obtain ⟨a1, ha1⟩ : ∃ a, a = f (x + 1).toInt.toNat := ⟨_, rfl⟩
  have hx2 : (x + 2).toInt = e + 2 := by rw [i32_add (by rw [hx, show (2 : Int32).toInt = 2 from rfl]; omega) (by rw [hx, show (2 : Int32).toInt = 2 from rfl]; omega), hx, show (2 : Int32).toInt = 2 from rfl]
  obtain ⟨a2, ha2⟩ : ∃ a, a = f (x + 2).toInt.toNat := ⟨_, rfl⟩
  have hx3 : (x + 3).toInt = e + 3 := by rw [i32_add (by rw [hx, show (3 : Int32).toInt = 3 from rfl]; omega) (by rw [hx, show (3 : Int32).toInt = 3 from rfl]; omega), hx, show (3 : Int32).toInt = 3 from rfl]
  obtain ⟨a3, ha3⟩ : ∃ a, a = f (x + 3).toInt.toNat := ⟨_, rfl⟩
  obtain ⟨K1, M1, K2, M2, r1, r2, p1, t1, p2, t2, hR2, heq⟩ := h M hM hR [a1, a2, a3] rfl
  obtain ⟨fs1, hfs1⟩ := ob_at hM (rfl : tTy 0 = some (.inr (11, _)))
  obtain ⟨fs2, hfs2⟩ := ob_at t1 (rfl : tTy 119 = some (.inr (12, _)))
  have go : mTo (some (n, f)) 150 (365, 1528, clv, []) M (365, 1838, clv, []) M2 := by
    refine mTo_tr (e_al1 hT hq_law (show aTab 365 1528 = some (.aload_n 1, 1, 0, 0, 0, 0, 0, 0) from rfl) rfl l1) ?_
    refine mTo_tr (e_al1 hT hq_law (show aTab 365 1529 = some (.aload_n 0, 1, 0, 0, 0, 0, 0, 0) from rfl) rfl l0) ?_
    refine mTo_tr (e_il1 hT hq_law (show aTab 365 1530 = some (.iload_n 3, 1, 0, 0, 0, 0, 0, 0) from rfl) rfl l3) ?_
    refine mTo_tr (e_st hT hq_law (show aTab 365 1531 = some (.iconst 1, 1, 0, 0, 0, 0, 0, 0) from rfl) (fr' := (365, 1532, clv, [.int 1, .int x, .ref 0, .ref 9])) (M' := _) rfl) ?_
    refine mTo_tr (e_st hT hq_law (show aTab 365 1532 = some (.iadd, 1, 0, 0, 0, 0, 0, 0) from rfl) (fr' := (365, 1533, clv, [.int (x + 1), .ref 0, .ref 9])) (M' := _) rfl) ?_
    refine mTo_tr (e_ald0 hT hq_law (show aTab 365 1533 = some (.iaload, 1, 0, 0, 0, 0, 0, 0) from rfl) rfl (by omega)) ?_
    rw [← ha1]
    refine mTo_tr (e_al1 hT hq_law (show aTab 365 1534 = some (.aload_n 0, 1, 0, 0, 0, 0, 0, 0) from rfl) rfl l0) ?_
    refine mTo_tr (e_il1 hT hq_law (show aTab 365 1535 = some (.iload_n 3, 1, 0, 0, 0, 0, 0, 0) from rfl) rfl l3) ?_
    refine mTo_tr (e_st hT hq_law (show aTab 365 1536 = some (.iconst 2, 1, 0, 0, 0, 0, 0, 0) from rfl) (fr' := (365, 1537, clv, [.int 2, .int x, .ref 0, .int a1, .ref 9])) (M' := _) rfl) ?_
    refine mTo_tr (e_st hT hq_law (show aTab 365 1537 = some (.iadd, 1, 0, 0, 0, 0, 0, 0) from rfl) (fr' := (365, 1538, clv, [.int (x + 2), .ref 0, .int a1, .ref 9])) (M' := _) rfl) ?_
    refine mTo_tr (e_ald0 hT hq_law (show aTab 365 1538 = some (.iaload, 1, 0, 0, 0, 0, 0, 0) from rfl) rfl (by omega)) ?_
    rw [← ha2]
    refine mTo_tr (e_al1 hT hq_law (show aTab 365 1539 = some (.aload_n 0, 1, 0, 0, 0, 0, 0, 0) from rfl) rfl l0) ?_
    refine mTo_tr (e_il1 hT hq_law (show aTab 365 1540 = some (.iload_n 3, 1, 0, 0, 0, 0, 0, 0) from rfl) rfl l3) ?_
    refine mTo_tr (e_st hT hq_law (show aTab 365 1541 = some (.iconst 3, 1, 0, 0, 0, 0, 0, 0) from rfl) (fr' := (365, 1542, clv, [.int 3, .int x, .ref 0, .int a2, .int a1, .ref 9])) (M' := _) rfl) ?_
    refine mTo_tr (e_st hT hq_law (show aTab 365 1542 = some (.iadd, 1, 0, 0, 0, 0, 0, 0) from rfl) (fr' := (365, 1543, clv, [.int (x + 3), .ref 0, .int a2, .int a1, .ref 9])) (M' := _) rfl) ?_
    refine mTo_tr (e_ald0 hT hq_law (show aTab 365 1543 = some (.iaload, 1, 0, 0, 0, 0, 0, 0) from rfl) rfl (by omega)) ?_
    rw [← ha3]
    refine mTo_tr (e_call hT hq_law (show aTab 365 1544 = some (.invokevirtual 179, 3, 1, 223, 0, 3, 4, 11) from rfl) rfl ⟨by decide, Nat.le_of_ble_eq_true rfl⟩ hfs1 (Nat.le_of_ble_eq_true rfl) (Nat.le_of_ble_eq_true rfl) ⟨by decide, by decide⟩ p1) ?_
    refine mTo_tr (e_st hT hq_law (show aTab 365 1547 = some (.pop, 1, 0, 0, 0, 0, 0, 0) from rfl) (fr' := (365, 1548, clv, [])) (M' := _) rfl) ?_
    refine mTo_tr (e_al1 hT hq_law (show aTab 365 1548 = some (.aload_n 2, 1, 0, 0, 0, 0, 0, 0) from rfl) rfl l2) ?_
    refine mTo_tr (e_al1 hT hq_law (show aTab 365 1549 = some (.aload_n 0, 1, 0, 0, 0, 0, 0, 0) from rfl) rfl l0) ?_
    refine mTo_tr (e_il1 hT hq_law (show aTab 365 1550 = some (.iload_n 3, 1, 0, 0, 0, 0, 0, 0) from rfl) rfl l3) ?_
    refine mTo_tr (e_st hT hq_law (show aTab 365 1551 = some (.iconst 1, 1, 0, 0, 0, 0, 0, 0) from rfl) (fr' := (365, 1552, clv, [.int 1, .int x, .ref 0, .ref 128])) (M' := _) rfl) ?_
    refine mTo_tr (e_st hT hq_law (show aTab 365 1552 = some (.iadd, 1, 0, 0, 0, 0, 0, 0) from rfl) (fr' := (365, 1553, clv, [.int (x + 1), .ref 0, .ref 128])) (M' := _) rfl) ?_
    refine mTo_tr (e_ald0 hT hq_law (show aTab 365 1553 = some (.iaload, 1, 0, 0, 0, 0, 0, 0) from rfl) rfl (by omega)) ?_
    rw [← ha1]
    refine mTo_tr (e_al1 hT hq_law (show aTab 365 1554 = some (.aload_n 0, 1, 0, 0, 0, 0, 0, 0) from rfl) rfl l0) ?_
    refine mTo_tr (e_il1 hT hq_law (show aTab 365 1555 = some (.iload_n 3, 1, 0, 0, 0, 0, 0, 0) from rfl) rfl l3) ?_
    refine mTo_tr (e_st hT hq_law (show aTab 365 1556 = some (.iconst 2, 1, 0, 0, 0, 0, 0, 0) from rfl) (fr' := (365, 1557, clv, [.int 2, .int x, .ref 0, .int a1, .ref 128])) (M' := _) rfl) ?_
    refine mTo_tr (e_st hT hq_law (show aTab 365 1557 = some (.iadd, 1, 0, 0, 0, 0, 0, 0) from rfl) (fr' := (365, 1558, clv, [.int (x + 2), .ref 0, .int a1, .ref 128])) (M' := _) rfl) ?_
    refine mTo_tr (e_ald0 hT hq_law (show aTab 365 1558 = some (.iaload, 1, 0, 0, 0, 0, 0, 0) from rfl) rfl (by omega)) ?_
    rw [← ha2]
    refine mTo_tr (e_al1 hT hq_law (show aTab 365 1559 = some (.aload_n 0, 1, 0, 0, 0, 0, 0, 0) from rfl) rfl l0) ?_
    refine mTo_tr (e_il1 hT hq_law (show aTab 365 1560 = some (.iload_n 3, 1, 0, 0, 0, 0, 0, 0) from rfl) rfl l3) ?_
    refine mTo_tr (e_st hT hq_law (show aTab 365 1561 = some (.iconst 3, 1, 0, 0, 0, 0, 0, 0) from rfl) (fr' := (365, 1562, clv, [.int 3, .int x, .ref 0, .int a2, .int a1, .ref 128])) (M' := _) rfl) ?_
    refine mTo_tr (e_st hT hq_law (show aTab 365 1562 = some (.iadd, 1, 0, 0, 0, 0, 0, 0) from rfl) (fr' := (365, 1563, clv, [.int (x + 3), .ref 0, .int a2, .int a1, .ref 128])) (M' := _) rfl) ?_
    refine mTo_tr (e_ald0 hT hq_law (show aTab 365 1563 = some (.iaload, 1, 0, 0, 0, 0, 0, 0) from rfl) rfl (by omega)) ?_
    rw [← ha3]
    refine mTo_tr (e_call hT hq_law (show aTab 365 1564 = some (.invokevirtual 182, 3, 1, 343, 0, 3, 5, 12) from rfl) rfl ⟨by decide, Nat.le_of_ble_eq_true rfl⟩ hfs2 (Nat.le_of_ble_eq_true rfl) (Nat.le_of_ble_eq_true rfl) ⟨by decide, by decide⟩ p2) ?_
    refine mTo_tr (e_st hT hq_law (show aTab 365 1567 = some (.pop, 1, 0, 0, 0, 0, 0, 0) from rfl) (fr' := (365, 1568, clv, [])) (M' := _) rfl) ?_
    refine mTo_tr (e_st hT hq_law (show aTab 365 1568 = some (.goto 270, 3, 0, 0, 0, 0, 0, 0) from rfl) (fr' := (365, 1838, clv, [])) (M' := _) rfl) ?_
    exact mTo_rf
  exact hEnd_to go (hTail hT hn ⟨l0, l1, l2, ⟨x, l3, hx⟩, hb, t2, hR2⟩ he)
theorem hC_41 (hT : aTabOk) {n : Nat} {f : Nat → Int32} (hn : n ≤ 384) (h : hBoth 224 347 1 false) : hStep n f 1571 := by
  intro e clv M hst he
  obtain ⟨l0, l1, l2, ⟨x, l3, hx⟩, hb, hM, hR⟩ := id hst
  have hx1 : (x + 1).toInt = e + 1 := by rw [i32_add (by rw [hx, show (1 : Int32).toInt = 1 from rfl]; omega) (by rw [hx, show (1 : Int32).toInt = 1 from rfl]; omega), hx, show (1 : Int32).toInt = 1 from rfl]
  obtain ⟨a1, ha1⟩ : ∃ a, a = f (x + 1).toInt.toNat := ⟨_, rfl⟩
  obtain ⟨K1, M1, K2, M2, r1, r2, p1, t1, p2, t2, hR2, heq⟩ := h M hM hR [a1] rfl
  obtain ⟨fs1, hfs1⟩ := ob_at hM (rfl : tTy 0 = some (.inr (11, _)))
  obtain ⟨fs2, hfs2⟩ := ob_at t1 (rfl : tTy 119 = some (.inr (12, _)))
  have go : mTo (some (n, f)) 150 (365, 1571, clv, []) M (365, 1838, clv, []) M2 := by
    refine mTo_tr (e_al1 hT hq_law (show aTab 365 1571 = some (.aload_n 1, 1, 0, 0, 0, 0, 0, 0) from rfl) rfl l1) ?_
    refine mTo_tr (e_al1 hT hq_law (show aTab 365 1572 = some (.aload_n 0, 1, 0, 0, 0, 0, 0, 0) from rfl) rfl l0) ?_
    refine mTo_tr (e_il1 hT hq_law (show aTab 365 1573 = some (.iload_n 3, 1, 0, 0, 0, 0, 0, 0) from rfl) rfl l3) ?_
    refine mTo_tr (e_st hT hq_law (show aTab 365 1574 = some (.iconst 1, 1, 0, 0, 0, 0, 0, 0) from rfl) (fr' := (365, 1575, clv, [.int 1, .int x, .ref 0, .ref 9])) (M' := _) rfl) ?_
    refine mTo_tr (e_st hT hq_law (show aTab 365 1575 = some (.iadd, 1, 0, 0, 0, 0, 0, 0) from rfl) (fr' := (365, 1576, clv, [.int (x + 1), .ref 0, .ref 9])) (M' := _) rfl) ?_
    refine mTo_tr (e_ald0 hT hq_law (show aTab 365 1576 = some (.iaload, 1, 0, 0, 0, 0, 0, 0) from rfl) rfl (by omega)) ?_
    rw [← ha1]
    refine mTo_tr (e_call hT hq_law (show aTab 365 1577 = some (.invokevirtual 183, 3, 1, 224, 0, 1, 2, 11) from rfl) rfl ⟨by decide, Nat.le_of_ble_eq_true rfl⟩ hfs1 (Nat.le_of_ble_eq_true rfl) (Nat.le_of_ble_eq_true rfl) ⟨by decide, by decide⟩ p1) ?_
    refine mTo_tr (e_st hT hq_law (show aTab 365 1580 = some (.pop, 1, 0, 0, 0, 0, 0, 0) from rfl) (fr' := (365, 1581, clv, [])) (M' := _) rfl) ?_
    refine mTo_tr (e_al1 hT hq_law (show aTab 365 1581 = some (.aload_n 2, 1, 0, 0, 0, 0, 0, 0) from rfl) rfl l2) ?_
    refine mTo_tr (e_al1 hT hq_law (show aTab 365 1582 = some (.aload_n 0, 1, 0, 0, 0, 0, 0, 0) from rfl) rfl l0) ?_
    refine mTo_tr (e_il1 hT hq_law (show aTab 365 1583 = some (.iload_n 3, 1, 0, 0, 0, 0, 0, 0) from rfl) rfl l3) ?_
    refine mTo_tr (e_st hT hq_law (show aTab 365 1584 = some (.iconst 1, 1, 0, 0, 0, 0, 0, 0) from rfl) (fr' := (365, 1585, clv, [.int 1, .int x, .ref 0, .ref 128])) (M' := _) rfl) ?_
    refine mTo_tr (e_st hT hq_law (show aTab 365 1585 = some (.iadd, 1, 0, 0, 0, 0, 0, 0) from rfl) (fr' := (365, 1586, clv, [.int (x + 1), .ref 0, .ref 128])) (M' := _) rfl) ?_
    refine mTo_tr (e_ald0 hT hq_law (show aTab 365 1586 = some (.iaload, 1, 0, 0, 0, 0, 0, 0) from rfl) rfl (by omega)) ?_
    rw [← ha1]
    refine mTo_tr (e_call hT hq_law (show aTab 365 1587 = some (.invokevirtual 186, 3, 1, 347, 0, 1, 2, 12) from rfl) rfl ⟨by decide, Nat.le_of_ble_eq_true rfl⟩ hfs2 (Nat.le_of_ble_eq_true rfl) (Nat.le_of_ble_eq_true rfl) ⟨by decide, by decide⟩ p2) ?_
    refine mTo_tr (e_st hT hq_law (show aTab 365 1590 = some (.pop, 1, 0, 0, 0, 0, 0, 0) from rfl) (fr' := (365, 1591, clv, [])) (M' := _) rfl) ?_
    refine mTo_tr (e_st hT hq_law (show aTab 365 1591 = some (.goto 247, 3, 0, 0, 0, 0, 0, 0) from rfl) (fr' := (365, 1838, clv, [])) (M' := _) rfl) ?_
    exact mTo_rf
  exact hEnd_to go (hTail hT hn ⟨l0, l1, l2, ⟨x, l3, hx⟩, hb, t2, hR2⟩ he)
theorem hC_42 (hT : aTabOk) {n : Nat} {f : Nat → Int32} (hn : n ≤ 384) (h : hBoth 225 348 2 true) : hStep n f 1594 := by
  intro e clv M hst he
  obtain ⟨l0, l1, l2, ⟨x, l3, hx⟩, hb, hM, hR⟩ := id hst
  have hx1 : (x + 1).toInt = e + 1 := by rw [i32_add (by rw [hx, show (1 : Int32).toInt = 1 from rfl]; omega) (by rw [hx, show (1 : Int32).toInt = 1 from rfl]; omega), hx, show (1 : Int32).toInt = 1 from rfl]
  obtain ⟨a1, ha1⟩ : ∃ a, a = f (x + 1).toInt.toNat := ⟨_, rfl⟩
  have hx2 : (x + 2).toInt = e + 2 := by rw [i32_add (by rw [hx, show (2 : Int32).toInt = 2 from rfl]; omega) (by rw [hx, show (2 : Int32).toInt = 2 from rfl]; omega), hx, show (2 : Int32).toInt = 2 from rfl]
  obtain ⟨a2, ha2⟩ : ∃ a, a = f (x + 2).toInt.toNat := ⟨_, rfl⟩
  obtain ⟨K1, M1, K2, M2, r1, r2, p1, t1, p2, t2, hR2, heq⟩ := h M hM hR [a1, a2] rfl
  obtain ⟨fs1, hfs1⟩ := ob_at hM (rfl : tTy 0 = some (.inr (11, _)))
  obtain ⟨fs2, hfs2⟩ := ob_at t1 (rfl : tTy 119 = some (.inr (12, _)))
  have go : mTo (some (n, f)) 150 (365, 1594, clv, []) M (365, 1838, clv, []) M2 := by
    refine mTo_tr (e_al1 hT hq_law (show aTab 365 1594 = some (.aload_n 1, 1, 0, 0, 0, 0, 0, 0) from rfl) rfl l1) ?_
    refine mTo_tr (e_al1 hT hq_law (show aTab 365 1595 = some (.aload_n 0, 1, 0, 0, 0, 0, 0, 0) from rfl) rfl l0) ?_
    refine mTo_tr (e_il1 hT hq_law (show aTab 365 1596 = some (.iload_n 3, 1, 0, 0, 0, 0, 0, 0) from rfl) rfl l3) ?_
    refine mTo_tr (e_st hT hq_law (show aTab 365 1597 = some (.iconst 1, 1, 0, 0, 0, 0, 0, 0) from rfl) (fr' := (365, 1598, clv, [.int 1, .int x, .ref 0, .ref 9])) (M' := _) rfl) ?_
    refine mTo_tr (e_st hT hq_law (show aTab 365 1598 = some (.iadd, 1, 0, 0, 0, 0, 0, 0) from rfl) (fr' := (365, 1599, clv, [.int (x + 1), .ref 0, .ref 9])) (M' := _) rfl) ?_
    refine mTo_tr (e_ald0 hT hq_law (show aTab 365 1599 = some (.iaload, 1, 0, 0, 0, 0, 0, 0) from rfl) rfl (by omega)) ?_
    rw [← ha1]
    refine mTo_tr (e_al1 hT hq_law (show aTab 365 1600 = some (.aload_n 0, 1, 0, 0, 0, 0, 0, 0) from rfl) rfl l0) ?_
    refine mTo_tr (e_il1 hT hq_law (show aTab 365 1601 = some (.iload_n 3, 1, 0, 0, 0, 0, 0, 0) from rfl) rfl l3) ?_
    refine mTo_tr (e_st hT hq_law (show aTab 365 1602 = some (.iconst 2, 1, 0, 0, 0, 0, 0, 0) from rfl) (fr' := (365, 1603, clv, [.int 2, .int x, .ref 0, .int a1, .ref 9])) (M' := _) rfl) ?_
    refine mTo_tr (e_st hT hq_law (show aTab 365 1603 = some (.iadd, 1, 0, 0, 0, 0, 0, 0) from rfl) (fr' := (365, 1604, clv, [.int (x + 2), .ref 0, .int a1, .ref 9])) (M' := _) rfl) ?_
    refine mTo_tr (e_ald0 hT hq_law (show aTab 365 1604 = some (.iaload, 1, 0, 0, 0, 0, 0, 0) from rfl) rfl (by omega)) ?_
    rw [← ha2]
    refine mTo_tr (e_call hT hq_law (show aTab 365 1605 = some (.invokevirtual 187, 3, 1, 225, 0, 2, 3, 11) from rfl) rfl ⟨by decide, Nat.le_of_ble_eq_true rfl⟩ hfs1 (Nat.le_of_ble_eq_true rfl) (Nat.le_of_ble_eq_true rfl) ⟨by decide, by decide⟩ p1) ?_
    refine mTo_tr (e_al1 hT hq_law (show aTab 365 1608 = some (.aload_n 2, 1, 0, 0, 0, 0, 0, 0) from rfl) rfl l2) ?_
    refine mTo_tr (e_al1 hT hq_law (show aTab 365 1609 = some (.aload_n 0, 1, 0, 0, 0, 0, 0, 0) from rfl) rfl l0) ?_
    refine mTo_tr (e_il1 hT hq_law (show aTab 365 1610 = some (.iload_n 3, 1, 0, 0, 0, 0, 0, 0) from rfl) rfl l3) ?_
    refine mTo_tr (e_st hT hq_law (show aTab 365 1611 = some (.iconst 1, 1, 0, 0, 0, 0, 0, 0) from rfl) (fr' := (365, 1612, clv, [.int 1, .int x, .ref 0, .ref 128, .int r1])) (M' := _) rfl) ?_
    refine mTo_tr (e_st hT hq_law (show aTab 365 1612 = some (.iadd, 1, 0, 0, 0, 0, 0, 0) from rfl) (fr' := (365, 1613, clv, [.int (x + 1), .ref 0, .ref 128, .int r1])) (M' := _) rfl) ?_
    refine mTo_tr (e_ald0 hT hq_law (show aTab 365 1613 = some (.iaload, 1, 0, 0, 0, 0, 0, 0) from rfl) rfl (by omega)) ?_
    rw [← ha1]
    refine mTo_tr (e_al1 hT hq_law (show aTab 365 1614 = some (.aload_n 0, 1, 0, 0, 0, 0, 0, 0) from rfl) rfl l0) ?_
    refine mTo_tr (e_il1 hT hq_law (show aTab 365 1615 = some (.iload_n 3, 1, 0, 0, 0, 0, 0, 0) from rfl) rfl l3) ?_
    refine mTo_tr (e_st hT hq_law (show aTab 365 1616 = some (.iconst 2, 1, 0, 0, 0, 0, 0, 0) from rfl) (fr' := (365, 1617, clv, [.int 2, .int x, .ref 0, .int a1, .ref 128, .int r1])) (M' := _) rfl) ?_
    refine mTo_tr (e_st hT hq_law (show aTab 365 1617 = some (.iadd, 1, 0, 0, 0, 0, 0, 0) from rfl) (fr' := (365, 1618, clv, [.int (x + 2), .ref 0, .int a1, .ref 128, .int r1])) (M' := _) rfl) ?_
    refine mTo_tr (e_ald0 hT hq_law (show aTab 365 1618 = some (.iaload, 1, 0, 0, 0, 0, 0, 0) from rfl) rfl (by omega)) ?_
    rw [← ha2]
    refine mTo_tr (e_call hT hq_law (show aTab 365 1619 = some (.invokevirtual 190, 3, 1, 348, 0, 2, 8, 12) from rfl) rfl ⟨by decide, Nat.le_of_ble_eq_true rfl⟩ hfs2 (Nat.le_of_ble_eq_true rfl) (Nat.le_of_ble_eq_true rfl) ⟨by decide, by decide⟩ p2) ?_
    refine mTo_tr (e_icT hT hq_law (show aTab 365 1622 = some (.if_icmp .eq 216, 3, 0, 0, 0, 0, 0, 0) from rfl) rfl (show mTg 1622 216 = some 1838 from rfl) (cdT (by show _ = _; rw [heq rfl]))) ?_
    exact mTo_rf
  exact hEnd_to go (hTail hT hn ⟨l0, l1, l2, ⟨x, l3, hx⟩, hb, t2, hR2⟩ he)
theorem hC_43 (hT : aTabOk) {n : Nat} {f : Nat → Int32} (hn : n ≤ 384) (h : hBoth 226 349 4 false) : hStep n f 1627 := by
  intro e clv M hst he
  obtain ⟨l0, l1, l2, ⟨x, l3, hx⟩, hb, hM, hR⟩ := id hst
  have hx1 : (x + 1).toInt = e + 1 := by rw [i32_add (by rw [hx, show (1 : Int32).toInt = 1 from rfl]; omega) (by rw [hx, show (1 : Int32).toInt = 1 from rfl]; omega), hx, show (1 : Int32).toInt = 1 from rfl]
  obtain ⟨a1, ha1⟩ : ∃ a, a = f (x + 1).toInt.toNat := ⟨_, rfl⟩
  have hx2 : (x + 2).toInt = e + 2 := by rw [i32_add (by rw [hx, show (2 : Int32).toInt = 2 from rfl]; omega) (by rw [hx, show (2 : Int32).toInt = 2 from rfl]; omega), hx, show (2 : Int32).toInt = 2 from rfl]
  obtain ⟨a2, ha2⟩ : ∃ a, a = f (x + 2).toInt.toNat := ⟨_, rfl⟩
  have hx3 : (x + 3).toInt = e + 3 := by rw [i32_add (by rw [hx, show (3 : Int32).toInt = 3 from rfl]; omega) (by rw [hx, show (3 : Int32).toInt = 3 from rfl]; omega), hx, show (3 : Int32).toInt = 3 from rfl]
  obtain ⟨a3, ha3⟩ : ∃ a, a = f (x + 3).toInt.toNat := ⟨_, rfl⟩
  have hx4 : (x + 4).toInt = e + 4 := by rw [i32_add (by rw [hx, show (4 : Int32).toInt = 4 from rfl]; omega) (by rw [hx, show (4 : Int32).toInt = 4 from rfl]; omega), hx, show (4 : Int32).toInt = 4 from rfl]
  obtain ⟨a4, ha4⟩ : ∃ a, a = f (x + 4).toInt.toNat := ⟨_, rfl⟩
  obtain ⟨K1, M1, K2, M2, r1, r2, p1, t1, p2, t2, hR2, heq⟩ := h M hM hR [a1, a2, a3, a4] rfl
  obtain ⟨fs1, hfs1⟩ := ob_at hM (rfl : tTy 0 = some (.inr (11, _)))
  obtain ⟨fs2, hfs2⟩ := ob_at t1 (rfl : tTy 119 = some (.inr (12, _)))
  have go : mTo (some (n, f)) 150 (365, 1627, clv, []) M (365, 1838, clv, []) M2 := by
    refine mTo_tr (e_al1 hT hq_law (show aTab 365 1627 = some (.aload_n 1, 1, 0, 0, 0, 0, 0, 0) from rfl) rfl l1) ?_
    refine mTo_tr (e_al1 hT hq_law (show aTab 365 1628 = some (.aload_n 0, 1, 0, 0, 0, 0, 0, 0) from rfl) rfl l0) ?_
    refine mTo_tr (e_il1 hT hq_law (show aTab 365 1629 = some (.iload_n 3, 1, 0, 0, 0, 0, 0, 0) from rfl) rfl l3) ?_
    refine mTo_tr (e_st hT hq_law (show aTab 365 1630 = some (.iconst 1, 1, 0, 0, 0, 0, 0, 0) from rfl) (fr' := (365, 1631, clv, [.int 1, .int x, .ref 0, .ref 9])) (M' := _) rfl) ?_
    refine mTo_tr (e_st hT hq_law (show aTab 365 1631 = some (.iadd, 1, 0, 0, 0, 0, 0, 0) from rfl) (fr' := (365, 1632, clv, [.int (x + 1), .ref 0, .ref 9])) (M' := _) rfl) ?_
    refine mTo_tr (e_ald0 hT hq_law (show aTab 365 1632 = some (.iaload, 1, 0, 0, 0, 0, 0, 0) from rfl) rfl (by omega)) ?_
    rw [← ha1]
    refine mTo_tr (e_al1 hT hq_law (show aTab 365 1633 = some (.aload_n 0, 1, 0, 0, 0, 0, 0, 0) from rfl) rfl l0) ?_
    refine mTo_tr (e_il1 hT hq_law (show aTab 365 1634 = some (.iload_n 3, 1, 0, 0, 0, 0, 0, 0) from rfl) rfl l3) ?_
    refine mTo_tr (e_st hT hq_law (show aTab 365 1635 = some (.iconst 2, 1, 0, 0, 0, 0, 0, 0) from rfl) (fr' := (365, 1636, clv, [.int 2, .int x, .ref 0, .int a1, .ref 9])) (M' := _) rfl) ?_
    refine mTo_tr (e_st hT hq_law (show aTab 365 1636 = some (.iadd, 1, 0, 0, 0, 0, 0, 0) from rfl) (fr' := (365, 1637, clv, [.int (x + 2), .ref 0, .int a1, .ref 9])) (M' := _) rfl) ?_
    refine mTo_tr (e_ald0 hT hq_law (show aTab 365 1637 = some (.iaload, 1, 0, 0, 0, 0, 0, 0) from rfl) rfl (by omega)) ?_
    rw [← ha2]
    refine mTo_tr (e_al1 hT hq_law (show aTab 365 1638 = some (.aload_n 0, 1, 0, 0, 0, 0, 0, 0) from rfl) rfl l0) ?_
    refine mTo_tr (e_il1 hT hq_law (show aTab 365 1639 = some (.iload_n 3, 1, 0, 0, 0, 0, 0, 0) from rfl) rfl l3) ?_
    refine mTo_tr (e_st hT hq_law (show aTab 365 1640 = some (.iconst 3, 1, 0, 0, 0, 0, 0, 0) from rfl) (fr' := (365, 1641, clv, [.int 3, .int x, .ref 0, .int a2, .int a1, .ref 9])) (M' := _) rfl) ?_
    refine mTo_tr (e_st hT hq_law (show aTab 365 1641 = some (.iadd, 1, 0, 0, 0, 0, 0, 0) from rfl) (fr' := (365, 1642, clv, [.int (x + 3), .ref 0, .int a2, .int a1, .ref 9])) (M' := _) rfl) ?_
    refine mTo_tr (e_ald0 hT hq_law (show aTab 365 1642 = some (.iaload, 1, 0, 0, 0, 0, 0, 0) from rfl) rfl (by omega)) ?_
    rw [← ha3]
    refine mTo_tr (e_al1 hT hq_law (show aTab 365 1643 = some (.aload_n 0, 1, 0, 0, 0, 0, 0, 0) from rfl) rfl l0) ?_
    refine mTo_tr (e_il1 hT hq_law (show aTab 365 1644 = some (.iload_n 3, 1, 0, 0, 0, 0, 0, 0) from rfl) rfl l3) ?_
    refine mTo_tr (e_st hT hq_law (show aTab 365 1645 = some (.iconst 4, 1, 0, 0, 0, 0, 0, 0) from rfl) (fr' := (365, 1646, clv, [.int 4, .int x, .ref 0, .int a3, .int a2, .int a1, .ref 9])) (M' := _) rfl) ?_
    refine mTo_tr (e_st hT hq_law (show aTab 365 1646 = some (.iadd, 1, 0, 0, 0, 0, 0, 0) from rfl) (fr' := (365, 1647, clv, [.int (x + 4), .ref 0, .int a3, .int a2, .int a1, .ref 9])) (M' := _) rfl) ?_
    refine mTo_tr (e_ald0 hT hq_law (show aTab 365 1647 = some (.iaload, 1, 0, 0, 0, 0, 0, 0) from rfl) rfl (by omega)) ?_
    rw [← ha4]
    refine mTo_tr (e_call hT hq_law (show aTab 365 1648 = some (.invokevirtual 191, 3, 1, 226, 0, 4, 5, 11) from rfl) rfl ⟨by decide, Nat.le_of_ble_eq_true rfl⟩ hfs1 (Nat.le_of_ble_eq_true rfl) (Nat.le_of_ble_eq_true rfl) ⟨by decide, by decide⟩ p1) ?_
    refine mTo_tr (e_st hT hq_law (show aTab 365 1651 = some (.pop, 1, 0, 0, 0, 0, 0, 0) from rfl) (fr' := (365, 1652, clv, [])) (M' := _) rfl) ?_
    refine mTo_tr (e_al1 hT hq_law (show aTab 365 1652 = some (.aload_n 2, 1, 0, 0, 0, 0, 0, 0) from rfl) rfl l2) ?_
    refine mTo_tr (e_al1 hT hq_law (show aTab 365 1653 = some (.aload_n 0, 1, 0, 0, 0, 0, 0, 0) from rfl) rfl l0) ?_
    refine mTo_tr (e_il1 hT hq_law (show aTab 365 1654 = some (.iload_n 3, 1, 0, 0, 0, 0, 0, 0) from rfl) rfl l3) ?_
    refine mTo_tr (e_st hT hq_law (show aTab 365 1655 = some (.iconst 1, 1, 0, 0, 0, 0, 0, 0) from rfl) (fr' := (365, 1656, clv, [.int 1, .int x, .ref 0, .ref 128])) (M' := _) rfl) ?_
    refine mTo_tr (e_st hT hq_law (show aTab 365 1656 = some (.iadd, 1, 0, 0, 0, 0, 0, 0) from rfl) (fr' := (365, 1657, clv, [.int (x + 1), .ref 0, .ref 128])) (M' := _) rfl) ?_
    refine mTo_tr (e_ald0 hT hq_law (show aTab 365 1657 = some (.iaload, 1, 0, 0, 0, 0, 0, 0) from rfl) rfl (by omega)) ?_
    rw [← ha1]
    refine mTo_tr (e_al1 hT hq_law (show aTab 365 1658 = some (.aload_n 0, 1, 0, 0, 0, 0, 0, 0) from rfl) rfl l0) ?_
    refine mTo_tr (e_il1 hT hq_law (show aTab 365 1659 = some (.iload_n 3, 1, 0, 0, 0, 0, 0, 0) from rfl) rfl l3) ?_
    refine mTo_tr (e_st hT hq_law (show aTab 365 1660 = some (.iconst 2, 1, 0, 0, 0, 0, 0, 0) from rfl) (fr' := (365, 1661, clv, [.int 2, .int x, .ref 0, .int a1, .ref 128])) (M' := _) rfl) ?_
    refine mTo_tr (e_st hT hq_law (show aTab 365 1661 = some (.iadd, 1, 0, 0, 0, 0, 0, 0) from rfl) (fr' := (365, 1662, clv, [.int (x + 2), .ref 0, .int a1, .ref 128])) (M' := _) rfl) ?_
    refine mTo_tr (e_ald0 hT hq_law (show aTab 365 1662 = some (.iaload, 1, 0, 0, 0, 0, 0, 0) from rfl) rfl (by omega)) ?_
    rw [← ha2]
    refine mTo_tr (e_al1 hT hq_law (show aTab 365 1663 = some (.aload_n 0, 1, 0, 0, 0, 0, 0, 0) from rfl) rfl l0) ?_
    refine mTo_tr (e_il1 hT hq_law (show aTab 365 1664 = some (.iload_n 3, 1, 0, 0, 0, 0, 0, 0) from rfl) rfl l3) ?_
    refine mTo_tr (e_st hT hq_law (show aTab 365 1665 = some (.iconst 3, 1, 0, 0, 0, 0, 0, 0) from rfl) (fr' := (365, 1666, clv, [.int 3, .int x, .ref 0, .int a2, .int a1, .ref 128])) (M' := _) rfl) ?_
    refine mTo_tr (e_st hT hq_law (show aTab 365 1666 = some (.iadd, 1, 0, 0, 0, 0, 0, 0) from rfl) (fr' := (365, 1667, clv, [.int (x + 3), .ref 0, .int a2, .int a1, .ref 128])) (M' := _) rfl) ?_
    refine mTo_tr (e_ald0 hT hq_law (show aTab 365 1667 = some (.iaload, 1, 0, 0, 0, 0, 0, 0) from rfl) rfl (by omega)) ?_
    rw [← ha3]
    refine mTo_tr (e_al1 hT hq_law (show aTab 365 1668 = some (.aload_n 0, 1, 0, 0, 0, 0, 0, 0) from rfl) rfl l0) ?_
    refine mTo_tr (e_il1 hT hq_law (show aTab 365 1669 = some (.iload_n 3, 1, 0, 0, 0, 0, 0, 0) from rfl) rfl l3) ?_
    refine mTo_tr (e_st hT hq_law (show aTab 365 1670 = some (.iconst 4, 1, 0, 0, 0, 0, 0, 0) from rfl) (fr' := (365, 1671, clv, [.int 4, .int x, .ref 0, .int a3, .int a2, .int a1, .ref 128])) (M' := _) rfl) ?_
    refine mTo_tr (e_st hT hq_law (show aTab 365 1671 = some (.iadd, 1, 0, 0, 0, 0, 0, 0) from rfl) (fr' := (365, 1672, clv, [.int (x + 4), .ref 0, .int a3, .int a2, .int a1, .ref 128])) (M' := _) rfl) ?_
    refine mTo_tr (e_ald0 hT hq_law (show aTab 365 1672 = some (.iaload, 1, 0, 0, 0, 0, 0, 0) from rfl) rfl (by omega)) ?_
    rw [← ha4]
    refine mTo_tr (e_call hT hq_law (show aTab 365 1673 = some (.invokevirtual 194, 3, 1, 349, 0, 4, 6, 12) from rfl) rfl ⟨by decide, Nat.le_of_ble_eq_true rfl⟩ hfs2 (Nat.le_of_ble_eq_true rfl) (Nat.le_of_ble_eq_true rfl) ⟨by decide, by decide⟩ p2) ?_
    refine mTo_tr (e_st hT hq_law (show aTab 365 1676 = some (.pop, 1, 0, 0, 0, 0, 0, 0) from rfl) (fr' := (365, 1677, clv, [])) (M' := _) rfl) ?_
    refine mTo_tr (e_st hT hq_law (show aTab 365 1677 = some (.goto 161, 3, 0, 0, 0, 0, 0, 0) from rfl) (fr' := (365, 1838, clv, [])) (M' := _) rfl) ?_
    exact mTo_rf
  exact hEnd_to go (hTail hT hn ⟨l0, l1, l2, ⟨x, l3, hx⟩, hb, t2, hR2⟩ he)
theorem hC_44 (hT : aTabOk) {n : Nat} {f : Nat → Int32} (hn : n ≤ 384) (h : hBoth 227 354 3 false) : hStep n f 1680 := by
  intro e clv M hst he
  obtain ⟨l0, l1, l2, ⟨x, l3, hx⟩, hb, hM, hR⟩ := id hst
  have hx1 : (x + 1).toInt = e + 1 := by rw [i32_add (by rw [hx, show (1 : Int32).toInt = 1 from rfl]; omega) (by rw [hx, show (1 : Int32).toInt = 1 from rfl]; omega), hx, show (1 : Int32).toInt = 1 from rfl]
  obtain ⟨a1, ha1⟩ : ∃ a, a = f (x + 1).toInt.toNat := ⟨_, rfl⟩
  have hx2 : (x + 2).toInt = e + 2 := by rw [i32_add (by rw [hx, show (2 : Int32).toInt = 2 from rfl]; omega) (by rw [hx, show (2 : Int32).toInt = 2 from rfl]; omega), hx, show (2 : Int32).toInt = 2 from rfl]
  obtain ⟨a2, ha2⟩ : ∃ a, a = f (x + 2).toInt.toNat := ⟨_, rfl⟩
  have hx3 : (x + 3).toInt = e + 3 := by rw [i32_add (by rw [hx, show (3 : Int32).toInt = 3 from rfl]; omega) (by rw [hx, show (3 : Int32).toInt = 3 from rfl]; omega), hx, show (3 : Int32).toInt = 3 from rfl]
  obtain ⟨a3, ha3⟩ : ∃ a, a = f (x + 3).toInt.toNat := ⟨_, rfl⟩
  obtain ⟨K1, M1, K2, M2, r1, r2, p1, t1, p2, t2, hR2, heq⟩ := h M hM hR [a1, a2, a3] rfl
  obtain ⟨fs1, hfs1⟩ := ob_at hM (rfl : tTy 0 = some (.inr (11, _)))
  obtain ⟨fs2, hfs2⟩ := ob_at t1 (rfl : tTy 119 = some (.inr (12, _)))
  have go : mTo (some (n, f)) 150 (365, 1680, clv, []) M (365, 1838, clv, []) M2 := by
    refine mTo_tr (e_al1 hT hq_law (show aTab 365 1680 = some (.aload_n 1, 1, 0, 0, 0, 0, 0, 0) from rfl) rfl l1) ?_
    refine mTo_tr (e_al1 hT hq_law (show aTab 365 1681 = some (.aload_n 0, 1, 0, 0, 0, 0, 0, 0) from rfl) rfl l0) ?_
    refine mTo_tr (e_il1 hT hq_law (show aTab 365 1682 = some (.iload_n 3, 1, 0, 0, 0, 0, 0, 0) from rfl) rfl l3) ?_
    refine mTo_tr (e_st hT hq_law (show aTab 365 1683 = some (.iconst 1, 1, 0, 0, 0, 0, 0, 0) from rfl) (fr' := (365, 1684, clv, [.int 1, .int x, .ref 0, .ref 9])) (M' := _) rfl) ?_
    refine mTo_tr (e_st hT hq_law (show aTab 365 1684 = some (.iadd, 1, 0, 0, 0, 0, 0, 0) from rfl) (fr' := (365, 1685, clv, [.int (x + 1), .ref 0, .ref 9])) (M' := _) rfl) ?_
    refine mTo_tr (e_ald0 hT hq_law (show aTab 365 1685 = some (.iaload, 1, 0, 0, 0, 0, 0, 0) from rfl) rfl (by omega)) ?_
    rw [← ha1]
    refine mTo_tr (e_al1 hT hq_law (show aTab 365 1686 = some (.aload_n 0, 1, 0, 0, 0, 0, 0, 0) from rfl) rfl l0) ?_
    refine mTo_tr (e_il1 hT hq_law (show aTab 365 1687 = some (.iload_n 3, 1, 0, 0, 0, 0, 0, 0) from rfl) rfl l3) ?_
    refine mTo_tr (e_st hT hq_law (show aTab 365 1688 = some (.iconst 2, 1, 0, 0, 0, 0, 0, 0) from rfl) (fr' := (365, 1689, clv, [.int 2, .int x, .ref 0, .int a1, .ref 9])) (M' := _) rfl) ?_
    refine mTo_tr (e_st hT hq_law (show aTab 365 1689 = some (.iadd, 1, 0, 0, 0, 0, 0, 0) from rfl) (fr' := (365, 1690, clv, [.int (x + 2), .ref 0, .int a1, .ref 9])) (M' := _) rfl) ?_
    refine mTo_tr (e_ald0 hT hq_law (show aTab 365 1690 = some (.iaload, 1, 0, 0, 0, 0, 0, 0) from rfl) rfl (by omega)) ?_
    rw [← ha2]
    refine mTo_tr (e_al1 hT hq_law (show aTab 365 1691 = some (.aload_n 0, 1, 0, 0, 0, 0, 0, 0) from rfl) rfl l0) ?_
    refine mTo_tr (e_il1 hT hq_law (show aTab 365 1692 = some (.iload_n 3, 1, 0, 0, 0, 0, 0, 0) from rfl) rfl l3) ?_
    refine mTo_tr (e_st hT hq_law (show aTab 365 1693 = some (.iconst 3, 1, 0, 0, 0, 0, 0, 0) from rfl) (fr' := (365, 1694, clv, [.int 3, .int x, .ref 0, .int a2, .int a1, .ref 9])) (M' := _) rfl) ?_
    refine mTo_tr (e_st hT hq_law (show aTab 365 1694 = some (.iadd, 1, 0, 0, 0, 0, 0, 0) from rfl) (fr' := (365, 1695, clv, [.int (x + 3), .ref 0, .int a2, .int a1, .ref 9])) (M' := _) rfl) ?_
    refine mTo_tr (e_ald0 hT hq_law (show aTab 365 1695 = some (.iaload, 1, 0, 0, 0, 0, 0, 0) from rfl) rfl (by omega)) ?_
    rw [← ha3]
    refine mTo_tr (e_call hT hq_law (show aTab 365 1696 = some (.invokevirtual 195, 3, 1, 227, 0, 3, 4, 11) from rfl) rfl ⟨by decide, Nat.le_of_ble_eq_true rfl⟩ hfs1 (Nat.le_of_ble_eq_true rfl) (Nat.le_of_ble_eq_true rfl) ⟨by decide, by decide⟩ p1) ?_
    refine mTo_tr (e_st hT hq_law (show aTab 365 1699 = some (.pop, 1, 0, 0, 0, 0, 0, 0) from rfl) (fr' := (365, 1700, clv, [])) (M' := _) rfl) ?_
    refine mTo_tr (e_al1 hT hq_law (show aTab 365 1700 = some (.aload_n 2, 1, 0, 0, 0, 0, 0, 0) from rfl) rfl l2) ?_
    refine mTo_tr (e_al1 hT hq_law (show aTab 365 1701 = some (.aload_n 0, 1, 0, 0, 0, 0, 0, 0) from rfl) rfl l0) ?_
    refine mTo_tr (e_il1 hT hq_law (show aTab 365 1702 = some (.iload_n 3, 1, 0, 0, 0, 0, 0, 0) from rfl) rfl l3) ?_
    refine mTo_tr (e_st hT hq_law (show aTab 365 1703 = some (.iconst 1, 1, 0, 0, 0, 0, 0, 0) from rfl) (fr' := (365, 1704, clv, [.int 1, .int x, .ref 0, .ref 128])) (M' := _) rfl) ?_
    refine mTo_tr (e_st hT hq_law (show aTab 365 1704 = some (.iadd, 1, 0, 0, 0, 0, 0, 0) from rfl) (fr' := (365, 1705, clv, [.int (x + 1), .ref 0, .ref 128])) (M' := _) rfl) ?_
    refine mTo_tr (e_ald0 hT hq_law (show aTab 365 1705 = some (.iaload, 1, 0, 0, 0, 0, 0, 0) from rfl) rfl (by omega)) ?_
    rw [← ha1]
    refine mTo_tr (e_al1 hT hq_law (show aTab 365 1706 = some (.aload_n 0, 1, 0, 0, 0, 0, 0, 0) from rfl) rfl l0) ?_
    refine mTo_tr (e_il1 hT hq_law (show aTab 365 1707 = some (.iload_n 3, 1, 0, 0, 0, 0, 0, 0) from rfl) rfl l3) ?_
    refine mTo_tr (e_st hT hq_law (show aTab 365 1708 = some (.iconst 2, 1, 0, 0, 0, 0, 0, 0) from rfl) (fr' := (365, 1709, clv, [.int 2, .int x, .ref 0, .int a1, .ref 128])) (M' := _) rfl) ?_
    refine mTo_tr (e_st hT hq_law (show aTab 365 1709 = some (.iadd, 1, 0, 0, 0, 0, 0, 0) from rfl) (fr' := (365, 1710, clv, [.int (x + 2), .ref 0, .int a1, .ref 128])) (M' := _) rfl) ?_
    refine mTo_tr (e_ald0 hT hq_law (show aTab 365 1710 = some (.iaload, 1, 0, 0, 0, 0, 0, 0) from rfl) rfl (by omega)) ?_
    rw [← ha2]
    refine mTo_tr (e_al1 hT hq_law (show aTab 365 1711 = some (.aload_n 0, 1, 0, 0, 0, 0, 0, 0) from rfl) rfl l0) ?_
    refine mTo_tr (e_il1 hT hq_law (show aTab 365 1712 = some (.iload_n 3, 1, 0, 0, 0, 0, 0, 0) from rfl) rfl l3) ?_
    refine mTo_tr (e_st hT hq_law (show aTab 365 1713 = some (.iconst 3, 1, 0, 0, 0, 0, 0, 0) from rfl) (fr' := (365, 1714, clv, [.int 3, .int x, .ref 0, .int a2, .int a1, .ref 128])) (M' := _) rfl) ?_
    refine mTo_tr (e_st hT hq_law (show aTab 365 1714 = some (.iadd, 1, 0, 0, 0, 0, 0, 0) from rfl) (fr' := (365, 1715, clv, [.int (x + 3), .ref 0, .int a2, .int a1, .ref 128])) (M' := _) rfl) ?_
    refine mTo_tr (e_ald0 hT hq_law (show aTab 365 1715 = some (.iaload, 1, 0, 0, 0, 0, 0, 0) from rfl) rfl (by omega)) ?_
    rw [← ha3]
    refine mTo_tr (e_call hT hq_law (show aTab 365 1716 = some (.invokevirtual 198, 3, 1, 354, 0, 3, 5, 12) from rfl) rfl ⟨by decide, Nat.le_of_ble_eq_true rfl⟩ hfs2 (Nat.le_of_ble_eq_true rfl) (Nat.le_of_ble_eq_true rfl) ⟨by decide, by decide⟩ p2) ?_
    refine mTo_tr (e_st hT hq_law (show aTab 365 1719 = some (.pop, 1, 0, 0, 0, 0, 0, 0) from rfl) (fr' := (365, 1720, clv, [])) (M' := _) rfl) ?_
    refine mTo_tr (e_st hT hq_law (show aTab 365 1720 = some (.goto 118, 3, 0, 0, 0, 0, 0, 0) from rfl) (fr' := (365, 1838, clv, [])) (M' := _) rfl) ?_
    exact mTo_rf
  exact hEnd_to go (hTail hT hn ⟨l0, l1, l2, ⟨x, l3, hx⟩, hb, t2, hR2⟩ he)
theorem hC_45 (hT : aTabOk) {n : Nat} {f : Nat → Int32} (hn : n ≤ 384) (h : hBoth 228 355 1 false) : hStep n f 1723 := by
  intro e clv M hst he
  obtain ⟨l0, l1, l2, ⟨x, l3, hx⟩, hb, hM, hR⟩ := id hst
  have hx1 : (x + 1).toInt = e + 1 := by rw [i32_add (by rw [hx, show (1 : Int32).toInt = 1 from rfl]; omega) (by rw [hx, show (1 : Int32).toInt = 1 from rfl]; omega), hx, show (1 : Int32).toInt = 1 from rfl]
  obtain ⟨a1, ha1⟩ : ∃ a, a = f (x + 1).toInt.toNat := ⟨_, rfl⟩
  obtain ⟨K1, M1, K2, M2, r1, r2, p1, t1, p2, t2, hR2, heq⟩ := h M hM hR [a1] rfl
  obtain ⟨fs1, hfs1⟩ := ob_at hM (rfl : tTy 0 = some (.inr (11, _)))
  obtain ⟨fs2, hfs2⟩ := ob_at t1 (rfl : tTy 119 = some (.inr (12, _)))
  have go : mTo (some (n, f)) 150 (365, 1723, clv, []) M (365, 1838, clv, []) M2 := by
    refine mTo_tr (e_al1 hT hq_law (show aTab 365 1723 = some (.aload_n 1, 1, 0, 0, 0, 0, 0, 0) from rfl) rfl l1) ?_
    refine mTo_tr (e_al1 hT hq_law (show aTab 365 1724 = some (.aload_n 0, 1, 0, 0, 0, 0, 0, 0) from rfl) rfl l0) ?_
    refine mTo_tr (e_il1 hT hq_law (show aTab 365 1725 = some (.iload_n 3, 1, 0, 0, 0, 0, 0, 0) from rfl) rfl l3) ?_
    refine mTo_tr (e_st hT hq_law (show aTab 365 1726 = some (.iconst 1, 1, 0, 0, 0, 0, 0, 0) from rfl) (fr' := (365, 1727, clv, [.int 1, .int x, .ref 0, .ref 9])) (M' := _) rfl) ?_
    refine mTo_tr (e_st hT hq_law (show aTab 365 1727 = some (.iadd, 1, 0, 0, 0, 0, 0, 0) from rfl) (fr' := (365, 1728, clv, [.int (x + 1), .ref 0, .ref 9])) (M' := _) rfl) ?_
    refine mTo_tr (e_ald0 hT hq_law (show aTab 365 1728 = some (.iaload, 1, 0, 0, 0, 0, 0, 0) from rfl) rfl (by omega)) ?_
    rw [← ha1]
    refine mTo_tr (e_call hT hq_law (show aTab 365 1729 = some (.invokevirtual 199, 3, 1, 228, 0, 1, 2, 11) from rfl) rfl ⟨by decide, Nat.le_of_ble_eq_true rfl⟩ hfs1 (Nat.le_of_ble_eq_true rfl) (Nat.le_of_ble_eq_true rfl) ⟨by decide, by decide⟩ p1) ?_
    refine mTo_tr (e_st hT hq_law (show aTab 365 1732 = some (.pop, 1, 0, 0, 0, 0, 0, 0) from rfl) (fr' := (365, 1733, clv, [])) (M' := _) rfl) ?_
    refine mTo_tr (e_al1 hT hq_law (show aTab 365 1733 = some (.aload_n 2, 1, 0, 0, 0, 0, 0, 0) from rfl) rfl l2) ?_
    refine mTo_tr (e_al1 hT hq_law (show aTab 365 1734 = some (.aload_n 0, 1, 0, 0, 0, 0, 0, 0) from rfl) rfl l0) ?_
    refine mTo_tr (e_il1 hT hq_law (show aTab 365 1735 = some (.iload_n 3, 1, 0, 0, 0, 0, 0, 0) from rfl) rfl l3) ?_
    refine mTo_tr (e_st hT hq_law (show aTab 365 1736 = some (.iconst 1, 1, 0, 0, 0, 0, 0, 0) from rfl) (fr' := (365, 1737, clv, [.int 1, .int x, .ref 0, .ref 128])) (M' := _) rfl) ?_
    refine mTo_tr (e_st hT hq_law (show aTab 365 1737 = some (.iadd, 1, 0, 0, 0, 0, 0, 0) from rfl) (fr' := (365, 1738, clv, [.int (x + 1), .ref 0, .ref 128])) (M' := _) rfl) ?_
    refine mTo_tr (e_ald0 hT hq_law (show aTab 365 1738 = some (.iaload, 1, 0, 0, 0, 0, 0, 0) from rfl) rfl (by omega)) ?_
    rw [← ha1]
    refine mTo_tr (e_call hT hq_law (show aTab 365 1739 = some (.invokevirtual 202, 3, 1, 355, 0, 1, 2, 12) from rfl) rfl ⟨by decide, Nat.le_of_ble_eq_true rfl⟩ hfs2 (Nat.le_of_ble_eq_true rfl) (Nat.le_of_ble_eq_true rfl) ⟨by decide, by decide⟩ p2) ?_
    refine mTo_tr (e_st hT hq_law (show aTab 365 1742 = some (.pop, 1, 0, 0, 0, 0, 0, 0) from rfl) (fr' := (365, 1743, clv, [])) (M' := _) rfl) ?_
    refine mTo_tr (e_st hT hq_law (show aTab 365 1743 = some (.goto 95, 3, 0, 0, 0, 0, 0, 0) from rfl) (fr' := (365, 1838, clv, [])) (M' := _) rfl) ?_
    exact mTo_rf
  exact hEnd_to go (hTail hT hn ⟨l0, l1, l2, ⟨x, l3, hx⟩, hb, t2, hR2⟩ he)
theorem hC_46 (hT : aTabOk) {n : Nat} {f : Nat → Int32} (hn : n ≤ 384) (h : hBoth 229 361 3 false) : hStep n f 1746 := by
  intro e clv M hst he
  obtain ⟨l0, l1, l2, ⟨x, l3, hx⟩, hb, hM, hR⟩ := id hst
  have hx1 : (x + 1).toInt = e + 1 := by rw [i32_add (by rw [hx, show (1 : Int32).toInt = 1 from rfl]; omega) (by rw [hx, show (1 : Int32).toInt = 1 from rfl]; omega), hx, show (1 : Int32).toInt = 1 from rfl]
  obtain ⟨a1, ha1⟩ : ∃ a, a = f (x + 1).toInt.toNat := ⟨_, rfl⟩
  have hx2 : (x + 2).toInt = e + 2 := by rw [i32_add (by rw [hx, show (2 : Int32).toInt = 2 from rfl]; omega) (by rw [hx, show (2 : Int32).toInt = 2 from rfl]; omega), hx, show (2 : Int32).toInt = 2 from rfl]
  obtain ⟨a2, ha2⟩ : ∃ a, a = f (x + 2).toInt.toNat := ⟨_, rfl⟩
  have hx3 : (x + 3).toInt = e + 3 := by rw [i32_add (by rw [hx, show (3 : Int32).toInt = 3 from rfl]; omega) (by rw [hx, show (3 : Int32).toInt = 3 from rfl]; omega), hx, show (3 : Int32).toInt = 3 from rfl]
  obtain ⟨a3, ha3⟩ : ∃ a, a = f (x + 3).toInt.toNat := ⟨_, rfl⟩
  obtain ⟨K1, M1, K2, M2, r1, r2, p1, t1, p2, t2, hR2, heq⟩ := h M hM hR [a1, a2, a3] rfl
  obtain ⟨fs1, hfs1⟩ := ob_at hM (rfl : tTy 0 = some (.inr (11, _)))
  obtain ⟨fs2, hfs2⟩ := ob_at t1 (rfl : tTy 119 = some (.inr (12, _)))
  have go : mTo (some (n, f)) 150 (365, 1746, clv, []) M (365, 1838, clv, []) M2 := by
    refine mTo_tr (e_al1 hT hq_law (show aTab 365 1746 = some (.aload_n 1, 1, 0, 0, 0, 0, 0, 0) from rfl) rfl l1) ?_
    refine mTo_tr (e_al1 hT hq_law (show aTab 365 1747 = some (.aload_n 0, 1, 0, 0, 0, 0, 0, 0) from rfl) rfl l0) ?_
    refine mTo_tr (e_il1 hT hq_law (show aTab 365 1748 = some (.iload_n 3, 1, 0, 0, 0, 0, 0, 0) from rfl) rfl l3) ?_
    refine mTo_tr (e_st hT hq_law (show aTab 365 1749 = some (.iconst 1, 1, 0, 0, 0, 0, 0, 0) from rfl) (fr' := (365, 1750, clv, [.int 1, .int x, .ref 0, .ref 9])) (M' := _) rfl) ?_
    refine mTo_tr (e_st hT hq_law (show aTab 365 1750 = some (.iadd, 1, 0, 0, 0, 0, 0, 0) from rfl) (fr' := (365, 1751, clv, [.int (x + 1), .ref 0, .ref 9])) (M' := _) rfl) ?_
    refine mTo_tr (e_ald0 hT hq_law (show aTab 365 1751 = some (.iaload, 1, 0, 0, 0, 0, 0, 0) from rfl) rfl (by omega)) ?_
    rw [← ha1]
    refine mTo_tr (e_al1 hT hq_law (show aTab 365 1752 = some (.aload_n 0, 1, 0, 0, 0, 0, 0, 0) from rfl) rfl l0) ?_
    refine mTo_tr (e_il1 hT hq_law (show aTab 365 1753 = some (.iload_n 3, 1, 0, 0, 0, 0, 0, 0) from rfl) rfl l3) ?_
    refine mTo_tr (e_st hT hq_law (show aTab 365 1754 = some (.iconst 2, 1, 0, 0, 0, 0, 0, 0) from rfl) (fr' := (365, 1755, clv, [.int 2, .int x, .ref 0, .int a1, .ref 9])) (M' := _) rfl) ?_
    refine mTo_tr (e_st hT hq_law (show aTab 365 1755 = some (.iadd, 1, 0, 0, 0, 0, 0, 0) from rfl) (fr' := (365, 1756, clv, [.int (x + 2), .ref 0, .int a1, .ref 9])) (M' := _) rfl) ?_
    refine mTo_tr (e_ald0 hT hq_law (show aTab 365 1756 = some (.iaload, 1, 0, 0, 0, 0, 0, 0) from rfl) rfl (by omega)) ?_
    rw [← ha2]
    refine mTo_tr (e_al1 hT hq_law (show aTab 365 1757 = some (.aload_n 0, 1, 0, 0, 0, 0, 0, 0) from rfl) rfl l0) ?_
    refine mTo_tr (e_il1 hT hq_law (show aTab 365 1758 = some (.iload_n 3, 1, 0, 0, 0, 0, 0, 0) from rfl) rfl l3) ?_
    refine mTo_tr (e_st hT hq_law (show aTab 365 1759 = some (.iconst 3, 1, 0, 0, 0, 0, 0, 0) from rfl) (fr' := (365, 1760, clv, [.int 3, .int x, .ref 0, .int a2, .int a1, .ref 9])) (M' := _) rfl) ?_
    refine mTo_tr (e_st hT hq_law (show aTab 365 1760 = some (.iadd, 1, 0, 0, 0, 0, 0, 0) from rfl) (fr' := (365, 1761, clv, [.int (x + 3), .ref 0, .int a2, .int a1, .ref 9])) (M' := _) rfl) ?_
    refine mTo_tr (e_ald0 hT hq_law (show aTab 365 1761 = some (.iaload, 1, 0, 0, 0, 0, 0, 0) from rfl) rfl (by omega)) ?_
    rw [← ha3]
    refine mTo_tr (e_call hT hq_law (show aTab 365 1762 = some (.invokevirtual 203, 3, 1, 229, 0, 3, 6, 11) from rfl) rfl ⟨by decide, Nat.le_of_ble_eq_true rfl⟩ hfs1 (Nat.le_of_ble_eq_true rfl) (Nat.le_of_ble_eq_true rfl) ⟨by decide, by decide⟩ p1) ?_
    refine mTo_tr (e_st hT hq_law (show aTab 365 1765 = some (.pop, 1, 0, 0, 0, 0, 0, 0) from rfl) (fr' := (365, 1766, clv, [])) (M' := _) rfl) ?_
    refine mTo_tr (e_al1 hT hq_law (show aTab 365 1766 = some (.aload_n 2, 1, 0, 0, 0, 0, 0, 0) from rfl) rfl l2) ?_
    refine mTo_tr (e_al1 hT hq_law (show aTab 365 1767 = some (.aload_n 0, 1, 0, 0, 0, 0, 0, 0) from rfl) rfl l0) ?_
    refine mTo_tr (e_il1 hT hq_law (show aTab 365 1768 = some (.iload_n 3, 1, 0, 0, 0, 0, 0, 0) from rfl) rfl l3) ?_
    refine mTo_tr (e_st hT hq_law (show aTab 365 1769 = some (.iconst 1, 1, 0, 0, 0, 0, 0, 0) from rfl) (fr' := (365, 1770, clv, [.int 1, .int x, .ref 0, .ref 128])) (M' := _) rfl) ?_
    refine mTo_tr (e_st hT hq_law (show aTab 365 1770 = some (.iadd, 1, 0, 0, 0, 0, 0, 0) from rfl) (fr' := (365, 1771, clv, [.int (x + 1), .ref 0, .ref 128])) (M' := _) rfl) ?_
    refine mTo_tr (e_ald0 hT hq_law (show aTab 365 1771 = some (.iaload, 1, 0, 0, 0, 0, 0, 0) from rfl) rfl (by omega)) ?_
    rw [← ha1]
    refine mTo_tr (e_al1 hT hq_law (show aTab 365 1772 = some (.aload_n 0, 1, 0, 0, 0, 0, 0, 0) from rfl) rfl l0) ?_
    refine mTo_tr (e_il1 hT hq_law (show aTab 365 1773 = some (.iload_n 3, 1, 0, 0, 0, 0, 0, 0) from rfl) rfl l3) ?_
    refine mTo_tr (e_st hT hq_law (show aTab 365 1774 = some (.iconst 2, 1, 0, 0, 0, 0, 0, 0) from rfl) (fr' := (365, 1775, clv, [.int 2, .int x, .ref 0, .int a1, .ref 128])) (M' := _) rfl) ?_
    refine mTo_tr (e_st hT hq_law (show aTab 365 1775 = some (.iadd, 1, 0, 0, 0, 0, 0, 0) from rfl) (fr' := (365, 1776, clv, [.int (x + 2), .ref 0, .int a1, .ref 128])) (M' := _) rfl) ?_
    refine mTo_tr (e_ald0 hT hq_law (show aTab 365 1776 = some (.iaload, 1, 0, 0, 0, 0, 0, 0) from rfl) rfl (by omega)) ?_
    rw [← ha2]
    refine mTo_tr (e_al1 hT hq_law (show aTab 365 1777 = some (.aload_n 0, 1, 0, 0, 0, 0, 0, 0) from rfl) rfl l0) ?_
    refine mTo_tr (e_il1 hT hq_law (show aTab 365 1778 = some (.iload_n 3, 1, 0, 0, 0, 0, 0, 0) from rfl) rfl l3) ?_
    refine mTo_tr (e_st hT hq_law (show aTab 365 1779 = some (.iconst 3, 1, 0, 0, 0, 0, 0, 0) from rfl) (fr' := (365, 1780, clv, [.int 3, .int x, .ref 0, .int a2, .int a1, .ref 128])) (M' := _) rfl) ?_
    refine mTo_tr (e_st hT hq_law (show aTab 365 1780 = some (.iadd, 1, 0, 0, 0, 0, 0, 0) from rfl) (fr' := (365, 1781, clv, [.int (x + 3), .ref 0, .int a2, .int a1, .ref 128])) (M' := _) rfl) ?_
    refine mTo_tr (e_ald0 hT hq_law (show aTab 365 1781 = some (.iaload, 1, 0, 0, 0, 0, 0, 0) from rfl) rfl (by omega)) ?_
    rw [← ha3]
    refine mTo_tr (e_call hT hq_law (show aTab 365 1782 = some (.invokevirtual 206, 3, 1, 361, 0, 3, 7, 12) from rfl) rfl ⟨by decide, Nat.le_of_ble_eq_true rfl⟩ hfs2 (Nat.le_of_ble_eq_true rfl) (Nat.le_of_ble_eq_true rfl) ⟨by decide, by decide⟩ p2) ?_
    refine mTo_tr (e_st hT hq_law (show aTab 365 1785 = some (.pop, 1, 0, 0, 0, 0, 0, 0) from rfl) (fr' := (365, 1786, clv, [])) (M' := _) rfl) ?_
    refine mTo_tr (e_st hT hq_law (show aTab 365 1786 = some (.goto 52, 3, 0, 0, 0, 0, 0, 0) from rfl) (fr' := (365, 1838, clv, [])) (M' := _) rfl) ?_
    exact mTo_rf
  exact hEnd_to go (hTail hT hn ⟨l0, l1, l2, ⟨x, l3, hx⟩, hb, t2, hR2⟩ he)
theorem hC_47 (hT : aTabOk) {n : Nat} {f : Nat → Int32} (hn : n ≤ 384) (h : hBoth 230 362 0 false) : hStep n f 1789 := by
  intro e clv M hst he
  obtain ⟨l0, l1, l2, ⟨x, l3, hx⟩, hb, hM, hR⟩ := id hst
  obtain ⟨K1, M1, K2, M2, r1, r2, p1, t1, p2, t2, hR2, heq⟩ := h M hM hR [] rfl
  obtain ⟨fs1, hfs1⟩ := ob_at hM (rfl : tTy 0 = some (.inr (11, _)))
  obtain ⟨fs2, hfs2⟩ := ob_at t1 (rfl : tTy 119 = some (.inr (12, _)))
  have go : mTo (some (n, f)) 150 (365, 1789, clv, []) M (365, 1838, clv, []) M2 := by
    refine mTo_tr (e_al1 hT hq_law (show aTab 365 1789 = some (.aload_n 1, 1, 0, 0, 0, 0, 0, 0) from rfl) rfl l1) ?_
    refine mTo_tr (e_call hT hq_law (show aTab 365 1790 = some (.invokevirtual 207, 3, 1, 230, 0, 0, 1, 11) from rfl) rfl ⟨by decide, Nat.le_of_ble_eq_true rfl⟩ hfs1 (Nat.le_of_ble_eq_true rfl) (Nat.le_of_ble_eq_true rfl) ⟨by decide, by decide⟩ p1) ?_
    refine mTo_tr (e_st hT hq_law (show aTab 365 1793 = some (.pop, 1, 0, 0, 0, 0, 0, 0) from rfl) (fr' := (365, 1794, clv, [])) (M' := _) rfl) ?_
    refine mTo_tr (e_al1 hT hq_law (show aTab 365 1794 = some (.aload_n 2, 1, 0, 0, 0, 0, 0, 0) from rfl) rfl l2) ?_
    refine mTo_tr (e_call hT hq_law (show aTab 365 1795 = some (.invokevirtual 210, 3, 1, 362, 0, 0, 1, 12) from rfl) rfl ⟨by decide, Nat.le_of_ble_eq_true rfl⟩ hfs2 (Nat.le_of_ble_eq_true rfl) (Nat.le_of_ble_eq_true rfl) ⟨by decide, by decide⟩ p2) ?_
    refine mTo_tr (e_st hT hq_law (show aTab 365 1798 = some (.pop, 1, 0, 0, 0, 0, 0, 0) from rfl) (fr' := (365, 1799, clv, [])) (M' := _) rfl) ?_
    refine mTo_tr (e_st hT hq_law (show aTab 365 1799 = some (.goto 39, 3, 0, 0, 0, 0, 0, 0) from rfl) (fr' := (365, 1838, clv, [])) (M' := _) rfl) ?_
    exact mTo_rf
  exact hEnd_to go (hTail hT hn ⟨l0, l1, l2, ⟨x, l3, hx⟩, hb, t2, hR2⟩ he)
theorem hC_48 (hT : aTabOk) {n : Nat} {f : Nat → Int32} (hn : n ≤ 384) (h : hBoth 231 363 0 false) : hStep n f 1802 := by
  intro e clv M hst he
  obtain ⟨l0, l1, l2, ⟨x, l3, hx⟩, hb, hM, hR⟩ := id hst
  obtain ⟨K1, M1, K2, M2, r1, r2, p1, t1, p2, t2, hR2, heq⟩ := h M hM hR [] rfl
  obtain ⟨fs1, hfs1⟩ := ob_at hM (rfl : tTy 0 = some (.inr (11, _)))
  obtain ⟨fs2, hfs2⟩ := ob_at t1 (rfl : tTy 119 = some (.inr (12, _)))
  have go : mTo (some (n, f)) 150 (365, 1802, clv, []) M (365, 1838, clv, []) M2 := by
    refine mTo_tr (e_al1 hT hq_law (show aTab 365 1802 = some (.aload_n 1, 1, 0, 0, 0, 0, 0, 0) from rfl) rfl l1) ?_
    refine mTo_tr (e_call hT hq_law (show aTab 365 1803 = some (.invokevirtual 211, 3, 1, 231, 0, 0, 1, 11) from rfl) rfl ⟨by decide, Nat.le_of_ble_eq_true rfl⟩ hfs1 (Nat.le_of_ble_eq_true rfl) (Nat.le_of_ble_eq_true rfl) ⟨by decide, by decide⟩ p1) ?_
    refine mTo_tr (e_st hT hq_law (show aTab 365 1806 = some (.pop, 1, 0, 0, 0, 0, 0, 0) from rfl) (fr' := (365, 1807, clv, [])) (M' := _) rfl) ?_
    refine mTo_tr (e_al1 hT hq_law (show aTab 365 1807 = some (.aload_n 2, 1, 0, 0, 0, 0, 0, 0) from rfl) rfl l2) ?_
    refine mTo_tr (e_call hT hq_law (show aTab 365 1808 = some (.invokevirtual 214, 3, 1, 363, 0, 0, 1, 12) from rfl) rfl ⟨by decide, Nat.le_of_ble_eq_true rfl⟩ hfs2 (Nat.le_of_ble_eq_true rfl) (Nat.le_of_ble_eq_true rfl) ⟨by decide, by decide⟩ p2) ?_
    refine mTo_tr (e_st hT hq_law (show aTab 365 1811 = some (.pop, 1, 0, 0, 0, 0, 0, 0) from rfl) (fr' := (365, 1812, clv, [])) (M' := _) rfl) ?_
    refine mTo_tr (e_st hT hq_law (show aTab 365 1812 = some (.goto 26, 3, 0, 0, 0, 0, 0, 0) from rfl) (fr' := (365, 1838, clv, [])) (M' := _) rfl) ?_
    exact mTo_rf
  exact hEnd_to go (hTail hT hn ⟨l0, l1, l2, ⟨x, l3, hx⟩, hb, t2, hR2⟩ he)
theorem hC_49 (hT : aTabOk) {n : Nat} {f : Nat → Int32} (hn : n ≤ 384) (h : hBoth 232 364 1 false) : hStep n f 1815 := by
  intro e clv M hst he
  obtain ⟨l0, l1, l2, ⟨x, l3, hx⟩, hb, hM, hR⟩ := id hst
  have hx1 : (x + 1).toInt = e + 1 := by rw [i32_add (by rw [hx, show (1 : Int32).toInt = 1 from rfl]; omega) (by rw [hx, show (1 : Int32).toInt = 1 from rfl]; omega), hx, show (1 : Int32).toInt = 1 from rfl]
  obtain ⟨a1, ha1⟩ : ∃ a, a = f (x + 1).toInt.toNat := ⟨_, rfl⟩
  obtain ⟨K1, M1, K2, M2, r1, r2, p1, t1, p2, t2, hR2, heq⟩ := h M hM hR [a1] rfl
  obtain ⟨fs1, hfs1⟩ := ob_at hM (rfl : tTy 0 = some (.inr (11, _)))
  obtain ⟨fs2, hfs2⟩ := ob_at t1 (rfl : tTy 119 = some (.inr (12, _)))
  have go : mTo (some (n, f)) 150 (365, 1815, clv, []) M (365, 1838, clv, []) M2 := by
    refine mTo_tr (e_al1 hT hq_law (show aTab 365 1815 = some (.aload_n 1, 1, 0, 0, 0, 0, 0, 0) from rfl) rfl l1) ?_
    refine mTo_tr (e_al1 hT hq_law (show aTab 365 1816 = some (.aload_n 0, 1, 0, 0, 0, 0, 0, 0) from rfl) rfl l0) ?_
    refine mTo_tr (e_il1 hT hq_law (show aTab 365 1817 = some (.iload_n 3, 1, 0, 0, 0, 0, 0, 0) from rfl) rfl l3) ?_
    refine mTo_tr (e_st hT hq_law (show aTab 365 1818 = some (.iconst 1, 1, 0, 0, 0, 0, 0, 0) from rfl) (fr' := (365, 1819, clv, [.int 1, .int x, .ref 0, .ref 9])) (M' := _) rfl) ?_
    refine mTo_tr (e_st hT hq_law (show aTab 365 1819 = some (.iadd, 1, 0, 0, 0, 0, 0, 0) from rfl) (fr' := (365, 1820, clv, [.int (x + 1), .ref 0, .ref 9])) (M' := _) rfl) ?_
    refine mTo_tr (e_ald0 hT hq_law (show aTab 365 1820 = some (.iaload, 1, 0, 0, 0, 0, 0, 0) from rfl) rfl (by omega)) ?_
    rw [← ha1]
    refine mTo_tr (e_call hT hq_law (show aTab 365 1821 = some (.invokevirtual 215, 3, 1, 232, 0, 1, 2, 11) from rfl) rfl ⟨by decide, Nat.le_of_ble_eq_true rfl⟩ hfs1 (Nat.le_of_ble_eq_true rfl) (Nat.le_of_ble_eq_true rfl) ⟨by decide, by decide⟩ p1) ?_
    refine mTo_tr (e_st hT hq_law (show aTab 365 1824 = some (.pop, 1, 0, 0, 0, 0, 0, 0) from rfl) (fr' := (365, 1825, clv, [])) (M' := _) rfl) ?_
    refine mTo_tr (e_al1 hT hq_law (show aTab 365 1825 = some (.aload_n 2, 1, 0, 0, 0, 0, 0, 0) from rfl) rfl l2) ?_
    refine mTo_tr (e_al1 hT hq_law (show aTab 365 1826 = some (.aload_n 0, 1, 0, 0, 0, 0, 0, 0) from rfl) rfl l0) ?_
    refine mTo_tr (e_il1 hT hq_law (show aTab 365 1827 = some (.iload_n 3, 1, 0, 0, 0, 0, 0, 0) from rfl) rfl l3) ?_
    refine mTo_tr (e_st hT hq_law (show aTab 365 1828 = some (.iconst 1, 1, 0, 0, 0, 0, 0, 0) from rfl) (fr' := (365, 1829, clv, [.int 1, .int x, .ref 0, .ref 128])) (M' := _) rfl) ?_
    refine mTo_tr (e_st hT hq_law (show aTab 365 1829 = some (.iadd, 1, 0, 0, 0, 0, 0, 0) from rfl) (fr' := (365, 1830, clv, [.int (x + 1), .ref 0, .ref 128])) (M' := _) rfl) ?_
    refine mTo_tr (e_ald0 hT hq_law (show aTab 365 1830 = some (.iaload, 1, 0, 0, 0, 0, 0, 0) from rfl) rfl (by omega)) ?_
    rw [← ha1]
    refine mTo_tr (e_call hT hq_law (show aTab 365 1831 = some (.invokevirtual 218, 3, 1, 364, 0, 1, 4, 12) from rfl) rfl ⟨by decide, Nat.le_of_ble_eq_true rfl⟩ hfs2 (Nat.le_of_ble_eq_true rfl) (Nat.le_of_ble_eq_true rfl) ⟨by decide, by decide⟩ p2) ?_
    refine mTo_tr (e_st hT hq_law (show aTab 365 1834 = some (.pop, 1, 0, 0, 0, 0, 0, 0) from rfl) (fr' := (365, 1835, clv, [])) (M' := _) rfl) ?_
    refine mTo_tr (e_st hT hq_law (show aTab 365 1835 = some (.goto 3, 3, 0, 0, 0, 0, 0, 0) from rfl) (fr' := (365, 1838, clv, [])) (M' := _) rfl) ?_
    exact mTo_rf
  exact hEnd_to go (hTail hT hn ⟨l0, l1, l2, ⟨x, l3, hx⟩, hb, t2, hR2⟩ he)
/-! all cases -/
theorem hF_0 : hFrOk 2 tC_26 tC_94 = true := by decide +kernel
theorem hF_1 : hFrOk 2 tC_27 tC_95 = true := by decide +kernel
theorem hF_2 : hFrOk 2 tC_28 tC_96 = true := by decide +kernel
theorem hF_3 : hFrOk 2 tC_29 tC_97 = true := by decide +kernel
theorem hF_4 : hFrOk 3 tC_30 tC_98 = true := by decide +kernel
theorem hF_5 : hFrOk 1 tC_31 tC_99 = true := by decide +kernel
theorem hF_6 : hFrOk 1 tC_32 tC_100 = true := by decide +kernel
theorem hF_7 : hFrOk 1 tC_33 tC_101 = true := by decide +kernel
theorem hF_8 : hFrOk 3 tC_34 tX_271 = true := by decide +kernel
theorem hF_9 : hFrOk 4 tC_35 tX_272 = true := by decide +kernel
theorem hF_10 : hFrOk 2 tC_36 tC_104 = true := by decide +kernel
theorem hF_11 : hFrOk 2 tC_37 tC_105 = true := by decide +kernel
theorem hF_12 : hFrOk 3 tC_38 tC_106 = true := by decide +kernel
theorem hF_13 : hFrOk 3 tC_39 tC_107 = true := by decide +kernel
theorem hF_14 : hFrOk 2 tC_40 tC_108 = true := by decide +kernel
theorem hF_15 : hFrOk 2 tC_41 tC_109 = true := by decide +kernel
theorem hF_16 : hFrOk 1 tC_42 tC_110 = true := by decide +kernel
theorem hF_17 : hFrOk 1 tC_43 tC_111 = true := by decide +kernel
theorem hF_18 : hFrOk 1 tC_44 tC_112 = true := by decide +kernel
theorem hF_19 : hFrOk 1 tC_45 tC_113 = true := by decide +kernel
theorem hF_20 : hFrOk 1 tC_46 tC_114 = true := by decide +kernel
theorem hF_21 : hFrOk 1 tC_47 tC_115 = true := by decide +kernel
theorem hF_22 : hFrOk 2 tC_48 tC_116 = true := by decide +kernel
theorem hF_23 : hFrOk 3 tC_49 tC_117 = true := by decide +kernel
theorem hF_24 : hFrOk 1 tC_50 tC_118 = true := by decide +kernel
theorem hF_25 : hFrOk 1 tC_51 tC_119 = true := by decide +kernel
theorem hF_26 : hFrOk 2 tC_52 tC_120 = true := by decide +kernel
theorem hF_27 : hFrOk 1 tC_53 tC_121 = true := by decide +kernel
theorem hF_28 : hFrOk 2 tC_54 tC_122 = true := by decide +kernel
theorem hF_29 : hFrOk 1 tC_55 tC_123 = true := by decide +kernel
theorem hF_30 : hFrOk 0 tC_56 tC_124 = true := by decide +kernel
theorem hF_31 : hFrOk 3 tC_57 tC_125 = true := by decide +kernel
theorem hF_32 : hFrOk 3 tC_58 tC_126 = true := by decide +kernel
theorem hF_33 : hFrOk 2 tC_59 tC_127 = true := by decide +kernel
theorem hF_34 : hFrOk 5 tC_60 tC_128 = true := by decide +kernel
theorem hF_35 : hFrOk 2 tC_61 tC_129 = true := by decide +kernel
theorem hF_36 : hFrOk 2 tC_62 tC_130 = true := by decide +kernel
theorem hF_37 : hFrOk 2 tC_63 tC_131 = true := by decide +kernel
theorem hF_41 : hFrOk 1 tC_67 tC_135 = true := by decide +kernel
theorem hF_43 : hFrOk 4 tC_69 tC_137 = true := by decide +kernel
theorem hF_44 : hFrOk 3 tC_70 tC_138 = true := by decide +kernel
theorem hF_45 : hFrOk 1 tC_71 tC_139 = true := by decide +kernel
theorem hF_46 : hFrOk 3 tC_72 tX_361 = true := by decide +kernel
theorem hF_49 : hFrOk 1 tC_75 tC_143 = true := by decide +kernel
theorem h_26 : tC_26 ∈ tKs_144 := hmem 117 tC_26 rfl
theorem h_27 : tC_27 ∈ tKs_144 := hmem 116 tC_27 rfl
theorem h_28 : tC_28 ∈ tKs_144 := hmem 115 tC_28 rfl
theorem h_29 : tC_29 ∈ tKs_144 := hmem 114 tC_29 rfl
theorem h_30 : tC_30 ∈ tKs_144 := hmem 113 tC_30 rfl
theorem h_31 : tC_31 ∈ tKs_144 := hmem 112 tC_31 rfl
theorem h_32 : tC_32 ∈ tKs_144 := hmem 111 tC_32 rfl
theorem h_33 : tC_33 ∈ tKs_144 := hmem 110 tC_33 rfl
theorem h_34 : tC_34 ∈ tKs_144 := hmem 109 tC_34 rfl
theorem h_35 : tC_35 ∈ tKs_144 := hmem 108 tC_35 rfl
theorem h_36 : tC_36 ∈ tKs_144 := hmem 107 tC_36 rfl
theorem h_37 : tC_37 ∈ tKs_144 := hmem 106 tC_37 rfl
theorem h_38 : tC_38 ∈ tKs_144 := hmem 105 tC_38 rfl
theorem h_39 : tC_39 ∈ tKs_144 := hmem 104 tC_39 rfl
theorem h_40 : tC_40 ∈ tKs_144 := hmem 103 tC_40 rfl
theorem h_41 : tC_41 ∈ tKs_144 := hmem 102 tC_41 rfl
theorem h_42 : tC_42 ∈ tKs_144 := hmem 101 tC_42 rfl
theorem h_43 : tC_43 ∈ tKs_144 := hmem 100 tC_43 rfl
theorem h_44 : tC_44 ∈ tKs_144 := hmem 99 tC_44 rfl
theorem h_45 : tC_45 ∈ tKs_144 := hmem 98 tC_45 rfl
theorem h_46 : tC_46 ∈ tKs_144 := hmem 97 tC_46 rfl
theorem h_47 : tC_47 ∈ tKs_144 := hmem 96 tC_47 rfl
theorem h_48 : tC_48 ∈ tKs_144 := hmem 95 tC_48 rfl
theorem h_49 : tC_49 ∈ tKs_144 := hmem 94 tC_49 rfl
theorem h_50 : tC_50 ∈ tKs_144 := hmem 93 tC_50 rfl
theorem h_51 : tC_51 ∈ tKs_144 := hmem 92 tC_51 rfl
theorem h_52 : tC_52 ∈ tKs_144 := hmem 91 tC_52 rfl
theorem h_53 : tC_53 ∈ tKs_144 := hmem 90 tC_53 rfl
theorem h_54 : tC_54 ∈ tKs_144 := hmem 89 tC_54 rfl
theorem h_55 : tC_55 ∈ tKs_144 := hmem 88 tC_55 rfl
theorem h_56 : tC_56 ∈ tKs_144 := hmem 87 tC_56 rfl
theorem h_57 : tC_57 ∈ tKs_144 := hmem 86 tC_57 rfl
theorem h_58 : tC_58 ∈ tKs_144 := hmem 85 tC_58 rfl
theorem h_59 : tC_59 ∈ tKs_144 := hmem 84 tC_59 rfl
theorem h_60 : tC_60 ∈ tKs_144 := hmem 83 tC_60 rfl
theorem h_61 : tC_61 ∈ tKs_144 := hmem 82 tC_61 rfl
theorem h_62 : tC_62 ∈ tKs_144 := hmem 81 tC_62 rfl
theorem h_63 : tC_63 ∈ tKs_144 := hmem 80 tC_63 rfl
theorem h_67 : tC_67 ∈ tKs_144 := hmem 76 tC_67 rfl
theorem h_69 : tC_69 ∈ tKs_144 := hmem 74 tC_69 rfl
theorem h_70 : tC_70 ∈ tKs_144 := hmem 73 tC_70 rfl
theorem h_71 : tC_71 ∈ tKs_144 := hmem 72 tC_71 rfl
theorem h_72 : tC_72 ∈ tKs_144 := hmem 71 tC_72 rfl
theorem h_75 : tC_75 ∈ tKs_144 := hmem 68 tC_75 rfl
theorem h_77 : tC_77 ∈ tKs_144 := hmem 66 tC_77 rfl
theorem h_79 : tC_79 ∈ tKs_144 := hmem 64 tC_79 rfl
theorem h_94 : tC_94 ∈ tKs_144 := hmem 49 tC_94 rfl
theorem h_95 : tC_95 ∈ tKs_144 := hmem 48 tC_95 rfl
theorem h_96 : tC_96 ∈ tKs_144 := hmem 47 tC_96 rfl
theorem h_97 : tC_97 ∈ tKs_144 := hmem 46 tC_97 rfl
theorem h_98 : tC_98 ∈ tKs_144 := hmem 45 tC_98 rfl
theorem h_99 : tC_99 ∈ tKs_144 := hmem 44 tC_99 rfl
theorem h_100 : tC_100 ∈ tKs_144 := hmem 43 tC_100 rfl
theorem h_101 : tC_101 ∈ tKs_144 := hmem 42 tC_101 rfl
theorem h_104 : tC_104 ∈ tKs_144 := hmem 39 tC_104 rfl
theorem h_105 : tC_105 ∈ tKs_144 := hmem 38 tC_105 rfl
theorem h_106 : tC_106 ∈ tKs_144 := hmem 37 tC_106 rfl
theorem h_107 : tC_107 ∈ tKs_144 := hmem 36 tC_107 rfl
theorem h_108 : tC_108 ∈ tKs_144 := hmem 35 tC_108 rfl
theorem h_109 : tC_109 ∈ tKs_144 := hmem 34 tC_109 rfl
theorem h_110 : tC_110 ∈ tKs_144 := hmem 33 tC_110 rfl
theorem h_111 : tC_111 ∈ tKs_144 := hmem 32 tC_111 rfl
theorem h_112 : tC_112 ∈ tKs_144 := hmem 31 tC_112 rfl
theorem h_113 : tC_113 ∈ tKs_144 := hmem 30 tC_113 rfl
theorem h_114 : tC_114 ∈ tKs_144 := hmem 29 tC_114 rfl
theorem h_115 : tC_115 ∈ tKs_144 := hmem 28 tC_115 rfl
theorem h_116 : tC_116 ∈ tKs_144 := hmem 27 tC_116 rfl
theorem h_117 : tC_117 ∈ tKs_144 := hmem 26 tC_117 rfl
theorem h_118 : tC_118 ∈ tKs_144 := hmem 25 tC_118 rfl
theorem h_119 : tC_119 ∈ tKs_144 := hmem 24 tC_119 rfl
theorem h_120 : tC_120 ∈ tKs_144 := hmem 23 tC_120 rfl
theorem h_121 : tC_121 ∈ tKs_144 := hmem 22 tC_121 rfl
theorem h_122 : tC_122 ∈ tKs_144 := hmem 21 tC_122 rfl
theorem h_123 : tC_123 ∈ tKs_144 := hmem 20 tC_123 rfl
theorem h_124 : tC_124 ∈ tKs_144 := hmem 19 tC_124 rfl
theorem h_125 : tC_125 ∈ tKs_144 := hmem 18 tC_125 rfl
theorem h_126 : tC_126 ∈ tKs_144 := hmem 17 tC_126 rfl
theorem h_127 : tC_127 ∈ tKs_144 := hmem 16 tC_127 rfl
theorem h_128 : tC_128 ∈ tKs_144 := hmem 15 tC_128 rfl
theorem h_129 : tC_129 ∈ tKs_144 := hmem 14 tC_129 rfl
theorem h_130 : tC_130 ∈ tKs_144 := hmem 13 tC_130 rfl
theorem h_131 : tC_131 ∈ tKs_144 := hmem 12 tC_131 rfl
theorem h_135 : tC_135 ∈ tKs_144 := hmem 8 tC_135 rfl
theorem h_137 : tC_137 ∈ tKs_144 := hmem 6 tC_137 rfl
theorem h_138 : tC_138 ∈ tKs_144 := hmem 5 tC_138 rfl
theorem h_139 : tC_139 ∈ tKs_144 := hmem 4 tC_139 rfl
theorem h_143 : tC_143 ∈ tKs_144 := hmem 0 tC_143 rfl
theorem lw_all (hT : aTabOk) (hK : ∀ c ∈ tKs_144, tCtOk c) {n : Nat} {f : Nat → Int32} (hn : n ≤ 384) : ∀ pc ∈ lwT, hStep n f pc := fun pc hpc => by
  simp only [lwT, List.mem_cons, List.not_mem_nil, or_false] at hpc
  rcases hpc with rfl | rfl | rfl | rfl | rfl | rfl | rfl | rfl | rfl | rfl | rfl | rfl | rfl | rfl | rfl | rfl | rfl | rfl | rfl | rfl | rfl | rfl | rfl | rfl | rfl | rfl | rfl | rfl | rfl | rfl | rfl | rfl | rfl | rfl | rfl | rfl | rfl | rfl | rfl | rfl | rfl | rfl | rfl | rfl | rfl | rfl | rfl | rfl | rfl | rfl | rfl
  · exact hC_0 hT hn (hFr hF_0 (hK _ h_26) (hK _ h_94))
  · exact hC_1 hT hn (hFr hF_1 (hK _ h_27) (hK _ h_95))
  · exact hC_2 hT hn (hFr hF_2 (hK _ h_28) (hK _ h_96))
  · exact hC_3 hT hn (hFr hF_3 (hK _ h_29) (hK _ h_97))
  · exact hC_4 hT hn (hFr hF_4 (hK _ h_30) (hK _ h_98))
  · exact hC_5 hT hn (hFr hF_5 (hK _ h_31) (hK _ h_99))
  · exact hC_6 hT hn (hFr hF_6 (hK _ h_32) (hK _ h_100))
  · exact hC_7 hT hn (hFr hF_7 (hK _ h_33) (hK _ h_101))
  · exact hC_8 hT hn (hFr hF_8 (hK _ h_34) (tX271_ok hT hK))
  · exact hC_9 hT hn (hFr hF_9 (hK _ h_35) (tX272_ok hT hK))
  · exact hC_10 hT hn (hFr hF_10 (hK _ h_36) (hK _ h_104))
  · exact hC_11 hT hn (hFr hF_11 (hK _ h_37) (hK _ h_105))
  · exact hC_12 hT hn (hFr hF_12 (hK _ h_38) (hK _ h_106))
  · exact hC_13 hT hn (hFr hF_13 (hK _ h_39) (hK _ h_107))
  · exact hC_14 hT hn (hFr hF_14 (hK _ h_40) (hK _ h_108))
  · exact hC_15 hT hn (hFr hF_15 (hK _ h_41) (hK _ h_109))
  · exact hC_16 hT hn (hFr hF_16 (hK _ h_42) (hK _ h_110))
  · exact hC_17 hT hn (hFr hF_17 (hK _ h_43) (hK _ h_111))
  · exact hC_18 hT hn (hFr hF_18 (hK _ h_44) (hK _ h_112))
  · exact hC_19 hT hn (hFr hF_19 (hK _ h_45) (hK _ h_113))
  · exact hC_20 hT hn (hFr hF_20 (hK _ h_46) (hK _ h_114))
  · exact hC_21 hT hn (hFr hF_21 (hK _ h_47) (hK _ h_115))
  · exact hC_22 hT hn (hFr hF_22 (hK _ h_48) (hK _ h_116))
  · exact hC_23 hT hn (hFr hF_23 (hK _ h_49) (hK _ h_117))
  · exact hC_24 hT hn (hFr hF_24 (hK _ h_50) (hK _ h_118))
  · exact hC_25 hT hn (hFr hF_25 (hK _ h_51) (hK _ h_119))
  · exact hC_26 hT hn (hFr hF_26 (hK _ h_52) (hK _ h_120))
  · exact hC_27 hT hn (hFr hF_27 (hK _ h_53) (hK _ h_121))
  · exact hC_28 hT hn (hFr hF_28 (hK _ h_54) (hK _ h_122))
  · exact hC_29 hT hn (hFr hF_29 (hK _ h_55) (hK _ h_123))
  · exact hC_30 hT hn (hFr hF_30 (hK _ h_56) (hK _ h_124))
  · exact hC_31 hT hn (hFr hF_31 (hK _ h_57) (hK _ h_125))
  · exact hC_32 hT hn (hFr hF_32 (hK _ h_58) (hK _ h_126))
  · exact hC_33 hT hn (hFr hF_33 (hK _ h_59) (hK _ h_127))
  · exact hC_34 hT hn (hFr hF_34 (hK _ h_60) (hK _ h_128))
  · exact hC_35 hT hn (hFr hF_35 (hK _ h_61) (hK _ h_129))
  · exact hC_36 hT hn (hFr hF_36 (hK _ h_62) (hK _ h_130))
  · exact hC_37 hT hn (hFr hF_37 (hK _ h_63) (hK _ h_131))
  · exact hC_38 hT hn (hB_int hT)
  · exact hC_39 hT hn (hB_spk hT)
  · exact hC_40 hT hn (hB_sph hT)
  · exact hC_41 hT hn (hFr hF_41 (hK _ h_67) (hK _ h_135))
  · exact hC_42 hT hn (hB_shift hT)
  · exact hC_43 hT hn (hFr hF_43 (hK _ h_69) (hK _ h_137))
  · exact hC_44 hT hn (hFr hF_44 (hK _ h_70) (hK _ h_138))
  · exact hC_45 hT hn (hFr hF_45 (hK _ h_71) (hK _ h_139))
  · exact hC_46 hT hn (hFr hF_46 (hK _ h_72) (tX361_ok hT hK))
  · exact hC_47 hT hn (hB_keep hT (hK _ h_79))
  · exact hC_48 hT hn (hB_back hT (hK _ h_77))
  · exact hC_49 hT hn (hFr hF_49 (hK _ h_75) (hK _ h_143))
  · exact fun e clv M hst he => hTail hT hn hst he
