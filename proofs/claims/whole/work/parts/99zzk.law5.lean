/-! the law's case of parish -/
theorem st5 {nn c : Nat} {h : zH} (H : Rr nn c h) {a b : Int} (wa : zw a = a) (wb : zw b = b) : (∃ v : Int, ¬ zw (fX1_has 2 1 a h) = 0 ∧ ¬ zw b < 0 ∧ zw b ≤ zw 8 ∧ (if zw b ≤ zw 2 then fX1_item 2 1 a b h else fX8_of 7 ((b - 2) - 1) a h) = v ∧ fX11_parish a b h = some (v, zs h 14 0 0) ∧ Rr nn (c + 1) (zs h 14 0 0)) ∨ ((zw (fX1_has 2 1 a h) = 0 ∨ zw b < 0 ∨ ¬ zw b ≤ zw 8) ∧ fX11_parish a b h = some (0, zs h 14 0 1) ∧ Rr nn (c + 1) (zs h 14 0 1)) := by
  have R2 := fun x => Rr_par H x
  obtain ⟨T, D, V, C, M⟩ := H
  have C0 := HRHc V.1 C.1.1 M.1.1
  have eh : fX1_has 2 1 a h = if 0 ≤ a ∧ a < (D.1.1 : Int) then 1 else 0 := by
    rw [show fX1_has 2 1 a h = _ from has_eq C0 1 (by decide) wa, C.1.1.1.1]
  obtain ⟨p1, p2⟩ := parM V.1 M.1.1 M.1.2.1 wa wb
  by_cases hk : (0 ≤ a ∧ a < (D.1.1 : Int)) ∧ 0 ≤ b ∧ b ≤ 8
  · obtain ⟨p, rfl⟩ := Int.eq_ofNat_of_zero_le hk.1.1
    obtain ⟨w, rfl⟩ := Int.eq_ofNat_of_zero_le hk.2.1
    have e3 := p2 hk
    rw [Int.toNat_natCast, Int.toNat_natCast] at e3
    refine Or.inl ⟨_, ?_, ?_, ?_, parX V.1 C.1.1 C.1.2.1 (p := p) (w := w) (by omega) (by omega), e3, R2 0⟩
    · rw [eh, if_pos hk.1]; decide
    · rw [wb]; omega
    · rw [wb, zw_8]; exact hk.2.2
  · refine Or.inr ⟨?_, p1 hk, R2 1⟩
    rw [eh, wb, zw_8]
    by_cases h1 : 0 ≤ a ∧ a < (D.1.1 : Int)
    · have h2 : b < 0 ∨ ¬ b ≤ 8 := by omega
      exact Or.inr h2
    · exact Or.inl (by rw [if_neg h1]; exact zw_0)
set_option maxRecDepth 20000 in
set_option maxHeartbeats 4000000 in
theorem lw_5M {υ : zU} (C : yV υ RL code 7 ret) {σ : zSg} (hG : zG σ (yA υ) (ys υ) (ys υ).heap) (hRm : yR υ = room_1) {b0 L oa i k n : Nat} {cL : ClassId} {xs : Nat → Int32} (hKL : va_K (yD υ) vwCl [(ycy υ, .int), (cL, .long)] (ys υ)) (hX : va_X b0 L xs (ys υ) (ys υ).heap) (hbl : b0 < (ys υ).heap.size) (hbA : ¬ yA υ b0) (hL : L ≤ 3072) (hi : i + 6 ≤ L) (hkn : k ≤ (yR υ).cells ∧ n ≤ (yR υ).slots) {α : Nat → Nat} {nn : Nat} (hn : zN ≤ nn ∧ nn ≤ zN + 1) {g : Nat → Int64} {r s : Int} {h1 h2 : zH} (e2 : fX11_parish (xs (i + 1)).toInt (xs (i + 2)).toInt h1 = some (s, h2)) (et : zi (fX11_thrown h2) = zi r) (hr : zi r = 0 → g 0 = (zi s).toInt64) (kk : zY υ (pl_W (ycy υ) cL α nn h2 oa g) k n 1360 (lwv b0 α oa i) []) : zY υ (pl_W (ycy υ) cL α nn h1 oa g) k n 396 ((5, .int (zi r)) :: lwv b0 α oa i) [] := by
  have hR : 2000 + 1 ≤ (yR υ).frames ∧ 40 * 2000 + 40 ≤ (yR υ).locals := ⟨by rw [hRm]; exact Nat.le_of_ble_eq_true rfl, by rw [hRm]; exact Nat.le_of_ble_eq_true rfl⟩
  refine y_aload_n (q := 397) C dL_law_396 3 rfl rfl rfl ?_
  refine y_aload_n (q := 398) C dL_law_397 1 rfl rfl rfl ?_
  refine y_iload (q := 400) C dL_law_398 5 rfl rfl ?_
  refine y_iconst (q := 401) (v := zi 1) C dL_law_400 rfl rfl ?_
  refine y_iadd (q := 402) C dL_law_401 rfl ?_
  refine y_sld (q := 403) (j := i + 1) C hX hbl hbA (zw_iadd 1 hi hL) (by omega) dL_law_402 rfl ?_
  refine y_aload_n (q := 404) C dL_law_403 1 rfl rfl rfl ?_
  refine y_iload (q := 406) C dL_law_404 5 rfl rfl ?_
  refine y_iconst (q := 407) (v := zi 2) C dL_law_406 rfl rfl ?_
  refine y_iadd (q := 408) C dL_law_407 rfl ?_
  refine y_sld (q := 409) (j := i + 2) C hX hbl hbA (zw_iadd 2 hi hL) (by omega) dL_law_408 rfl ?_
  refine y_callV (q := 412) (o := 14) (d := 2000) (av := [.int (zi (xs (i + 1)).toInt), .int (zi (xs (i + 2)).toInt)]) (rest := []) (stk2 := [.int (zi s)]) C hG hn clX11 zo_14 kd_14 (M_fX11_parish (by decide) e2) mY_X11_parish hR hkn q_1422 (Nat.le_of_ble_eq_true rfl) dL_law_409 rfl rfl rfl ?_
  refine y_istore (q := 414) (lv' := (6, .int (zi s)) :: (5, .int (zi r)) :: lwv b0 α oa i) C dL_law_412 (by decide) rfl rfl ?_
  refine y_aload_n (q := 415) C dL_law_414 4 rfl rfl rfl ?_
  refine y_callV (q := 418) (o := 14) (d := 2000) (av := []) (rest := []) (stk2 := [.int (zi (fX11_thrown h2))]) C hG hn clX11 zo_14 kd_14 (M_fX11_thrown (by decide) rfl) mY_X11_thrown hR hkn q_1253 (Nat.le_of_ble_eq_true rfl) dL_law_415 rfl rfl rfl ?_
  refine y_iload (q := 420) C dL_law_418 1 rfl rfl ?_
  refine y_icmp_eqT (tgt := 425) C et dL_law_420 (by decide) ?_
  refine y_iload (q := 427) C dL_law_425 1 rfl rfl ?_
  have hend : zY υ (pl_W (ycy υ) cL α nn h2 oa g) k n 442 ((6, .int (zi s)) :: (5, .int (zi r)) :: lwv b0 α oa i) [] := by
    refine y_goto (q := 1360) C dL_law_442 (by decide) ?_
    refine y_sub ?_ [2, 3, 4, 5, 6] rfl
    exact kk
  refine y_if_ne (tgt := 442) (q := 430) C dL_law_427 (by decide) rfl (fun _ => hend) (fun e0 => ?_)
  refine y_aload_n (q := 431) C dL_law_430 5 rfl rfl rfl ?_
  refine y_iconst (q := 432) (v := zi 0) C dL_law_431 rfl rfl ?_
  refine y_lald (q := 433) C hKL dL_law_432 rfl ?_
  refine y_iload (q := 435) C dL_law_433 0 rfl rfl ?_
  refine y_i2l (q := 436) C dL_law_435 rfl ?_
  refine y_lcmp (q := 437) C dL_law_436 rfl ?_
  refine y_if_eqT (tgt := 442) ?_ C dL_law_437 (by decide) hend
  rw [hr e0]
  simp [lg_cmp]
set_option maxRecDepth 20000 in
set_option maxHeartbeats 4000000 in
theorem lw_P5 (υ : zU) (b0 L oa : Nat) (cL : ClassId) (xs : Nat → Int32) (E : lwEnv υ b0 L cL xs) : lwC υ Rr b0 L oa cL 377 := by
  obtain ⟨C, ⟨σ, hG⟩, hRm, hKL, hfl, hX, hbl, hbA, hL, hz⟩ := E
  intro α nn i c k n h f hn hi hc hk hs hRc kk
  have hR : 2000 + 1 ≤ (yR υ).frames ∧ 40 * 2000 + 40 ≤ (yR υ).locals := ⟨by rw [hRm]; exact Nat.le_of_ble_eq_true rfl, by rw [hRm]; exact Nat.le_of_ble_eq_true rfl⟩
  have hkn1 : k + 1 ≤ (yR υ).cells ∧ n + 6 ≤ (yR υ).slots := ⟨by omega, by omega⟩
  refine y_aload_n (q := 378) C dL_law_377 1 rfl rfl rfl ?_
  refine y_aload_n (q := 379) C dL_law_378 0 rfl rfl rfl ?_
  refine y_iload (q := 381) C dL_law_379 4 rfl rfl ?_
  refine y_iconst (q := 382) (v := zi 1) C dL_law_381 rfl rfl ?_
  refine y_iadd (q := 383) C dL_law_382 rfl ?_
  refine y_sld (q := 384) (j := i + 1) C hX hbl hbA (zw_iadd 1 hi hL) (by omega) dL_law_383 rfl ?_
  refine y_aload_n (q := 385) C dL_law_384 0 rfl rfl rfl ?_
  refine y_iload (q := 387) C dL_law_385 4 rfl rfl ?_
  refine y_iconst (q := 388) (v := zi 2) C dL_law_387 rfl rfl ?_
  refine y_iadd (q := 389) C dL_law_388 rfl ?_
  refine y_sld (q := 390) (j := i + 2) C hX hbl hbA (zw_iadd 2 hi hL) (by omega) dL_law_389 rfl ?_
  refine y_aload_n (q := 391) C dL_law_390 3 rfl rfl rfl ?_
  rcases st5 hRc (zw_toInt (xs (i + 1))) (zw_toInt (xs (i + 2))) with ⟨v, c1, c2, c3, eF, e2, hR2⟩ | ⟨hno, e2, hR2⟩
  · refine y_callL (q := 394) (d := 2000) (rest := []) C hG hz hKL hn (L_parishOk (by decide) c1 c2 c3 eF) hR hkn1 q_1027 (Nat.le_of_ble_eq_true rfl) dL_law_391 rfl rfl ?_
    refine y_istore (q := 396) (lv' := (5, .int (zi 0)) :: lwv b0 α oa i) C dL_law_394 (by decide) rfl rfl ?_
    exact lw_5M C hG hRm hKL hX hbl hbA hL hi hkn1 hn e2 (congrArg zi zs_at) (fun _ => rfl) (kk α nn _ _ (k + 1) (n + 6) hn hR2 (by omega) (by omega))
  · refine y_callL (q := 394) (d := 2000) (rest := []) C hG hz hKL hn (L_parishNo hfl (by decide) hno) hR hkn1 q_1027 (Nat.le_of_ble_eq_true rfl) dL_law_391 rfl rfl ?_
    refine y_istore (q := 396) (lv' := (5, .int (zi 1)) :: lwv b0 α oa i) C dL_law_394 (by decide) rfl rfl ?_
    exact lw_5M C hG hRm hKL hX hbl hbA hL hi hkn1 hn e2 (congrArg zi zs_at) (fun e => absurd e (by decide)) (kk α nn _ _ (k + 1) (n + 6) hn hR2 (by omega) (by omega))
