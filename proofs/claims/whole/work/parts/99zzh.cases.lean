/-! all calls but parish -/
theorem zS_all {N : Nat} (hN : 200000 ≤ N) (nn : Nat) : zSall N (Rr nn) := by
  have h6 : 6600 ≤ N := by omega
  exact ⟨fun c h hc H a1 a2 a3 a4 a5 _ _ _ _ _ => st0 h6 hc H, fun c h hc H a1 w1 => st1 hc H w1, fun c h hc H a1 w1 => st2 h6 hc H w1, fun c h hc H a1 w1 => st3 h6 hc H w1, fun c h hc H a1 w1 => st4 H w1, fun c h hc H a1 a2 w1 w2 => st6 h6 hc H w1 w2, fun c h hc H a1 a2 w1 w2 => st7 H w1 w2, fun c h hc H a1 w1 => st8 hc H w1, fun c h hc H a1 w1 => st9 hc H w1, fun c h hc H a1 a2 w1 w2 => st10 h6 hc H w1 w2, fun c h hc H a1 w1 => st11 h6 hc H w1, fun c h hc H a1 w1 => st12 h6 hc H w1, fun c h hc H a1 w1 => st13 h6 hc H w1, fun c h hc H a1 a2 w1 _ => st14 h6 hc H w1, fun c h hc H _ => st15 h6 hc H, fun c h hc H a1 a2 w1 w2 => st16 H w1 w2, fun c h hc H a1 a2 a3 w1 w2 w3 => st17 H w1 w2 w3, fun c h hc H a1 w1 => st18 h6 hc H w1, fun c h hc H a1 w1 => st19 h6 hc H w1, fun c h hc H a1 a2 a3 w1 w2 w3 => st20 h6 hc H w1 w2 w3, fun c h hc H a1 w1 => st21 h6 H w1, fun c h hc H _ => st22 h6 H, fun c h hc H a1 a2 w1 w2 => st23 h6 H w1 w2, fun c h hc H a1 w1 => st24 h6 H w1, fun c h hc H _ => st25 h6 H, fun c h hc H a1 a2 w1 w2 => st26 h6 H w1 w2, fun c h hc H a1 a2 a3 a4 w1 w2 w3 w4 => st28 h6 H w1 w2 w3 w4, fun c h hc H a1 a2 w1 w2 => st29 H w1 w2, fun c h hc H a1 w1 => st30 h6 H w1, fun c h hc H _ => st31 h6 H, fun c h hc H _ => st32 h6 H, fun c h hc H a1 a2 w1 w2 => st33 h6 H w1 w2, fun c h hc H _ => st34 h6 hc H, fun c h hc H _ => st35 h6 hc H, fun c h hc H a1 _ => st36 H⟩
/-- the law's case of rests, once the class has answered -/
theorem lw_27M {υ : zU} (C : yV υ RL code 7 ret) {σ : zSg} (hG : zG σ (yA υ) (ys υ) (ys υ).heap) (hRm : yR υ = room_1) {b0 L oa i k n : Nat} {xs : Nat → Int32} {ex : va_W} (hX : va_X b0 L xs (ys υ) (ys υ).heap) (hbl : b0 < (ys υ).heap.size) (hbA : ¬ yA υ b0) (hL : L ≤ 3072) (hi : i + 6 ≤ L) (hkn : k ≤ (yR υ).cells ∧ n ≤ (yR υ).slots) {α : Nat → Nat} {nn : Nat} (hn : zN ≤ nn ∧ nn ≤ zN + 1) {N : Nat} {r s : Int} {h1 h2 : zH} (e2 : fX11_rests N (xs (i + 1)).toInt h1 = some (s, h2)) (e3 : zi r = zi s) (kk : zY υ (zws (ycy υ) α nn h2 ++ ex) k n 1360 (lwv b0 α oa i) []) : zY υ (zws (ycy υ) α nn h1 ++ ex) k n 1108 (lwv b0 α oa i) [.int (zi r)] := by
  refine y_aload_n (q := 1109) C dL_law_1108 2 rfl rfl rfl ?_
  refine y_aload_n (q := 1110) C dL_law_1109 0 rfl rfl rfl ?_
  refine y_iload (q := 1112) C dL_law_1110 4 rfl rfl ?_
  refine y_iconst (q := 1113) (v := zi 1) C dL_law_1112 rfl rfl ?_
  refine y_iadd (q := 1114) C dL_law_1113 rfl ?_
  refine y_sld (q := 1115) (j := i + 1) C hX hbl hbA (zw_iadd 1 hi hL) (by omega) dL_law_1114 rfl ?_
  refine y_callV (q := 1118) (o := 14) (d := 2000) (av := [.int (zi (xs (i + 1)).toInt)]) (rest := [.int (zi r)]) (stk2 := [.int (zi s), .int (zi r)]) C hG hn clX11 zo_14 kd_14 (M_fX11_rests (by decide) e2) mY_X11_rests ⟨by rw [hRm]; exact Nat.le_of_ble_eq_true rfl, by rw [hRm]; exact Nat.le_of_ble_eq_true rfl⟩ hkn q_1682 (Nat.le_of_ble_eq_true rfl) dL_law_1115 rfl rfl rfl ?_
  exact y_icmp_eqT (tgt := 1360) C e3 dL_law_1118 (by decide) kk
theorem lw_P27 {N : Nat} (hN : 200000 ≤ N) (υ : zU) (b0 L oa : Nat) (cL : ClassId) (xs : Nat → Int32) (E : lwEnv υ b0 L cL xs) : lwC υ Rr b0 L oa cL 1098 := by
  obtain ⟨C, ⟨σ, hG⟩, hRm, _, _, hX, hbl, hbA, hL, _⟩ := E
  intro α nn i c k n h f hn hi hc hk hs hRc kk
  have hR : 2000 + 1 ≤ (yR υ).frames ∧ 40 * 2000 + 40 ≤ (yR υ).locals := ⟨by rw [hRm]; exact Nat.le_of_ble_eq_true rfl, by rw [hRm]; exact Nat.le_of_ble_eq_true rfl⟩
  have hkn : k ≤ (yR υ).cells ∧ n ≤ (yR υ).slots := ⟨by omega, by omega⟩
  have hkn1 : k + 1 ≤ (yR υ).cells ∧ n + 3125 ≤ (yR υ).slots := ⟨by omega, by omega⟩
  refine y_aload_n (q := 1099) C dL_law_1098 1 rfl rfl rfl ?_
  refine y_aload_n (q := 1100) C dL_law_1099 0 rfl rfl rfl ?_
  refine y_iload (q := 1102) C dL_law_1100 4 rfl rfl ?_
  refine y_iconst (q := 1103) (v := zi 1) C dL_law_1102 rfl rfl ?_
  refine y_iadd (q := 1104) C dL_law_1103 rfl ?_
  refine y_sld (q := 1105) (j := i + 1) C hX hbl hbA (zw_iadd 1 hi hL) (by omega) dL_law_1104 rfl ?_
  rcases st27 hN hn hRc (zw_toInt (xs (i + 1))) with ⟨en, r, s, h1, h2, e1, e2, e3, hR2⟩ | ⟨hc', r, s, h2, e1, e2, e3, hR2⟩ | ⟨en, h5, c1, c2, hw⟩
  · refine y_callV (q := 1108) (o := 0) (d := 2000) (av := [.int (zi (xs (i + 1)).toInt)]) (rest := []) (stk2 := [.int (zi r)]) C hG hn clX10 zo_0 kd_0 (M_fX10_rests (by decide) (by omega) e1) mY_X10_rests hR hkn q_944 (Nat.le_of_ble_eq_true rfl) dL_law_1105 rfl rfl rfl ?_
    exact lw_27M C hG hRm hX hbl hbA hL hi hkn hn e2 e3 (kk α nn h2 f k n hn hR2 (by omega) (by omega))
  · refine y_callV (q := 1108) (o := 0) (d := 2000) (av := [.int (zi (xs (i + 1)).toInt)]) (rest := []) (stk2 := [.int (zi r)]) C hG hn clX10 zo_0 kd_0 (M_restsE (by decide) hc' e1) mY_X10_rests hR hkn q_944 (Nat.le_of_ble_eq_true rfl) dL_law_1105 rfl rfl rfl ?_
    exact lw_27M C hG hRm hX hbl hbA hL hi hkn hn e2 e3 (kk α nn h2 f k n hn hR2 (by omega) (by omega))
  · subst en
    obtain ⟨r, s, h1, h2, e1, e2, e3, hR2⟩ := hw (fun _ => 0)
    refine y_callG (q := 1108) (o := 0) (d := 2000) (av := [.int (zi (xs (i + 1)).toInt)]) (rest := []) (stk2 := [.int (zi r)]) C hG hn clX10 zo_0 kd_0 (G_rests (by decide) (by rw [h5]; decide) c1 c2 e1) mY_X10_rests hR hkn1 q_944 (Nat.le_of_ble_eq_true rfl) dL_law_1105 rfl rfl rfl (fun α' hα => ?_)
    have ea : lwv b0 α oa i = lwv b0 α' oa i := by
      unfold lwv
      rw [hα 0 (by decide), hα 14 (by decide)]
    show zY υ _ (k + 1) (n + 3125) 1108 (lwv b0 α oa i) _
    rw [ea]
    have hn' : zN ≤ zN + 1 ∧ zN + 1 ≤ zN + 1 := ⟨Nat.le_succ _, Nat.le_refl _⟩
    exact lw_27M C hG hRm hX hbl hbA hL hi hkn1 hn' e2 e3 (kk α' (zN + 1) h2 f (k + 1) (n + 3125) hn' hR2 (by omega) (by omega))
theorem Rr_m (nn c : Nat) (h : zH) (H : Rr nn c h) : Rr nn (c + 1) h := Rr_same H
