/-! the calls that ask keep the relation -/
theorem CW_fr {np nd nr lim lim' : Nat} {t : Nat → Nat} {w : hW} {h h1 : zH} (H : CW np nd nr t lim w h) (hl : lim ≤ lim') {L : List Nat} (F : FR L h h1) (hL : ∀ b, b ∈ [10, 16, 17, 18, 30, 31, 42] → b ∉ L) : CW np nd nr t lim' w h1 := CW_to H hl (F 10 (hL 10 (by decide))) (F 16 (hL 16 (by decide))) (F 17 (hL 17 (by decide))) (F 18 (hL 18 (by decide))) (F 30 (hL 30 (by decide))) (F 31 (hL 31 (by decide))) (F 42 (hL 42 (by decide)))
/-- a call that asks: the class writes scratch rows, and so does the reference -/
theorem Rr_q {nn c : Nat} {h h1 h2 : zH} {D : rD} (T : RT h) (V : RVd D) (C : RCd nn (240 * c) D h) (M : RMd (1500 * c) D h) {L1 L2 J : List Nat} (F1 : FR L1 h h1) (G5 : FS 5 [5] h h1) (G0 : FS 0 [15] h h1) (hL1 : ∀ b, b ∈ mrw ++ [1, 6, 12, 13, 15, 24, 25, 27, 28, 38, 39, 46, 47, 76] → b ∉ L1) (hL0 : ∀ b, b ∈ [10, 16, 17, 18, 30, 31, 42] → b ∉ L1) (K' : KM D.1.2.2.2 D.1.2.2.1 h1) (F2 : FR L2 h1 h2) (G14 : FS 14 J h1 h2) (hJ : ∀ j, j ∈ [2, 13, 33, 35, 36, 46, 49] → j ∉ J) (hL2 : ∀ b, b ∈ crw ++ [49, 50, 51, 53, 54, 55, 56, 67, 68, 73, 74, 75] → b ∉ L2) (M' : MW D.1.1 D.1.2.1 D.1.2.2.1 D.1.2.2.2 (1500 * c) D.2.1 h2) : Rr nn (c + 1) h2 :=
  Rr_w T V C M F1 G5 G0 hL1 V.2.1 (by omega : 240 * c ≤ 240 * (c + 1)) (CW_fr C.1 (Nat.le_refl _) F1 hL0) K' F2 G14 hJ hL2 (by omega : 1500 * c ≤ 1500 * (c + 1)) M'
theorem st18 {N : Nat} (hN : 6600 ≤ N) {nn c : Nat} {h : zH} (hc : c < 512) (H : Rr nn c h) {a1 : Int} (w1 : zw a1 = a1) : ∃ (r s : Int) (h1 h2 : zH), fX10_run N a1 h = some (r, h1) ∧ fX11_run N a1 h1 = some (s, h2) ∧ zi r = zi s ∧ Rr nn (c + 1) h2 := by
  have HH := H
  obtain ⟨T, D, V, C, M⟩ := H
  obtain ⟨xn, xy⟩ := runX V.1 V.2.2.2.1 V.2.1 C.1 C.2.2.1 (N := N) (by omega) (gXr (by omega) V C (Or.inr rfl)) w1
  by_cases cc : 0 < D.1.1 ∧ 0 ≤ a1 ∧ a1 < D.2.2.2.1.1
  · obtain ⟨h1, x1, x2, x3⟩ := xy cc
    have M1 : RMd (1500 * c) D h1 := RM_eq M (Nat.le_refl _) (EQ_fr x2 (by decide))
    obtain ⟨h2, y1, y2, y3⟩ := (runM V.1 V.2.2.2.1 V.2.1 M1.1 M1.2.2.1 (by omega) (N := N) (by omega) (gMr (by omega) V M1) w1).2 cc
    exact ⟨_, _, h1, h2, x1, y1, rfl, Rr_q T V C M x2 x3 (FS_of x2 (by decide)) (by decide) (by decide) (KM_to C.2.2.2.2.1 (x2 43 (by decide))) y2 (FS_of (J := []) y2 (by decide)) (by decide) (by decide) y3⟩
  · exact ⟨_, _, h, h, xn cc, (runM V.1 V.2.2.2.1 V.2.1 M.1 M.2.2.1 (by omega) (N := N) (by omega) (gMr (by omega) V M) w1).1 cc, rfl, Rr_same HH⟩
theorem st20 {N : Nat} (hN : 6600 ≤ N) {nn c : Nat} {h : zH} (hc : c < 512) (H : Rr nn c h) {a1 a2 a3 : Int} (w1 : zw a1 = a1) (w2 : zw a2 = a2) (w3 : zw a3 = a3) : ∃ (r s : Int) (h1 h2 : zH), fX10_ahead N a1 a2 a3 h = some (r, h1) ∧ fX11_ahead N a1 a2 a3 h1 = some (s, h2) ∧ zi r = zi s ∧ Rr nn (c + 1) h2 := by
  have HH := H
  obtain ⟨T, D, V, C, M⟩ := H
  obtain ⟨xn, xy⟩ := ahdX V.1 V.2.1 C.1 (N := N) (by omega) (gXr (by omega) V C (Or.inr rfl)) w1 w2 w3
  by_cases cc : (0 ≤ a1 ∧ a1 < D.1.1) ∧ (0 ≤ a2 ∧ a2 ≤ 240) ∧ 0 ≤ a3 ∧ a3 ≤ 1
  · obtain ⟨h1, x1, x2, x3⟩ := xy cc
    have M1 : RMd (1500 * c) D h1 := RM_eq M (Nat.le_refl _) (EQ_fr x2 (by decide))
    obtain ⟨h2, y1, y2, y3⟩ := (ahdM V.1 V.2.1 M1.1 (by omega) (N := N) (by omega) (gMr (by omega) V M1) w1 w2 w3).2 cc
    exact ⟨_, _, h1, h2, x1, y1, rfl, Rr_q T V C M x2 x3 (FS_of x2 (by decide)) (by decide) (by decide) (KM_to C.2.2.2.2.1 (x2 43 (by decide))) y2 (FS_of (J := []) y2 (by decide)) (by decide) (by decide) y3⟩
  · exact ⟨_, _, h, h, xn cc, (ahdM V.1 V.2.1 M.1 (by omega) (N := N) (by omega) (gMr (by omega) V M) w1 w2 w3).1 cc, rfl, Rr_same HH⟩
theorem st17 {nn c : Nat} {h : zH} (H : Rr nn c h) {a1 a2 a3 : Int} (w1 : zw a1 = a1) (w2 : zw a2 = a2) (w3 : zw a3 = a3) : ∃ (r s : Int), fX10_step a1 a2 a3 h = r ∧ fX11_step a1 a2 a3 h = some s ∧ zi r = zi s ∧ Rr nn (c + 1) h := by
  have HH := H
  obtain ⟨T, D, V, C, M⟩ := H
  exact ⟨_, _, rfl, step_both V.2.2.2.1 C.2.2.1 M.2.2.1 w1 w2 w3, rfl, Rr_same HH⟩
theorem st21 {N : Nat} (hN : 6600 ≤ N) {nn c : Nat} {h : zH} (H : Rr nn c h) {a1 : Int} (w1 : zw a1 = a1) : ∃ (r s : Int), fX10_needed N a1 h = some r ∧ fX11_needed N a1 h = some s ∧ zi r = zi s ∧ Rr nn (c + 1) h := by
  have HH := H
  obtain ⟨T, D, V, C, M⟩ := H
  obtain ⟨r, x, y⟩ := needed_both V.1 C.1.1 M.1.1 (N := N) (by omega) w1
  exact ⟨r, r, x, y, rfl, Rr_same HH⟩
theorem st22 {N : Nat} (hN : 6600 ≤ N) {nn c : Nat} {h : zH} (H : Rr nn c h) : ∃ (r s : Int), fX10_ring N h = some r ∧ fX11_ring N h = some s ∧ zi r = zi s ∧ Rr nn (c + 1) h := by
  have HH := H
  obtain ⟨T, D, V, C, M⟩ := H
  obtain ⟨r, x, y⟩ := ring_both V.1 C.1.1 M.1.1 (N := N) (by omega)
  exact ⟨r, r, x, y, rfl, Rr_same HH⟩
theorem MW_14 {np nd nr B : Nat} {t : Nat → Nat} {w : hW} {h h' : zH} (H : MW np nd nr t B w h) {L J : List Nat} (F : FR L h h') (hL : ∀ b, b ∈ [63, 64, 65, 66, 69, 70] → b ∉ L) (G : FS 14 J h h') (hJ : ∀ j, j ∈ [28, 29, 30, 38] → j ∉ J) : MW np nd nr t B w h' := MW_to H ⟨G 28 (hJ 28 (by decide)), G 29 (hJ 29 (by decide)), G 30 (hJ 30 (by decide)), G 38 (hJ 38 (by decide))⟩ (F 63 (hL 63 (by decide))) (F 64 (hL 64 (by decide))) (F 65 (hL 65 (by decide))) (F 66 (hL 66 (by decide))) (F 69 (hL 69 (by decide))) (F 70 (hL 70 (by decide)))
theorem st23 {N : Nat} (hN : 6600 ≤ N) {nn c : Nat} {h : zH} (H : Rr nn c h) {a1 a2 : Int} (w1 : zw a1 = a1) (w2 : zw a2 = a2) : ∃ (r s : Int) (h1 h2 : zH), fX10_soonest N a1 a2 h = some (r, h1) ∧ fX11_soonest N a1 a2 h1 = some (s, h2) ∧ zi r = zi s ∧ Rr nn (c + 1) h2 := by
  have HH := H
  obtain ⟨T, D, V, C, M⟩ := H
  obtain ⟨xn, xy⟩ := soonX V.1 C.1.1 V.2.1.1.1 C.1.2.1 V.2.1.1.2.2.2 C.2.2.2.2.1 (N := N) (by omega) w1 w2
  by_cases cc : (0 ≤ a1 ∧ a1 < D.1.1) ∧ 0 ≤ a2 ∧ a2 ≤ 2
  · obtain ⟨h1, x1, x2, x3⟩ := xy cc
    have M1 : RMd (1500 * c) D h1 := RM_eq M (Nat.le_refl _) (EQ_fr x2 (by decide))
    obtain ⟨h2, y1, y2, y3⟩ := (soonM V.1 M1.1.1 V.2.1.1.1 M1.1.2.1 V.2.1.1.2.2.2 (N := N) (by omega) w1 w2).2 cc
    exact ⟨_, _, h1, h2, x1, y1, rfl, Rr_q T V C M x2 (FS_of x2 (by decide)) (FS_of x2 (by decide)) (by decide) (by decide) x3 y2 y3 (by decide) (by decide) (MW_14 M1.1 y2 (by decide) y3 (by decide))⟩
  · exact ⟨_, _, h, h, xn cc, (soonM V.1 M.1.1 V.2.1.1.1 M.1.2.1 V.2.1.1.2.2.2 (N := N) (by omega) w1 w2).1 cc, rfl, Rr_same HH⟩
theorem st24 {N : Nat} (hN : 6600 ≤ N) {nn c : Nat} {h : zH} (H : Rr nn c h) {a1 : Int} (w1 : zw a1 = a1) : ∃ (r s : Int) (h1 : zH), fX10_waived N a1 h = some (r, h1) ∧ fX11_waived N a1 h1 = some s ∧ zi r = zi s ∧ Rr nn (c + 1) h1 := by
  have HH := H
  obtain ⟨T, D, V, C, M⟩ := H
  obtain ⟨xn, xy⟩ := waiX V.1 C.1.1 V.2.1.1.1 C.1.2.1 V.2.1.1.2.2.2 C.2.2.2.2.1 (N := N) (by omega) w1
  by_cases cc : 0 ≤ a1 ∧ a1 < D.1.1
  · obtain ⟨h1, x1, x2, x3⟩ := xy cc
    have M1 : RMd (1500 * c) D h1 := RM_eq M (Nat.le_refl _) (EQ_fr x2 (by decide))
    have y1 := (waiM V.1 M1.1.1 V.2.1.1.1 M1.1.2.1 (N := N) (by omega) w1).2 cc
    exact ⟨_, _, h1, x1, y1, rfl, Rr_q T V C M x2 (FS_of x2 (by decide)) (FS_of x2 (by decide)) (by decide) (by decide) x3 (FR_rf (L := [])) (FS_rf (J := [])) (by decide) (by decide) M1.1⟩
  · exact ⟨_, _, h, xn cc, (waiM V.1 M.1.1 V.2.1.1.1 M.1.2.1 (N := N) (by omega) w1).1 cc, rfl, Rr_same HH⟩
theorem st25 {N : Nat} (hN : 6600 ≤ N) {nn c : Nat} {h : zH} (H : Rr nn c h) : ∃ (r s : Int) (h1 h2 : zH), fX10_earliest N h = some (r, h1) ∧ fX11_earliest N h1 = some (s, h2) ∧ zi r = zi s ∧ Rr nn (c + 1) h2 := by
  obtain ⟨T, D, V, C, M⟩ := H
  obtain ⟨h1, x1, x2, x3⟩ := earX V.1 C.1.1 V.2.1.1.1 C.1.2.1 V.2.1.1.2.2.2 C.2.2.2.2.1 (N := N) (by omega)
  have M1 : RMd (1500 * c) D h1 := RM_eq M (Nat.le_refl _) (EQ_fr x2 (by decide))
  obtain ⟨h2, y1, y2, y3⟩ := earM V.1 M1.1.1 V.2.1.1.1 M1.1.2.1 V.2.1.1.2.2.2 (N := N) (by omega)
  exact ⟨_, _, h1, h2, x1, y1, rfl, Rr_q T V C M x2 (FS_of x2 (by decide)) (FS_of x2 (by decide)) (by decide) (by decide) x3 y2 y3 (by decide) (by decide) (MW_14 M1.1 y2 (by decide) y3 (by decide))⟩
theorem st26 {N : Nat} (hN : 6600 ≤ N) {nn c : Nat} {h : zH} (H : Rr nn c h) {a1 a2 : Int} (w1 : zw a1 = a1) (w2 : zw a2 = a2) : ∃ (r s : Int) (h1 h2 : zH), fX10_share N a1 a2 h = some (r, h1) ∧ fX11_share N a1 a2 h1 = some (s, h2) ∧ zi r = zi s ∧ Rr nn (c + 1) h2 := by
  obtain ⟨T, D, V, C, M⟩ := H
  obtain ⟨h1, x1, x2⟩ := shareX V.1 C.1.1 (N := N) (by omega) w1 w2
  have M1 : RMd (1500 * c) D h1 := RM_eq M (Nat.le_refl _) (EQ_fr x2 (by decide))
  obtain ⟨h2, y1, y2⟩ := shareMm V.1 M1.1.1 (N := N) (by omega) w1 w2
  exact ⟨_, _, h1, h2, x1, y1, rfl, Rr_q T V C M x2 (FS_of x2 (by decide)) (FS_of x2 (by decide)) (by decide) (by decide) (KM_to C.2.2.2.2.1 (x2 43 (by decide))) y2 (FS_of (J := []) y2 (by decide)) (by decide) (by decide) (MW_14 M1.1 y2 (by decide) (FS_of (J := []) y2 (by decide)) (by decide))⟩
theorem st28 {N : Nat} (hN : 6600 ≤ N) {nn c : Nat} {h : zH} (H : Rr nn c h) {a1 a2 a3 a4 : Int} (w1 : zw a1 = a1) (w2 : zw a2 = a2) (w3 : zw a3 = a3) (w4 : zw a4 = a4) : ∃ (r s : Int), fX10_bribes N a1 a2 a3 a4 = some r ∧ fX11_bribes a1 a2 a3 a4 = some s ∧ zi r = zi s ∧ Rr nn (c + 1) h := by
  obtain ⟨r, x, y⟩ := bribes_both (N := N) (by omega) w1 w2 w3 w4
  exact ⟨r, r, x, y, rfl, Rr_same H⟩
theorem st33 {N : Nat} (hN : 6600 ≤ N) {nn c : Nat} {h : zH} (H : Rr nn c h) {a1 a2 : Int} (w1 : zw a1 = a1) (w2 : zw a2 = a2) : ∃ (r s : Int), fX10_works N a1 a2 h = some r ∧ fX11_works N a1 a2 h = some s ∧ zi r = zi s ∧ Rr nn (c + 1) h := by
  have HH := H
  obtain ⟨T, D, V, C, M⟩ := H
  obtain ⟨xn, xy⟩ := worX V.1 V.2.1 C.1 (N := N) (by omega) w1 w2
  obtain ⟨yn, yy⟩ := worM V.1 V.2.1 M.1 (N := N) (by omega) w1 w2
  by_cases cc : 0 < D.1.1 ∧ (1 ≤ a1 ∧ a1 ≤ 9) ∧ 0 ≤ a2 ∧ a2 ≤ 1
  · exact ⟨_, _, xy cc, yy cc, rfl, Rr_same HH⟩
  · exact ⟨_, _, xn cc, yn cc, rfl, Rr_same HH⟩
theorem st30 {N : Nat} (hN : 6600 ≤ N) {nn c : Nat} {h : zH} (H : Rr nn c h) {a1 : Int} (w1 : zw a1 = a1) : ∃ (r s : Int) (h1 : zH), fX10_could N a1 h = some (r, h1) ∧ fX11_could N a1 h1 = some s ∧ zi r = zi s ∧ Rr nn (c + 1) h1 := by
  have HH := H
  obtain ⟨T, D, V, C, M⟩ := H
  obtain ⟨xn, xy⟩ := couX V.1 C.1.1 V.2.2.2.2.1 C.2.2.2.1 (N := N) (by omega) w1
  by_cases cc : 0 < D.1.1 ∧ -1 ≤ a1
  · obtain ⟨h1, x1, x2⟩ := xy cc
    have M1 : RMd (1500 * c) D h1 := RM_eq M (Nat.le_refl _) (EQ_fr x2 (by decide))
    have y1 := (couM V.1 M1.1.1 V.2.2.2.2.1 M1.2.2.2.1 (N := N) (by omega) w1).2 cc
    exact ⟨_, _, h1, x1, y1, rfl, Rr_q T V C M x2 (FS_of x2 (by decide)) (FS_of x2 (by decide)) (by decide) (by decide) (KM_to C.2.2.2.2.1 (x2 43 (by decide))) (FR_rf (L := [])) (FS_rf (J := [])) (by decide) (by decide) M1.1⟩
  · exact ⟨_, _, h, xn cc, (couM V.1 M.1.1 V.2.2.2.2.1 M.2.2.2.1 (N := N) (by omega) w1).1 cc, rfl, Rr_same HH⟩
theorem st31 {N : Nat} (hN : 6600 ≤ N) {nn c : Nat} {h : zH} (H : Rr nn c h) : ∃ (r s : Int) (h1 : zH), fX10_sure N h = some (r, h1) ∧ fX11_sure N h1 = some s ∧ zi r = zi s ∧ Rr nn (c + 1) h1 := by
  obtain ⟨T, D, V, C, M⟩ := H
  obtain ⟨h1, x1, x2⟩ := surX V.1 C.1.1 V.2.2.2.2.1 C.2.2.2.1 (N := N) (by omega)
  have M1 : RMd (1500 * c) D h1 := RM_eq M (Nat.le_refl _) (EQ_fr x2 (by decide))
  have y1 := surM V.1 M1.1.1 V.2.2.2.2.1 M1.2.2.2.1 (N := N) (by omega)
  exact ⟨_, _, h1, x1, y1, rfl, Rr_q T V C M x2 (FS_of x2 (by decide)) (FS_of x2 (by decide)) (by decide) (by decide) (KM_to C.2.2.2.2.1 (x2 43 (by decide))) (FR_rf (L := [])) (FS_rf (J := [])) (by decide) (by decide) M1.1⟩
theorem st32 {N : Nat} (hN : 6600 ≤ N) {nn c : Nat} {h : zH} (H : Rr nn c h) : ∃ (r s : Int) (h1 : zH), fX10_wrong N h = some (r, h1) ∧ fX11_wrong N h1 = some s ∧ zi r = zi s ∧ Rr nn (c + 1) h1 := by
  obtain ⟨T, D, V, C, M⟩ := H
  obtain ⟨h1, x1, x2⟩ := wroX V.1 C.1.1 V.2.2.2.2.1 C.2.2.2.1 (N := N) (by omega)
  have M1 : RMd (1500 * c) D h1 := RM_eq M (Nat.le_refl _) (EQ_fr x2 (by decide))
  have y1 := wroM V.1 M1.1.1 V.2.2.2.2.1 M1.2.2.2.1 (N := N) (by omega)
  exact ⟨_, _, h1, x1, y1, rfl, Rr_q T V C M x2 (FS_of x2 (by decide)) (FS_of x2 (by decide)) (by decide) (by decide) (KM_to C.2.2.2.2.1 (x2 43 (by decide))) (FR_rf (L := [])) (FS_rf (J := [])) (by decide) (by decide) M1.1⟩
theorem st4 {nn c : Nat} {h : zH} (H : Rr nn c h) {a1 : Int} (w1 : zw a1 = a1) : ∃ (r s : Int), fX10_sun a1 h = r ∧ fX11_sun a1 h = some s ∧ zi r = zi s ∧ Rr nn (c + 1) h := by
  have HH := H
  obtain ⟨T, D, V, C, M⟩ := H
  exact ⟨_, _, rfl, sun_core (HRHc V.1 C.1.1 M.1.1) (HRHi C.1.1 M.1.1) w1, rfl, Rr_same HH⟩
theorem st7 {nn c : Nat} {h : zH} (H : Rr nn c h) {a1 a2 : Int} (w1 : zw a1 = a1) (w2 : zw a2 = a2) : ∃ (r s : Int), fX10_paper a1 a2 h = r ∧ fX11_paper a1 a2 h = some s ∧ zi r = zi s ∧ Rr nn (c + 1) h := by
  have HH := H
  obtain ⟨T, D, V, C, M⟩ := H
  exact ⟨_, _, rfl, paper_core (HRHc V.1 C.1.1 M.1.1) (HRHi C.1.1 M.1.1) w1 w2, rfl, Rr_same HH⟩
theorem RLog_of {np nd nr B : Nat} {t : Nat → Nat} {a : hSt} {rc rd m : Nat → Int} (A : AOK np nd nr t a) (S : XS np t a rc) (X : XD (aL a) rd) (M : MS np B a m) : RLog rc rd m := by
  have hl := AOK_L A
  obtain ⟨_, _, _, _, s5⟩ := S
  obtain ⟨_, _, _, _, _, m6, m7⟩ := M
  refine ⟨by omega, by rw [m6, s5]; split <;> omega, fun i hi => ?_⟩
  have hi' : i < min 60 (aL a).length := by omega
  obtain ⟨z1, z2⟩ := m7 (min 60 (aL a).length - 1 - i) (by omega)
  rw [show min 60 (aL a).length - 1 - (min 60 (aL a).length - 1 - i) = i by omega] at z1 z2
  have xd := X (min 60 (aL a).length - 1 - i) (by omega)
  have hmem := A.1.2.2.2.2 ((aL a).getD (min 60 (aL a).length - 1 - i) (0, 0)) (by
    rw [List.getD_eq_getElem?_getD, List.getElem?_eq_getElem (show min 60 (aL a).length - 1 - i < (aL a).length by omega)]
    exact List.getElem_mem _)
  rw [show (rc 50 - m 44).toNat + i = (aL a).length - 1 - (min 60 (aL a).length - 1 - i) by rw [s5, m6]; omega, xd, z1, z2]
  refine ⟨by omega, by omega, by omega, by omega⟩
theorem st16 {nn c : Nat} {h : zH} (H : Rr nn c h) {a1 a2 : Int} (w1 : zw a1 = a1) (w2 : zw a2 = a2) : ∃ (r s : Int), fX10_log a1 a2 h = r ∧ fX11_log a1 a2 h = some s ∧ zi r = zi s ∧ Rr nn (c + 1) h := by
  have HH := H
  obtain ⟨T, D, V, C, M⟩ := H
  exact ⟨_, _, rfl, log_core (RLog_of V.2.1.1 C.1.2.1 C.1.2.2.1 M.1.2.1) w1 w2, rfl, Rr_same HH⟩
theorem st36 {nn c : Nat} {h : zH} (H : Rr nn c h) {a1 : Int} : ∃ (r s : Int), fX10_count a1 h = r ∧ fX11_count a1 h = s ∧ zi r = zi s ∧ Rr nn (c + 1) h := by
  have HH := H
  obtain ⟨T, D, V, C, M⟩ := H
  have E0 : RE h := by
    have a := C.2.2.2.2.2.2.1
    have b := M.2.2.2.2.2
    have v := V.2.2.2.2.2.2.2
    exact ⟨by rw [a, b], by omega, by omega⟩
  have R0 : RV h := by
    have hV := V.2.2.2.2.2.1.1
    have e0 : h 5 0 = h 14 13 := by rw [C.2.2.2.2.2.1.1.1, M.2.2.2.2.1.1.1]
    have a := C.2.2.2.2.2.1.1.1
    have b := C.2.2.2.2.2.1.2
    have d := M.2.2.2.2.1.2
    have v := V.2.2.2.2.2.2.1
    exact ⟨e0, ⟨by omega, by omega⟩, by omega, by omega, by omega⟩
  exact ⟨_, _, rfl, count_core (HRHc V.1 C.1.1 M.1.1) T E0 R0 (by rw [C.1.2.1.2.1, M.1.2.1.2.1]) (by rw [C.2.2.1.1, M.2.2.1.1]) (by rw [C.2.2.2.1.1, M.2.2.2.1.1]) (by rw [C.1.2.2.2.1.1, M.1.2.2.1]) (RLog_of V.2.1.1 C.1.2.1 C.1.2.2.1 M.1.2.1), rfl, Rr_same HH⟩
theorem st29 {nn c : Nat} {h : zH} (H : Rr nn c h) {a1 a2 : Int} (w1 : zw a1 = a1) (w2 : zw a2 = a2) : ∃ (r s : Int) (h1 h2 : zH), fX10_see a1 a2 h = (r, h1) ∧ fX11_see a1 a2 h1 = some (s, h2) ∧ zi r = zi s ∧ Rr nn (c + 1) h2 := by
  have HH := H
  obtain ⟨T, D, V, C, M⟩ := H
  obtain ⟨xn, xy⟩ := seeX V.1 C.1.1 V.2.2.2.2.1 C.2.2.2.1 w1 w2
  by_cases cc : (0 ≤ a1 ∧ a1 < D.1.1) ∧ (0 ≤ a2 ∧ a2 ≤ 24) ∧ D.2.2.2.2.1.1 < 12
  · obtain ⟨h1, x1, x2, x3⟩ := xy cc
    have M1 : RMd (1500 * c) D h1 := RM_eq M (Nat.le_refl _) (EQ_fr x2 (by decide))
    obtain ⟨h2, y1, y2, y3, y4⟩ := (seeM V.1 M1.1.1 V.2.2.2.2.1 M1.2.2.2.1 w1 w2).2 cc
    obtain ⟨c1, c2, c3, c4, c5, c6, c7, c8⟩ := C
    have row : ∀ b, b ∈ [0, 1, 5, 6, 10, 12, 16, 17, 18, 24, 25, 27, 28, 30, 31, 38, 39, 42, 43, 76] → h1 b = h b := fun b hb => x2 b ((by decide : ∀ b, b ∈ [0, 1, 5, 6, 10, 12, 16, 17, 18, 24, 25, 27, 28, 30, 31, 38, 39, 42, 43, 76] → b ∉ [13, 46, 47]) b hb)
    refine ⟨_, _, h1, h2, x1, y1, rfl, Rr_mk (D' := (D.1, D.2.1, D.2.2.1, D.2.2.2.1, (D.2.2.2.2.1.1 + 1, (fun i => if i = D.2.2.2.2.1.1 then a1.toNat else D.2.2.2.2.1.2.1 i), (fun i => if i = D.2.2.2.2.1.1 then a2.toNat else D.2.2.2.2.1.2.2 i)), D.2.2.2.2.2)) T M x2 (by decide) (by decide) (by rw [row 1 (by decide)]) ⟨V.1, V.2.1, V.2.2.1, V.2.2.2.1, ⟨by have := cc.2.2; show D.2.2.2.2.1.1 + 1 ≤ 12; omega, fun i hi => by
        have hi' : i < D.2.2.2.2.1.1 + 1 := hi
        show (if i = D.2.2.2.2.1.1 then a1.toNat else D.2.2.2.2.1.2.1 i) < D.1.1 ∧ (if i = D.2.2.2.2.1.1 then a2.toNat else D.2.2.2.2.1.2.2 i) ≤ 24
        by_cases e : i = D.2.2.2.2.1.1
        · rw [if_pos e, if_pos e]; omega
        · rw [if_neg e, if_neg e]; exact V.2.2.2.2.1.2 i (by omega)⟩, V.2.2.2.2.2⟩ ⟨CW_fr c1 (by omega) x2 (by decide), CI_to c2 (by rw [row 0 (by decide)]) (row 38 (by decide)) (row 39 (by decide)), OX_to c3 (by rw [row 6 (by decide)]) (row 27 (by decide)) (row 28 (by decide)), x3, KM_to c5 (row 43 (by decide)), ⟨RXl_to c6.1 (by rw [row 5 (by decide)]) (row 24 (by decide)) (row 25 (by decide)), by rw [row 5 (by decide)]; exact c6.2⟩, by rw [row 0 (by decide)]; exact c7, SHr_to c8 (by rw [row 12 (by decide)]) (by rw [row 12 (by decide)]) (row 76 (by decide))⟩ (fun M1 => ⟨y2, y3 2 (by decide), ?_⟩) (by decide) (by decide)⟩
    obtain ⟨m1', m2', m3', m4', m5', m6'⟩ := M1
    exact ⟨MW_B (MW_14 m1' y2 (by decide) y3 (by decide)) (by omega), MI_B (MI_to m2' (y3 49 (by decide)) (y2 75 (by decide))) (by omega), OM_to m3' (y3 33 (by decide)) (y2 67 (by decide)) (y2 68 (by decide)), y4, ⟨RMl_to m5'.1 (y3 13 (by decide)) (fun b hb => y2 b ((by decide : ∀ b, b ∈ [50, 51, 53, 54, 55, 56] → b ∉ [14, 73, 74]) b hb)), by rw [y3 35 (by decide)]; exact m5'.2⟩, by rw [y3 36 (by decide)]; exact m6'⟩
  · exact ⟨_, _, h, h, xn cc, (seeM V.1 M.1.1 V.2.2.2.2.1 M.2.2.2.1 w1 w2).1 cc, rfl, Rr_same HH⟩
theorem st34 {N : Nat} (hN : 6600 ≤ N) {nn c : Nat} {h : zH} (hc : c < 512) (H : Rr nn c h) : ∃ (r s : Int) (h1 h2 : zH), fX10_image h = some (r, h1) ∧ fX11_image N h1 = some (s, h2) ∧ zi r = zi s ∧ Rr nn (c + 1) h2 := by
  have HH := H
  obtain ⟨T, D, V, C, M⟩ := H
  obtain ⟨xn, xy⟩ := imageX V.1 V.2.1 C.1
  by_cases c0 : D.1.1 = 0
  · exact ⟨_, _, h, h, xn c0, (imageM V.1 V.2.1 M.1 (N := N) (by omega)).1 c0, rfl, Rr_same HH⟩
  · obtain ⟨h1, x1, x2, x3, x4⟩ := xy (by omega)
    have M1 : RMd (1500 * c) D h1 := RM_eq M (Nat.le_refl _) (EQ_fr x2 (by decide))
    obtain ⟨h2, y1, y2, y3, y4⟩ := (imageM V.1 V.2.1 M1.1 (N := N) (by omega)).2 (by omega)
    obtain ⟨c1, c2, c3, c4, c5, c6, c7, c8⟩ := C
    have row : ∀ b, b ∈ [1, 5, 6, 10, 12, 13, 16, 17, 18, 24, 25, 27, 28, 30, 31, 42, 43, 46, 47, 76] → h1 b = h b := fun b hb => x2 b ((by decide : ∀ b, b ∈ [1, 5, 6, 10, 12, 13, 16, 17, 18, 24, 25, 27, 28, 30, 31, 42, 43, 46, 47, 76] → b ∉ [0, 38, 39]) b hb)
    refine ⟨_, _, h1, h2, x1, y1, rfl, Rr_mk (D' := (D.1, D.2.1, some D.2.1.1, D.2.2.2)) T M x2 (by decide) (by decide) (by rw [row 1 (by decide)]) ⟨V.1, V.2.1, fun a e => by cases e; exact V.2.1.1, V.2.2.2⟩ ⟨CW_fr c1 (by omega) x2 (by decide), x4, OX_to c3 (by rw [row 6 (by decide)]) (row 27 (by decide)) (row 28 (by decide)), NX_to c4 (by rw [row 13 (by decide)]) (row 46 (by decide)) (row 47 (by decide)), KM_to c5 (row 43 (by decide)), ⟨RXl_to c6.1 (by rw [row 5 (by decide)]) (row 24 (by decide)) (row 25 (by decide)), by rw [row 5 (by decide)]; exact c6.2⟩, by rw [x3 14 (by decide)]; exact c7, SHr_to c8 (by rw [row 12 (by decide)]) (by rw [row 12 (by decide)]) (row 76 (by decide))⟩ (fun M1 => ⟨y2, y3 2 (by decide), ?_⟩) (by decide) (by decide)⟩
    obtain ⟨m1', m2', m3', m4', m5', m6'⟩ := M1
    exact ⟨MW_B (MW_14 m1' y2 (by decide) y3 (by decide)) (by omega), MI_B y4 (by omega), OM_to m3' (y3 33 (by decide)) (y2 67 (by decide)) (y2 68 (by decide)), NM_to m4' (y3 46 (by decide)) (y2 73 (by decide)) (y2 74 (by decide)), ⟨RMl_to m5'.1 (y3 13 (by decide)) (fun b hb => y2 b ((by decide : ∀ b, b ∈ [50, 51, 53, 54, 55, 56] → b ∉ [14, 75]) b hb)), by rw [y3 35 (by decide)]; exact m5'.2⟩, by rw [y3 36 (by decide)]; exact m6'⟩
theorem st6 {N : Nat} (hN : 6600 ≤ N) {nn c : Nat} {h : zH} (hc : c < 512) (H : Rr nn c h) {a b : Int} (ha : zw a = a) (hb : zw b = b) : ∃ (r s : Int), fX10_desk N a b h = some r ∧ fX11_desk N a b h = some s ∧ zi r = zi s ∧ Rr nn (c + 1) h := by
  have HH := H
  obtain ⟨T, D, V, C, M⟩ := H
  have hT := V.2.1.1.2.2.2
  have C0 := HRHc V.1 C.1.1 M.1.1
  have I := HRHi C.1.1 M.1.1
  have K : ∃ x, fX10_desk N a b h = some x ∧ fX11_desk N a b h = some x := by
    obtain ⟨⟨c1, c2, c3⟩, b1, b2, b3⟩ := id C0
    have e48 := C.1.2.1.2.1
    have e42 := M.1.2.1.2.1
    have et : fX11_time h = fX8_time 7 h := by
      rw [timX7 e48 (by omega), timM e42 (by omega)]
    unfold fX10_desk fX11_desk
    rw [show fX1_has 2 2 a h = _ from has_eq C0 2 (by decide) ha, ← c2, in_eq ha zw_0 (zw_id (by omega)), in_eq hb zw_0 zw_6, hb, zw_3, zw_4, zw_5, zq, zq, zq, et]
    by_cases h1 : 0 ≤ a ∧ a < h 17 2
    · rw [if_pos h1, if_pos (show 0 ≤ a ∧ a ≤ h 17 2 - 1 by omega)]
      obtain ⟨p, rfl⟩ := Int.eq_ofNat_of_zero_le h1.1
      by_cases h2 : 0 ≤ b ∧ b ≤ 6
      · rw [if_pos h2, if_pos h2.1]
        by_cases h4 : b = 4
        · subst h4
          rw [if_pos rfl, if_pos (by decide), if_pos rfl, bakX7 V.1 V.2.1.1.1 C.1.2.1 (N := N) (by omega) (d := p) (by omega), bakM V.1 M.1.1 V.2.1.1.1 M.1.2.1 (N := N) (by omega) (d := p) (by omega)]
          exact ⟨_, rfl, rfl⟩
        · rw [if_neg h4]
          by_cases h5 : b = 5
          · subst h5
            rw [if_pos rfl, if_pos (by decide), if_neg h4, if_pos rfl, firX7 V.1 V.2.1.1.1 C.1.2.1 (N := N) (by omega) (d := p) (by omega), firM V.1 M.1.1 V.2.1.1.1 M.1.2.1 (by omega) (N := N) (by omega) (d := p) (by omega)]
            exact ⟨_, rfl, rfl⟩
          · rw [if_neg h5]
            by_cases h6 : b = 6
            · subst h6
              rw [if_pos rfl, if_pos (show (4 : Int) ≤ 6 by decide), if_neg h4, if_neg h5, isOpen_core I h1.2 (by omega)]
              by_cases ho : zw (fX1_isOpen 2 (p : Int) (fX8_time 7 h) h) = 0
              · refine ⟨0, if_pos ho, if_pos ho⟩
              · refine ⟨1, if_neg ho, if_neg ho⟩
            · obtain ⟨e, rfl⟩ := Int.eq_ofNat_of_zero_le h2.1
              rw [if_neg h6, if_neg (show ¬ (3 : Int) < (e : Int) by omega), if_neg (show ¬ (4 : Int) ≤ (e : Int) by omega)]
              rw [show (4 * (p : Int)) + (e : Int) = ((4 * p + e : Nat) : Int) by omega, zw_id (show -2147483648 ≤ ((4 * p + e : Nat) : Int) ∧ ((4 * p + e : Nat) : Int) < 2147483648 by omega), if_pos (by omega), Int.toNat_natCast]
              exact ⟨_, rfl, congrArg some ((item_eq 2 p e (by decide) (by omega) (by omega)).trans (I.2.2.1 p e h1.2 (by omega))).symm⟩
      · rw [if_neg h2]
        by_cases h3 : 0 ≤ b
        · rw [if_pos h3, if_neg (show ¬ b = 4 by omega), if_neg (show ¬ b = 5 by omega), if_neg (show ¬ b = 6 by omega), if_pos (show 3 < b by omega)]
          exact ⟨_, rfl, rfl⟩
        · rw [if_neg h3]; exact ⟨_, rfl, rfl⟩
    · rw [if_neg h1, if_neg (show ¬ (0 ≤ a ∧ a ≤ h 17 2 - 1) by omega)]
      exact ⟨_, rfl, rfl⟩
  obtain ⟨x, x1, x2⟩ := K
  exact ⟨x, x, x1, x2, rfl, Rr_same HH⟩
