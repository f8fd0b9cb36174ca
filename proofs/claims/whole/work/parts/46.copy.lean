/-! copies of rows -/
theorem zcopy_0 {h : zH} {o sp o2 dp : Nat} : zcopy h o sp o2 dp 0 = h := by
  funext a
  unfold zcopy
  by_cases ha : a = o2
  · subst ha
    rw [if_pos rfl]
    funext j
    exact if_neg (by omega)
  · exact if_neg ha
theorem zcopy_ne {h : zH} {o sp o2 dp n a : Nat} (ha : a ≠ o2) : zcopy h o sp o2 dp n a = h a := if_neg ha
theorem zcopy_succ {h : zH} {o sp o2 dp l : Nat} (d : o ≠ o2) : zs (zcopy h o sp o2 dp l) o2 (dp + l) (zcopy h o sp o2 dp l o (sp + l)) = zcopy h o sp o2 dp (l + 1) := by
  funext a
  by_cases ha : a = o2
  · subst ha
    funext j
    rw [zs_row, zcopy_ne d]
    show (if j = dp + l then h o (sp + l) else zcopy h o sp a dp l a j) = zcopy h o sp a dp (l + 1) a j
    rw [zcopy_row, zcopy_row]
    by_cases hj : j = dp + l
    · rw [if_pos hj, if_pos (by omega), show sp + (j - dp) = sp + l by omega]
    · rw [if_neg hj]
      by_cases h2 : dp ≤ j ∧ j < dp + l
      · rw [if_pos h2, if_pos (by omega)]
      · rw [if_neg h2, if_neg (by omega)]
  · rw [zs_row_ne ha, zcopy_ne ha, zcopy_ne ha]
theorem zcopy_in {h : zH} {o sp o2 dp n j : Nat} (hj : j < n) : zcopy h o sp o2 dp n o2 (dp + j) = h o (sp + j) := by
  rw [zcopy_row, if_pos (by omega), show dp + j - dp = j by omega]
theorem zcopy_out {h : zH} {o sp o2 dp n j : Nat} (hj : j < dp ∨ dp + n ≤ j) : zcopy h o sp o2 dp n o2 j = h o2 j := by
  rw [zcopy_row, if_neg (by omega)]
/-- a loop that copies a row, one place a turn -/
theorem copy_loop {β : Type} {o sp o2 dp n : Nat} (d : o ≠ o2) (F : Nat → Int → zH → β) (E : zH → β) (h : zH)
    (step : ∀ (k l : Nat) (g : zH), l < n → (∀ a, a ≠ o2 → g a = h a) → F (k + 1) (l : Int) g = F k ((l + 1 : Nat) : Int) (zs g o2 (dp + l) (g o (sp + l)))) (last : ∀ (k : Nat) (g : zH), (∀ a, a ≠ o2 → g a = h a) → F (k + 1) (n : Int) g = E g) : ∀ (k l M : Nat), l + k = n → F (M + k + 1) (l : Int) (zcopy h o sp o2 dp l) = E (zcopy h o sp o2 dp n) := by
  intro k
  induction k with
  | zero =>
    intro l M hl
    have : l = n := by omega
    subst this
    exact last M _ (fun a ha => zcopy_ne ha)
  | succ k ih =>
    intro l M hl
    have h1 := step (M + k + 1) l (zcopy h o sp o2 dp l) (by omega) (fun a ha => zcopy_ne ha)
    rw [zcopy_succ d] at h1
    exact h1.trans (ih (l + 1) M (by omega))
theorem zw_165 : zw 165 = 165 := by decide
theorem imageM_eq {N : Nat} (hN : 166 ≤ N) (h : zH) : fX11_image_c11 N N 0 h = some (zs (zcopy h 69 0 75 0 165) 14 49 1 69 42, zs (zcopy h 69 0 75 0 165) 14 49 1) := by
  have H := copy_loop (o := 69) (sp := 0) (o2 := 75) (dp := 0) (n := 165) (by decide) (fun k l g => fX11_image_c11 N k l g) (fun g => some (zs g 14 49 1 69 42, zs g 14 49 1)) h ?_ ?_ 165 0 (N - 166) rfl
  · rw [zcopy_0, show N - 166 + 165 + 1 = N by omega] at H
    exact H
  · intro k l g hl _
    show fX11_image_c11b N (fX11_image_c11 N k) (l : Int) g = _
    unfold fX11_image_c11b zlet
    dsimp only
    rw [zw_165, zw_id (show -2147483648 ≤ (l : Int) ∧ (l : Int) < 2147483648 by omega), if_neg (by omega), if_pos (by omega), if_pos (by omega), Int.toNat_natCast, Nat.zero_add]
    rfl
  · intro k g _
    show fX11_image_c11b N (fX11_image_c11 N k) (165 : Int) g = _
    unfold fX11_image_c11b zlet
    dsimp only
    rw [if_pos (by decide)]
theorem backM_eq {N : Nat} (hN : 166 ≤ N) (h : zH) : fX11_back_c11 N N 0 h = some (zs (zcopy h 75 0 69 0 165) 14 38 0 69 42, zs (zcopy h 75 0 69 0 165) 14 38 0) := by
  have H := copy_loop (o := 75) (sp := 0) (o2 := 69) (dp := 0) (n := 165) (by decide) (fun k l g => fX11_back_c11 N k l g) (fun g => some (zs g 14 38 0 69 42, zs g 14 38 0)) h ?_ ?_ 165 0 (N - 166) rfl
  · rw [zcopy_0, show N - 166 + 165 + 1 = N by omega] at H
    exact H
  · intro k l g hl _
    show fX11_back_c11b N (fX11_back_c11 N k) (l : Int) g = _
    unfold fX11_back_c11b zlet
    dsimp only
    rw [zw_165, zw_id (show -2147483648 ≤ (l : Int) ∧ (l : Int) < 2147483648 by omega), if_neg (by omega), if_pos (by omega), if_pos (by omega), Int.toNat_natCast, Nat.zero_add]
    rfl
  · intro k g _
    show fX11_back_c11b N (fX11_back_c11 N k) (165 : Int) g = _
    unfold fX11_back_c11b zlet
    dsimp only
    rw [if_pos (by decide)]
theorem undoM_eq {N : Nat} (hN : 166 ≤ N) (h : zH) {m : Nat} (hm : h 14 38 = (m : Int)) (hm2 : m < 40) : fX11_undo_c21 N N 0 h = some (h 14 38, zcopy h 70 (165 * m) 69 0 165) := by
  have H := copy_loop (o := 70) (sp := 165 * m) (o2 := 69) (dp := 0) (n := 165) (by decide) (fun k l g => fX11_undo_c21 N k l g) (fun g => some (g 14 38, g)) h ?_ ?_ 165 0 (N - 166) rfl
  · rw [zcopy_0, show N - 166 + 165 + 1 = N by omega] at H
    exact H
  · intro k l g hl hg
    show fX11_undo_c21b N (fX11_undo_c21 N k) (l : Int) g = _
    unfold fX11_undo_c21b zlet
    dsimp only
    rw [zw_165, hg 14 (by decide), hm, zw_id (show -2147483648 ≤ (l : Int) ∧ (l : Int) < 2147483648 by omega), zw_id (show -2147483648 ≤ 165 * (m : Int) + (l : Int) ∧ 165 * (m : Int) + (l : Int) < 2147483648 by omega), if_neg (by omega), if_pos (by omega), if_pos (by omega), Int.toNat_natCast, Nat.zero_add, show (165 * (m : Int) + (l : Int)).toNat = 165 * m + l by omega]
    rfl
  · intro k g hg
    show fX11_undo_c21b N (fX11_undo_c21 N k) (165 : Int) g = _
    unfold fX11_undo_c21b
    rw [if_pos (by decide)]
theorem keepM_eq {N : Nat} (hN : 166 ≤ N) (h : zH) {m : Nat} (hm : h 14 38 = (m : Int)) (hm2 : m < 40) : fX11_keep_c54 N N 0 h = some (zs (zcopy h 69 0 70 (165 * m) 165) 14 38 (h 14 38 + 1)) := by
  have H := copy_loop (o := 69) (sp := 0) (o2 := 70) (dp := 165 * m) (n := 165) (by decide) (fun k l g => fX11_keep_c54 N k l g) (fun g => some (zs g 14 38 (g 14 38 + 1))) h ?_ ?_ 165 0 (N - 166) rfl
  · rw [zcopy_0, show N - 166 + 165 + 1 = N by omega] at H
    exact H
  · intro k l g hl hg
    show fX11_keep_c54b N (fX11_keep_c54 N k) (l : Int) g = _
    unfold fX11_keep_c54b zlet
    dsimp only
    rw [zw_165, hg 14 (by decide), hm, zw_id (show -2147483648 ≤ (l : Int) ∧ (l : Int) < 2147483648 by omega), zw_id (show -2147483648 ≤ 165 * (m : Int) + (l : Int) ∧ 165 * (m : Int) + (l : Int) < 2147483648 by omega), if_neg (by omega), if_pos (by omega), if_pos (by omega), Int.toNat_natCast, Nat.zero_add, show (165 * (m : Int) + (l : Int)).toNat = 165 * m + l by omega]
    rfl
  · intro k g hg
    show fX11_keep_c54b N (fX11_keep_c54 N k) (165 : Int) g = _
    unfold fX11_keep_c54b zlet
    dsimp only
    rw [if_pos (by decide)]
