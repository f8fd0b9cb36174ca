/-! a row that moves down by s places -/
def zdown (h : zH) (o s l : Nat) : zH := fun a => if a = o then (fun j => if j < l then h o (j + s) else h o j) else h a
theorem zdown_row {h : zH} {o s l j : Nat} : zdown h o s l o j = if j < l then h o (j + s) else h o j := by unfold zdown; rw [if_pos rfl]
theorem zdown_ne {h : zH} {o s l a : Nat} (ha : a ≠ o) : zdown h o s l a = h a := if_neg ha
theorem zdown_0 {h : zH} {o s : Nat} : zdown h o s 0 = h := by
  funext a
  by_cases ha : a = o
  · subst ha; funext j; rw [zdown_row, if_neg (by omega)]
  · exact zdown_ne ha
theorem zdown_succ {h : zH} {o s l : Nat} : zs (zdown h o s l) o l (zdown h o s l o (s + l)) = zdown h o s (l + 1) := by
  funext a
  by_cases ha : a = o
  · subst ha
    funext j
    rw [zs_row]
    show (if j = l then zdown h a s l a (s + l) else zdown h a s l a j) = zdown h a s (l + 1) a j
    rw [zdown_row, zdown_row, zdown_row, if_neg (show ¬ s + l < l by omega)]
    by_cases hj : j = l
    · rw [if_pos hj, if_pos (show j < l + 1 by omega), hj, Nat.add_comm]
    · rw [if_neg hj]
      by_cases h2 : j < l
      · rw [if_pos h2, if_pos (by omega)]
      · rw [if_neg h2, if_neg (by omega)]
  · rw [zs_row_ne ha, zdown_ne ha, zdown_ne ha]
theorem down_loop {β : Type} {o s n : Nat} (F : Nat → Int → zH → β) (E : zH → β) (h : zH)
    (step : ∀ (k l : Nat) (g : zH), l < n → (∀ a, a ≠ o → g a = h a) → F (k + 1) ((s + l : Nat) : Int) g = F k ((s + (l + 1) : Nat) : Int) (zs g o l (g o (s + l)))) (last : ∀ (k : Nat) (g : zH), (∀ a, a ≠ o → g a = h a) → F (k + 1) ((s + n : Nat) : Int) g = E g) : ∀ (k l M : Nat), l + k = n → F (M + k + 1) ((s + l : Nat) : Int) (zdown h o s l) = E (zdown h o s n) := by
  intro k
  induction k with
  | zero =>
    intro l M hl
    have : l = n := by omega
    subst this
    exact last M _ (fun a ha => zdown_ne ha)
  | succ k ih =>
    intro l M hl
    have h1 := step (M + k + 1) l (zdown h o s l) (by omega) (fun a ha => zdown_ne ha)
    rw [zdown_succ] at h1
    exact h1.trans (ih (l + 1) M (by omega))
theorem zw_6600 : zw 6600 = 6600 := by decide
theorem keepM_full {N : Nat} (hN : 6436 ≤ N) (h : zH) (hm : h 14 38 = 40) : fX11_keep_c13 N N 165 h = some (zs (zcopy (zs (zdown h 70 165 6435) 14 38 39) 69 0 70 (165 * 39) 165) 14 38 40) := by
  have H := down_loop (o := 70) (s := 165) (n := 6435) (fun k l g => fX11_keep_c13 N k l g) (fun g => fX11_keep_c54 N N 0 (zs g 14 38 (g 14 38 - 1))) h ?_ ?_ 6435 0 (N - 6436) rfl
  · rw [zdown_0, show N - 6436 + 6435 + 1 = N by omega] at H
    refine H.trans ?_
    have e : zdown h 70 165 6435 14 38 = 40 := by rw [zdown_ne (by decide)]; exact hm
    rw [e, show (40 : Int) - 1 = 39 from rfl]
    have e2 : zs (zdown h 70 165 6435) 14 38 39 14 38 = ((39 : Nat) : Int) := zs_at
    refine (keepM_eq (by omega) _ e2 (by decide)).trans ?_
    rw [e2]
    rfl
  · intro k l g hl hg
    show fX11_keep_c13b N (fX11_keep_c13 N k) ((165 + l : Nat) : Int) g = _
    unfold fX11_keep_c13b zlet
    dsimp only
    rw [zw_6600, zw_id (show -2147483648 ≤ ((165 + l : Nat) : Int) ∧ ((165 + l : Nat) : Int) < 2147483648 by omega), zw_id (show -2147483648 ≤ ((165 + l : Nat) : Int) - 165 ∧ ((165 + l : Nat) : Int) - 165 < 2147483648 by omega), if_neg (by omega), if_pos (by omega), if_pos (by omega), Int.toNat_natCast, show (((165 + l : Nat) : Int) - 165).toNat = l by omega]
    rfl
  · intro k g hg
    show fX11_keep_c13b N (fX11_keep_c13 N k) (6600 : Int) g = _
    unfold fX11_keep_c13b zlet
    dsimp only
    rw [if_pos (by decide)]
/-! the class's copies of states -/
theorem takeX_now_kept (h : zH) : fX8_take 9 7 h = some (zcopy (zcopy h 30 0 38 0 51) 31 0 39 0 420) := by
  unfold fX8_take zlet
  dsimp only
  rw [if_pos (by decide), if_pos (by decide)]
  rfl
theorem takeX_kept_now (h : zH) : fX8_take 7 9 h = some (zcopy (zcopy h 38 0 30 0 51) 39 0 31 0 420) := by
  unfold fX8_take zlet
  dsimp only
  rw [if_pos (by decide), if_pos (by decide)]
  rfl
