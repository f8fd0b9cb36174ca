/-! the tally of a parish -/
def parV (t : Nat → Nat) (a : hSt) (p w : Nat) : Int := if w = 0 then (t (32 + 4 * p) : Int) else if w = 1 then (t (33 + 4 * p) : Int) else if w = 2 then (t (34 + 4 * p) : Int) else if w = 3 then (aH a p : Int) else if w = 4 then aW a p else if w = 5 then (aD a p : Int) else if w = 6 then aS a p else if w = 7 then aP a p else aR a p
theorem parX {np nd nr : Nat} {t : Nat → Nat} {a : hSt} {h : zH} (V : HV np nd nr t) (X : HX np nd nr t h) (S : XS np t a (h 30)) {p w : Nat} (hp : p < np) (hw : w ≤ 8) : (if zw (w : Int) ≤ zw 2 then fX1_item 2 1 (p : Int) (w : Int) h else fX8_of 7 (((w : Int) - 2) - 1) (p : Int) h) = parV t a p w := by
  have vv := V.1
  rw [zw_n9 (by omega), show zw 2 = 2 by decide]
  obtain ⟨s1, s2, s3, s4, s5, s6, s7⟩ := S.1 p hp
  have of (k : Nat) (hk : k < 6) : fX8_of 7 (k : Int) (p : Int) h = h 30 (6 * k + p) := by
    show fX10_at 30 (((k : Int) * 6) + (p : Int)) h = _
    rw [at_in (by omega) (by show _ < ((51 : Nat) : Int); omega), show ((k : Int) * 6 + (p : Int)).toNat = 6 * k + p by omega]
  unfold parV
  by_cases c2 : w ≤ 2
  · rw [if_pos (by omega)]
    rcases (show w = 0 ∨ w = 1 ∨ w = 2 by omega) with e | e | e <;> subst e
    · exact xi10 V X hp
    · exact xi11 V X hp
    · exact xi12 V X hp
  · rw [if_neg (by omega)]
    rcases (show w = 3 ∨ w = 4 ∨ w = 5 ∨ w = 6 ∨ w = 7 ∨ w = 8 by omega) with e | e | e | e | e | e <;> subst e
    · exact (of 0 (by decide)).trans (by rw [show 6 * 0 + p = p by omega]; exact s1)
    · exact (of 1 (by decide)).trans s2
    · exact (of 2 (by decide)).trans s3
    · exact (of 3 (by decide)).trans s4
    · exact (of 4 (by decide)).trans s5
    · exact (of 5 (by decide)).trans s6
theorem parM {np nd nr B : Nat} {t : Nat → Nat} {a : hSt} {g : zH} (V : HV np nd nr t) (M : HM np nd nr t g) (S : MS np B a (g 69)) {x y : Int} (hx : zw x = x) (hy : zw y = y) : (¬ ((0 ≤ x ∧ x < np) ∧ 0 ≤ y ∧ y ≤ 8) → fX11_parish x y g = some (0, zs g 14 0 1)) ∧ ((0 ≤ x ∧ x < np) ∧ 0 ≤ y ∧ y ≤ 8 → fX11_parish x y g = some (parV t a x.toNat y.toNat, zs g 14 0 0)) := by
  have vv := V.1
  have hin : fX11_isParish x g = if 0 ≤ x ∧ x ≤ (np : Int) - 1 then 1 else 0 := by
    unfold fX11_isParish
    rw [M.1.1, in_eq hx zw_0 (zw_id (by omega))]
  have no : fX11_parish_c24 x y 1 g = some (0, zs g 14 0 1) := by
    unfold fX11_parish_c24
    rw [zlet_v, zs_at, if_pos rfl]
  unfold fX11_parish
  rw [hin, in_eq hy zw_0 (zw_id (by omega))]
  constructor
  · intro h
    by_cases c : 0 ≤ x ∧ x ≤ (np : Int) - 1
    · rw [if_pos c, if_neg (show ¬ zw 1 = 0 by decide), if_neg (show ¬ (0 ≤ y ∧ y ≤ 8) by omega), if_pos zw_0, no]
    · rw [if_neg c, if_pos zw_0, no]
  · intro h
    rw [if_pos (show 0 ≤ x ∧ x ≤ (np : Int) - 1 by omega), if_neg (show ¬ zw 1 = 0 by decide), if_pos (show 0 ≤ y ∧ y ≤ 8 by omega), if_neg (show ¬ zw 1 = 0 by decide)]
    obtain ⟨p, rfl⟩ := Int.eq_ofNat_of_zero_le h.1.1
    obtain ⟨w, rfl⟩ := Int.eq_ofNat_of_zero_le h.2.1
    have hp : p < np := by omega
    obtain ⟨s1, s2, s3, s4, s5, s6⟩ := S.1 p hp
    unfold fX11_parish_c24 parV
    rw [zlet_v, zs_at, if_neg (show ¬ zw 0 = zw 1 by decide), Int.toNat_natCast, Int.toNat_natCast, zw_n9 (show w < 1000000000 by omega)]
    have of (k : Nat) (hk : k < 7) : fX11_of (p : Int) (k : Int) (zs g 14 0 0) = some (g 69 (7 * p + k)) := by
      unfold fX11_of
      rw [show (7 * (p : Int)) + (k : Int) = ((7 * p + k : Nat) : Int) by omega, zw_n9 (by omega), if_pos (by omega), Int.toNat_natCast, zs_row_ne (by decide)]
    have it (k : Nat) (hk : k < 3) : (if 0 ≤ zw ((3 * (p : Int)) + (k : Int)) ∧ zw ((3 * (p : Int)) + (k : Int)) < 18 then some ((zs g 14 0 0) 64 (zw ((3 * (p : Int)) + (k : Int))).toNat, zs g 14 0 0) else none) = some ((t (32 + 4 * p + k) : Int), zs g 14 0 0) := by
      rw [show (3 * (p : Int)) + (k : Int) = ((3 * p + k : Nat) : Int) by omega, zw_n9 (by omega), if_pos (by omega), Int.toNat_natCast, zs_row_ne (by decide), M.2.2.1 p k hp hk]
    rcases (show w = 0 ∨ w = 1 ∨ w = 2 ∨ w = 3 ∨ w = 4 ∨ w = 5 ∨ w = 6 ∨ w = 7 ∨ w = 8 by omega) with e | e | e | e | e | e | e | e | e <;> subst e
    · exact it 0 (by decide)
    · exact (it 1 (by decide)).trans (by rw [show 32 + 4 * p + 1 = 33 + 4 * p by omega]; rfl)
    · exact (it 2 (by decide)).trans (by rw [show 32 + 4 * p + 2 = 34 + 4 * p by omega]; rfl)
    · show (zb (fX11_of (p : Int) ((0 : Nat) : Int) (zs g 14 0 0)) fun v10 => some (v10, zs g 14 0 0)) = _
      rw [of 0 (by decide), zb_some, show 7 * p + 0 = 7 * p by omega, s1]; rfl
    · show (zb (fX11_of (p : Int) ((1 : Nat) : Int) (zs g 14 0 0)) fun v10 => some (v10, zs g 14 0 0)) = _
      rw [of 1 (by decide), zb_some, s2]; rfl
    · show (zb (fX11_of (p : Int) ((3 : Nat) : Int) (zs g 14 0 0)) fun v10 => some (v10, zs g 14 0 0)) = _
      rw [of 3 (by decide), zb_some, s3]; rfl
    · show (zb (fX11_of (p : Int) ((4 : Nat) : Int) (zs g 14 0 0)) fun v10 => some (v10, zs g 14 0 0)) = _
      rw [of 4 (by decide), zb_some, s4]; rfl
    · show (zb (fX11_of (p : Int) ((5 : Nat) : Int) (zs g 14 0 0)) fun v10 => some (v10, zs g 14 0 0)) = _
      rw [of 5 (by decide), zb_some, s5]; rfl
    · show (zb (fX11_of (p : Int) ((6 : Nat) : Int) (zs g 14 0 0)) fun v10 => some (v10, zs g 14 0 0)) = _
      rw [of 6 (by decide), zb_some, s6]; rfl
/-- the reference has marked whether it would throw -/
theorem Rr_par {nn c : Nat} {h : zH} (H : Rr nn c h) (x : Int) : Rr nn (c + 1) (zs h 14 0 x) := by
  obtain ⟨T, D, V, C, M⟩ := H
  have row : ∀ b, b ≠ 14 → zs h 14 0 x b = h b := fun b hb => zs_row_ne hb
  refine ⟨RT_to T (by rw [row 1 (by decide)]) (row 15 (by decide)) (zs_ne (by decide)) (row 49 (by decide)), D, V, RC_eq C (by omega) (fun b hb => row b (fun e => by rw [e] at hb; revert hb; decide)), RM_to M (by omega) (fun b hb => row b (fun e => by rw [e] at hb; revert hb; decide)) (fun j hj => zs_ne (fun e => by rw [e] at hj; revert hj; decide))⟩
