theorem zw_3 : zw 3 = 3 := by decide
theorem zw_4 : zw 4 = 4 := by decide
theorem zw_5 : zw 5 = 5 := by decide
theorem zw_6 : zw 6 = 6 := by decide
theorem isOpen_core {h : zH} (I : RHi h) {p : Nat} (hp : (p : Int) < h 17 2) (hp4 : p < 4) {t : Int} : fX11_isOpen (p : Int) t h = some (fX1_isOpen 2 (p : Int) t h) := by
  have e1 : fX1_item 2 2 (p : Int) 0 h = h 65 (4 * p) := (item_eq 2 p 0 (by decide) (by omega) (by decide)).trans (I.2.2.1 p 0 hp (by decide))
  have e2 : fX1_item 2 2 (p : Int) 1 h = h 65 (4 * p + 1) := (item_eq 2 p 1 (by decide) (by omega) (by decide)).trans (I.2.2.1 p 1 hp (by decide))
  unfold fX11_isOpen fX1_isOpen
  rw [e1, e2, show (4 * (p : Int)) + 0 = ((4 * p : Nat) : Int) by omega, show (4 * (p : Int)) + 1 = ((4 * p + 1 : Nat) : Int) by omega, zw_id (show -2147483648 ≤ ((4 * p : Nat) : Int) ∧ ((4 * p : Nat) : Int) < 2147483648 by omega), zw_id (show -2147483648 ≤ ((4 * p + 1 : Nat) : Int) ∧ ((4 * p + 1 : Nat) : Int) < 2147483648 by omega), if_pos (by omega), Int.toNat_natCast, Int.toNat_natCast]
  by_cases h1 : zw t < zw (h 65 (4 * p))
  · rw [if_pos h1, if_pos h1]
  · rw [if_neg h1, if_neg h1, if_pos (by omega)]
    by_cases h2 : zw (h 65 (4 * p + 1)) ≤ zw t
    · rw [if_pos h2, if_pos h2]
    · rw [if_neg h2, if_neg h2]
theorem desk_core {N : Nat} (hN : 8 ≤ N) {h : zH} (C : RHc h) (I : RHi h) (K : RDk h) (P : RPar (h 17 1) (fun r => h 66 (3 * r)) (h 30) (h 69)) (Q : RQue (h 17 1) (h 30) (h 69)) (T : h 30 48 = h 69 42 ∧ 0 ≤ h 30 48 ∧ h 30 48 < 20000) (hout : ∀ p : Nat, p < 6 → -1 ≤ h 30 (36 + p) ∧ h 30 (36 + p) < 1000) (ht : ∀ p : Nat, p < 6 → zw (h 69 (7 * p + 2)) = h 69 (7 * p + 2)) {a b : Int} (ha : zw a = a) (hb : zw b = b) : ∃ x, fX10_desk N a b h = some x ∧ fX11_desk N a b h = some x := by
  obtain ⟨⟨c1, c2, c3⟩, b1, b2, b3⟩ := id C
  have et : fX11_time h = fX8_time 7 h := by
    rw [timeX_eq (by omega), timeM_eq (by omega), T.1]
  unfold fX10_desk fX11_desk
  rw [show fX1_has 2 2 a h = _ from has_eq C 2 (by decide) ha, ← c2, in_eq ha zw_0 (zw_id (by omega)), in_eq hb zw_0 zw_6, hb, zw_3, zw_4, zw_5, zq, zq, zq, et]
  by_cases h1 : 0 ≤ a ∧ a < h 17 2
  · rw [if_pos h1, if_pos (show 0 ≤ a ∧ a ≤ h 17 2 - 1 by omega)]
    obtain ⟨p, rfl⟩ := Int.eq_ofNat_of_zero_le h1.1
    by_cases h2 : 0 ≤ b ∧ b ≤ 6
    · rw [if_pos h2, if_pos h2.1]
      by_cases h4 : b = 4
      · subst h4
        obtain ⟨x, x1, x2⟩ := backlog_core hN C K P Q hout (d := (p : Int)) (by omega)
        rw [if_pos rfl, if_pos (by decide), if_pos rfl, x1, x2]
        exact ⟨x, rfl, rfl⟩
      · rw [if_neg h4]
        by_cases h5 : b = 5
        · subst h5
          obtain ⟨x, x1, x2⟩ := first_core hN C K P Q hout ht (d := (p : Int)) (by omega)
          rw [if_pos rfl, if_pos (by decide), if_neg h4, if_pos rfl, x1, x2]
          exact ⟨x, rfl, rfl⟩
        · rw [if_neg h5]
          by_cases h6 : b = 6
          · subst h6
            rw [if_pos rfl, if_pos (show (4 : Int) ≤ 6 by decide), if_neg h4, if_neg h5, isOpen_core I h1.2 (by omega)]
            by_cases ho : zw (fX1_isOpen 2 (p : Int) (fX8_time 7 h) h) = 0
            · refine ⟨0, if_pos ho, if_pos ho⟩
            · refine ⟨1, if_neg ho, if_neg ho⟩
          · obtain ⟨c, rfl⟩ := Int.eq_ofNat_of_zero_le h2.1
            rw [if_neg h6, if_neg (show ¬ (3 : Int) < (c : Int) by omega), if_neg (show ¬ (4 : Int) ≤ (c : Int) by omega)]
            rw [show (4 * (p : Int)) + (c : Int) = ((4 * p + c : Nat) : Int) by omega, zw_id (show -2147483648 ≤ ((4 * p + c : Nat) : Int) ∧ ((4 * p + c : Nat) : Int) < 2147483648 by omega), if_pos (by omega), Int.toNat_natCast]
            exact ⟨_, rfl, congrArg some ((item_eq 2 p c (by decide) (by omega) (by omega)).trans (I.2.2.1 p c h1.2 (by omega))).symm⟩
    · rw [if_neg h2]
      by_cases h3 : 0 ≤ b
      · rw [if_pos h3, if_neg (show ¬ b = 4 by omega), if_neg (show ¬ b = 5 by omega), if_neg (show ¬ b = 6 by omega), if_pos (show 3 < b by omega)]
        exact ⟨_, rfl, rfl⟩
      · rw [if_neg h3]; exact ⟨_, rfl, rfl⟩
  · rw [if_neg h1, if_neg (show ¬ (0 ≤ a ∧ a ≤ h 17 2 - 1) by omega)]
    exact ⟨_, rfl, rfl⟩
