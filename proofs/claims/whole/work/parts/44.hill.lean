/-! the hill: the class's cells and the reference's lists -/
abbrev RHc (h : zH) : Prop := (h 17 1 = h 14 28 ∧ h 17 2 = h 14 29 ∧ h 17 3 = h 14 30) ∧ (0 ≤ h 17 1 ∧ h 17 1 ≤ 6) ∧ (0 ≤ h 17 2 ∧ h 17 2 ≤ 4) ∧ 0 ≤ h 17 3 ∧ h 17 3 ≤ 8
abbrev RHi (h : zH) : Prop := (∀ k : Nat, k < 2 → 0 < h 17 1 → h 16 k = h 63 k) ∧ (∀ i k : Nat, (i : Int) < h 17 1 → k < 3 → h 16 (32 + 4 * i + k) = h 64 (3 * i + k)) ∧ (∀ i k : Nat, (i : Int) < h 17 2 → k < 4 → h 16 (64 + 4 * i + k) = h 65 (4 * i + k)) ∧ ∀ i k : Nat, (i : Int) < h 17 3 → k < 3 → h 16 (96 + 4 * i + k) = h 66 (3 * i + k)
theorem zq {c : Prop} {_ : Decidable c} {α : Type} {x y : α} : (if zw (if c then (1 : Int) else 0) = 0 then x else y) = (if c then y else x) := by
  by_cases hc : c
  · rw [if_pos hc, if_pos hc]; exact if_neg (by decide)
  · rw [if_neg hc, if_neg hc]; exact if_pos (by decide)
theorem zq' {c : Prop} {_ : Decidable c} {α : Type} {x y : α} : (if zw (if c then (0 : Int) else 1) = 0 then x else y) = (if c then x else y) := by
  by_cases hc : c
  · rw [if_pos hc, if_pos hc]; exact if_pos (by decide)
  · rw [if_neg hc, if_neg hc]; exact if_neg (by decide)
theorem zln_16 : (zln 16 : Int) = 128 := rfl
theorem zln_17 : (zln 17 : Int) = 4 := rfl
theorem many_eq {h : zH} (k : Nat) (hk : k < 4) : fX1_many 2 (k : Int) h = h 17 k := by
  show fX10_at 17 (k : Int) h = _
  rw [at_in (by omega) (by rw [zln_17]; omega)]
  rfl
theorem item_eq {h : zH} (k i c : Nat) (hk : k < 4) (hi : i < 8) (hc : c < 4) : fX1_item 2 (k : Int) (i : Int) (c : Int) h = h 16 (32 * k + 4 * i + c) := by
  show fX10_at 16 ((((k : Int) * 8 + (i : Int)) * 4) + (c : Int)) h = _
  rw [at_in (by omega) (by rw [zln_16]; omega)]
  congr 1
  omega
theorem has_eq {h : zH} (H : RHc h) (k : Nat) (hk : 1 ≤ k ∧ k < 4) {a : Int} (ha : zw a = a) : fX1_has 2 (k : Int) a h = if 0 ≤ a ∧ a < h 17 k then 1 else 0 := by
  have hb : 0 ≤ h 17 k ∧ h 17 k ≤ 8 := by
    have : k = 1 ∨ k = 2 ∨ k = 3 := by omega
    rcases this with rfl | rfl | rfl <;> omega
  unfold fX1_has
  rw [many_eq k hk.2, ha, zw_id (show _ from by omega)]
  by_cases h0 : a < 0
  · rw [if_pos h0, if_neg (by omega)]
  · rw [if_neg h0]
    by_cases h1 : h 17 k ≤ a
    · rw [if_pos h1, if_neg (by omega)]
    · rw [if_neg h1, if_pos (by omega)]
theorem zw_2 : zw 2 = 2 := by decide
theorem zw_8 : zw 8 = 8 := by decide
theorem sun_core {h : zH} (H : RHc h) (I : RHi h) {a : Int} (ha : zw a = a) : fX11_sun a h = some (fX10_sun a h) := by
  obtain ⟨⟨c1, c2, c3⟩, b1, b2, b3⟩ := H
  have e0 : fX10_hasHill h = if h 17 1 ≤ 0 then 0 else 1 := by
    unfold fX10_hasHill
    rw [show fX1_many 2 1 h = h 17 1 from many_eq 1 (by decide), zw_id (show _ from by omega)]
  unfold fX11_sun fX10_sun
  rw [e0, ← c1, zw_id (show -2147483648 ≤ h 17 1 ∧ h 17 1 < 2147483648 from by omega), in_eq ha zw_0 zw_1, ha, zw_1, zq, zq']
  by_cases h1 : h 17 1 ≤ 0
  · rw [if_pos h1, if_pos h1]
  · rw [if_neg h1, if_neg h1]
    by_cases h2 : 0 ≤ a ∧ a ≤ 1
    · rw [if_pos h2, if_pos (show 0 ≤ a ∧ a < 2 by omega), if_neg (show ¬ a < 0 by omega), if_pos h2.2]
      obtain ⟨n, rfl⟩ := Int.eq_ofNat_of_zero_le h2.1
      rw [show fX1_item 2 0 0 (n : Int) h = h 16 (32 * 0 + 4 * 0 + n) from item_eq 0 0 n (by decide) (by decide) (by omega), Int.toNat_natCast]
      have := I.1 n (by omega) (by omega)
      rw [show 32 * 0 + 4 * 0 + n = n by omega, this]
    · rw [if_neg h2]
      by_cases h3 : a < 0
      · rw [if_pos h3]
      · rw [if_neg h3, if_neg (show ¬ a ≤ 1 by omega)]
theorem paper_core {h : zH} (H : RHc h) (I : RHi h) {a b : Int} (ha : zw a = a) (hb : zw b = b) : fX11_paper a b h = some (fX10_paper a b h) := by
  obtain ⟨⟨c1, c2, c3⟩, b1, b2, b3⟩ := id H
  unfold fX11_paper fX10_paper fX11_isPaper zlet
  dsimp only
  rw [show fX1_has 2 3 a h = _ from has_eq H 3 (by decide) ha, ← c3, in_eq ha zw_0 (zw_id (by omega)), in_eq hb zw_0 zw_2, hb, zw_2, zw_8, zq, zq, zq]
  by_cases h1 : 0 ≤ a ∧ a < h 17 3
  · rw [if_pos h1, if_pos (show 0 ≤ a ∧ a ≤ h 17 3 - 1 by omega)]
    by_cases h2 : 0 ≤ b ∧ b ≤ 2
    · rw [if_pos h2, if_neg (show ¬ b < 0 by omega), if_pos h2.2]
      obtain ⟨m, rfl⟩ := Int.eq_ofNat_of_zero_le h1.1
      obtain ⟨n, rfl⟩ := Int.eq_ofNat_of_zero_le h2.1
      have e1 : zw (3 * (m : Int) + (n : Int)) = ((3 * m + n : Nat) : Int) := zw_id (by omega)
      rw [e1, if_pos (show 0 ≤ ((3 * m + n : Nat) : Int) ∧ ((3 * m + n : Nat) : Int) < 24 by omega), Int.toNat_natCast]
      rw [show fX1_item 2 3 (m : Int) (n : Int) h = h 16 (32 * 3 + 4 * m + n) from item_eq 3 m n (by decide) (by omega) (by omega)]
      have e2 := I.2.2.2 m n (by omega) (by omega)
      rw [show 32 * 3 + 4 * m + n = 96 + 4 * m + n by omega, e2]
      by_cases h3 : (n : Int) = 0
      · rw [if_pos (show (n : Int) ≤ 0 by omega), if_pos h3]
      · rw [if_neg (show ¬ (n : Int) ≤ 0 by omega), if_neg h3]
        by_cases h4 : zw (h 66 (3 * m + n)) = 8
        · rw [if_pos h4, if_pos h4]
        · rw [if_neg h4, if_neg h4]
    · rw [if_neg h2]
      by_cases h3 : b < 0
      · rw [if_pos h3]
      · rw [if_neg h3, if_neg (show ¬ b ≤ 2 by omega)]
  · rw [if_neg h1, if_neg (show ¬ (0 ≤ a ∧ a ≤ h 17 3 - 1) by omega)]
