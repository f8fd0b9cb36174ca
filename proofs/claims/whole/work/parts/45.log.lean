/-! the log of lights -/
theorem zshr_tab : ∀ s : Nat, s < 32 → (((zi (s : Int)) &&& 31).toBitVec.smod 32#32).toNat = s := by decide +kernel
theorem zshr_eq (a : Int) (s : Nat) (hs : s < 32) : zshr a (s : Int) = zw a / 2 ^ s := by
  unfold zshr
  rw [← Int32.toInt_toBitVec, Int32.toBitVec_shiftRight]
  have e : (zi a).toBitVec.sshiftRight' (((zi (s : Int)) &&& 31).toBitVec.smod ((32 : Nat) : BitVec 32)) = (zi a).toBitVec.sshiftRight s := by
    show (zi a).toBitVec.sshiftRight _ = _
    exact congrArg _ (zshr_tab s hs)
  rw [show ((zi a).toBitVec.sshiftRight' (((zi (s : Int)) &&& 31).toBitVec.smod 32)) = (zi a).toBitVec.sshiftRight s from e, BitVec.toInt_sshiftRight, Int.shiftRight_eq_div_pow]
  rfl
theorem zand63 {w u : Int} (h1 : 0 ≤ w ∧ w < 64) (h2 : 0 ≤ u ∧ u < 30000000) : zand (64 * u + w) 63 = w := by
  obtain ⟨a, rfl⟩ := Int.eq_ofNat_of_zero_le h1.1
  obtain ⟨b, rfl⟩ := Int.eq_ofNat_of_zero_le h2.1
  have e : zand ((64 * b + a : Nat) : Int) ((63 : Nat) : Int) = _ := zand_nat (by omega) (by omega)
  rw [show (64 * (b : Int) + (a : Int)) = ((64 * b + a : Nat) : Int) by omega, show (63 : Int) = ((63 : Nat) : Int) from rfl, e]
  have e2 : (64 * b + a) &&& 63 = (64 * b + a) % 2 ^ 6 := Nat.and_two_pow_sub_one_eq_mod _ 6
  rw [e2]
  omega
theorem min_eq {a b : Int} (ha : zw a = a) (hb : zw b = b) : fJ9_min_7cf53 a b = if a ≤ b then a else b := by
  unfold fJ9_min_7cf53
  rw [ha, hb]
  by_cases h : a < b
  · first
    | rw [if_pos h, if_pos (by omega)]
    | (rw [if_neg (by omega), if_pos (by omega)])
  · by_cases h2 : a = b
    · subst h2
      first
      | rw [if_neg h, if_pos (by omega)]
      | (rw [if_pos (by omega), if_pos (by omega)])
    · first
      | rw [if_neg h, if_neg (by omega)]
      | (rw [if_pos (by omega), if_neg (by omega)])
/-- the log of a state: the class's cells and days, the reference's numbers -/
def RLog (rc rd m : Nat → Int) : Prop := (0 ≤ rc 50 ∧ rc 50 ≤ 420) ∧ m 44 = (if rc 50 ≤ 60 then rc 50 else 60) ∧ ∀ i : Nat, (i : Int) < m 44 → rd ((rc 50 - m 44).toNat + i) = 64 * m (46 + 2 * i) + m (45 + 2 * i) ∧ (0 ≤ m (45 + 2 * i) ∧ m (45 + 2 * i) < 64) ∧ 0 ≤ m (46 + 2 * i) ∧ m (46 + 2 * i) < 30000000
theorem zw_60 : zw 60 = 60 := by decide
theorem log_core {h : zH} (H : RLog (h 30) (h 31) (h 69)) {a b : Int} (ha : zw a = a) (hb : zw b = b) : fX11_log a b h = some (fX10_log a b h) := by
  obtain ⟨g1, g2, g3⟩ := H
  have eL : fX8_logLength 7 h = h 69 44 := by
    show fJ9_min_7cf53 (h 30 50) 60 = _
    rw [min_eq (zw_id (by omega)) zw_60, g2]
  have hL : 0 ≤ h 69 44 ∧ h 69 44 ≤ 60 ∧ h 69 44 ≤ h 30 50 := by
    rw [g2]; split <;> omega
  have eLw : zw (h 69 44) = h 69 44 := zw_id (by omega)
  unfold fX11_log fX10_log zlet
  dsimp only
  rw [in_eq ha zw_0 (zw_id (by omega)), in_eq hb zw_0 zw_1, zq, zq, eL, eLw, ha, hb, zw_1]
  by_cases h1 : 0 ≤ a ∧ a ≤ h 69 44 - 1
  · rw [if_pos h1, if_neg (show ¬ a < 0 by omega), if_neg (show ¬ h 69 44 ≤ a by omega)]
    by_cases h2 : 0 ≤ b ∧ b ≤ 1
    · rw [if_pos h2, if_neg (show ¬ b < 0 by omega), if_pos h2.2]
      have hidx : 0 ≤ (45 + 2 * (h 69 44 - 1 - a)) + b ∧ (45 + 2 * (h 69 44 - 1 - a)) + b < 165 := by omega
      rw [zw_id (show -2147483648 ≤ (45 + 2 * (h 69 44 - 1 - a)) + b ∧ (45 + 2 * (h 69 44 - 1 - a)) + b < 2147483648 by omega), if_pos hidx]
      obtain ⟨i, hi⟩ := Int.eq_ofNat_of_zero_le (show 0 ≤ h 69 44 - 1 - a by omega)
      rw [hi]
      obtain ⟨r1, r2, r3⟩ := g3 i (by omega)
      have eat : fX10_at 31 ((h 30 50 - h 69 44) + (i : Int)) h = 64 * h 69 (46 + 2 * i) + h 69 (45 + 2 * i) := by
        rw [at_in (by omega) (by show _ < (420 : Int); omega), ← r1]
        congr 1
        omega
      by_cases h3 : b = 0
      · subst h3
        rw [if_pos rfl]
        have e1 : fX8_whoHadLight 7 (i : Int) h = h 69 (45 + 2 * i) := by
          show zand (fX10_at 31 ((h 30 50 - fX8_logLength 7 h) + (i : Int)) h) 63 = _
          rw [eL, eat]
          exact zand63 r2 r3
        rw [e1]
        congr 2 <;> omega
      · rw [if_neg h3]
        have e1 : fX8_hoursOfLight 7 (i : Int) h = h 69 (46 + 2 * i) := by
          show zshr (fX10_at 31 ((h 30 50 - fX8_logLength 7 h) + (i : Int)) h) 6 = _
          rw [eL, eat]
          have e2 := zshr_eq (64 * h 69 (46 + 2 * i) + h 69 (45 + 2 * i)) 6 (by decide)
          rw [show ((6 : Nat) : Int) = 6 from rfl] at e2
          rw [e2, zw_id (by omega)]
          omega
        rw [e1]
        congr 2 <;> omega
    · rw [if_neg h2]
      by_cases h3 : b < 0
      · rw [if_pos h3]
      · rw [if_neg h3, if_neg (show ¬ b ≤ 1 by omega)]
  · rw [if_neg h1]
    by_cases h2 : a < 0
    · rw [if_pos h2]
    · rw [if_neg h2, if_pos (show h 69 44 ≤ a by omega)]
