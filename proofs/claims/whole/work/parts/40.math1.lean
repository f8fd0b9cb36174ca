/-! numbers: the machine's operations over small numbers -/
theorem zB_ofInt (n : Nat) : BitVec.ofInt 32 (n : Int) = BitVec.ofNat 32 n := by simp
theorem zi_bv (a : Int) : (zi a).toBitVec = BitVec.ofInt 32 a := rfl
theorem zI_of_toNat {x : Int32} {n : Nat} (h : x.toBitVec.toNat = n) (hn : n < 2147483648) : x.toInt = n := by
  rw [← Int32.toInt_toBitVec, BitVec.toInt_eq_toNat_of_lt (by rw [h]; omega), h]
theorem zi_toNat {n : Nat} (hn : n < 4294967296) : (zi (n : Int)).toBitVec.toNat = n := by
  rw [zi_bv, zB_ofInt, BitVec.toNat_ofNat]
  exact Nat.mod_eq_of_lt hn
theorem zand_nat {a b : Nat} (ha : a < 2147483648) (hb : b < 2147483648) : zand (a : Int) (b : Int) = ((a &&& b : Nat) : Int) := by
  refine zI_of_toNat ?_ (Nat.lt_of_le_of_lt Nat.and_le_left ha)
  rw [Int32.toBitVec_and, BitVec.toNat_and, zi_toNat (by omega), zi_toNat (by omega)]
theorem zor_nat {a b : Nat} (ha : a < 2147483648) (hb : b < 2147483648) : zor (a : Int) (b : Int) = ((a ||| b : Nat) : Int) := by
  refine zI_of_toNat ?_ (Nat.or_lt_two_pow (n := 31) ha hb)
  rw [Int32.toBitVec_or, BitVec.toNat_or, zi_toNat (by omega), zi_toNat (by omega)]
/-- what is in a and not in b -/
def bdiff (a b : Nat) : Nat := a &&& (b ^^^ 4294967295)
theorem bdiff_bit (a b i : Nat) (hi : i < 32) : (bdiff a b).testBit i = (a.testBit i && !b.testBit i) := by
  have h : (4294967295 : Nat).testBit i = true := by
    have : (4294967295 : Nat) = 2 ^ 32 - 1 := rfl
    rw [this, Nat.testBit_two_pow_sub_one]
    simpa using hi
  unfold bdiff
  rw [Nat.testBit_and, Nat.testBit_xor, h]
  cases b.testBit i <;> simp
theorem bdiff_le (a b : Nat) : bdiff a b ≤ a := Nat.and_le_left
theorem zandn_nat {a b : Nat} (ha : a < 2147483648) (hb : b < 2147483648) : zand (a : Int) (zxor (b : Int) (-1)) = (bdiff a b : Int) := by
  refine zI_of_toNat ?_ (Nat.lt_of_le_of_lt (bdiff_le a b) ha)
  rw [Int32.toBitVec_and, BitVec.toNat_and, zi_toNat (by omega)]
  unfold zxor
  rw [zi_toInt, Int32.toBitVec_xor, BitVec.toNat_xor, zi_toNat (by omega)]
  rfl
theorem zdiv_pos {a b : Int} (ha : 0 ≤ a) (ha2 : a < 2147483648) (hb : 0 < b) (hb2 : b < 2147483648) : zdiv a b = a / b := by
  unfold zdiv
  rw [Int32.toInt_div]
  have e1 : (zi a).toInt = a := zw_id (by omega)
  have e2 : (zi b).toInt = b := zw_id (by omega)
  rw [e1, e2, Int.tdiv_eq_ediv_of_nonneg ha]
  have h1 : 0 ≤ a / b := Int.ediv_nonneg ha (by omega)
  have h2 : a / b ≤ a := Int.ediv_le_self _ ha
  exact Int.bmod_eq_of_le (by omega) (by omega)
theorem zrem_pos {a b : Int} (ha : 0 ≤ a) (ha2 : a < 2147483648) (hb : 0 < b) (hb2 : b < 2147483648) : zrem a b = a % b := by
  have h0 := zdiv_pos ha ha2 hb hb2
  have h1 : 0 ≤ a / b := Int.ediv_nonneg ha (by omega)
  have h2 : a / b ≤ a := Int.ediv_le_self _ ha
  have h3 := Int.emod_nonneg a (show b ≠ 0 by omega)
  have h4 := Int.emod_lt_of_pos a hb
  have h5 : b * (a / b) + a % b = a := Int.mul_ediv_add_emod a b
  have e : zi a / zi b = zi (a / b) := by rw [← h0]; exact (zi_toInt _).symm
  unfold zrem
  rw [e, zi_mul, zi_sub]
  have e2 : a - a / b * b = a % b := by rw [Int.mul_comm]; omega
  rw [e2]
  exact zw_id (by omega)
theorem zshl_1 : ∀ i : Nat, i < 30 → zshl 1 (i : Int) = ((2 ^ i : Nat) : Int) := by decide +kernel
/-- a place in a row -/
theorem at_in {o : Nat} {i : Int} {h : zH} (h0 : 0 ≤ i) (h1 : i < (zln o : Int)) : fX10_at o i h = h o i.toNat := by
  have := zln_le o
  have e : zw i = i := zw_id (by omega)
  unfold fX10_at
  rw [zlnw, e, if_neg (by omega), if_neg (by omega)]
theorem at_out {o : Nat} {i : Int} {h : zH} (hi : -2147483648 ≤ i ∧ i < 2147483648) (h1 : i < 0 ∨ (zln o : Int) ≤ i) : fX10_at o i h = -1 := by
  have e : zw i = i := zw_id hi
  unfold fX10_at
  rw [zlnw, e]
  by_cases hc : i < 0
  · rw [if_pos hc]
  · rw [if_neg hc, if_pos (by omega)]
theorem put_in {o : Nat} {i v : Int} {h : zH} (h0 : 0 ≤ i) (h1 : i < (zln o : Int)) : fX10_put o i v h = zs h o i.toNat v := by
  have := zln_le o
  have e : zw i = i := zw_id (by omega)
  unfold fX10_put zlet
  rw [zlnw, e, if_neg (by omega), if_neg (by omega)]
theorem put_out {o : Nat} {i v : Int} {h : zH} (hi : -2147483648 ≤ i ∧ i < 2147483648) (h1 : i < 0 ∨ (zln o : Int) ≤ i) : fX10_put o i v h = h := by
  have e : zw i = i := zw_id hi
  unfold fX10_put zlet
  rw [zlnw, e]
  by_cases hc : i < 0
  · rw [if_pos hc]
  · rw [if_neg hc, if_pos (by omega)]
theorem zs_same {h : zH} {o j : Nat} {v : Int} : zs h o j v o j = v := by rw [zs_row]; exact if_pos rfl
theorem zs_ne {h : zH} {o j b : Nat} {v : Int} (hb : b ≠ j) : zs h o j v o b = h o b := by rw [zs_row]; exact if_neg hb
theorem isIn_tab : ∀ s : Nat, s < 256 → ∀ i : Nat, i < 8 → fX10_isIn (s : Int) (i : Int) = (if s.testBit i then 1 else 0) := by decide +kernel
theorem has_tab : ∀ s : Nat, s < 256 → ∀ i : Nat, i < 8 → fX11_has (s : Int) (i : Int) = (if s.testBit i then 1 else 0) := by decide +kernel
theorem isIn_out {s i : Int} (hi : -2147483648 ≤ i ∧ i < 2147483648) (h : i < 0 ∨ 8 ≤ i) : fX10_isIn s i = 0 := by
  unfold fX10_isIn
  rw [zw_id hi]
  by_cases hc : i < 0
  · rw [if_pos hc]
  · rw [if_neg hc, if_pos (by rw [zw_id (by omega)]; omega)]
