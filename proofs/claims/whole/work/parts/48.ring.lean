/-! the ring of kept states -/
theorem zxor_pos {a b : Nat} (ha : a < 2147483648) (hb : b < 2147483648) : 0 ≤ zw (zxor (a : Int) (b : Int)) := by
  have e : zxor (a : Int) (b : Int) = ((a ^^^ b : Nat) : Int) := by
    refine zI_of_toNat ?_ (Nat.xor_lt_two_pow (n := 31) ha hb)
    rw [Int32.toBitVec_xor, BitVec.toNat_xor, zi_toNat (by omega), zi_toNat (by omega)]
  have h2 : a ^^^ b < 2147483648 := Nat.xor_lt_two_pow (n := 31) ha hb
  rw [e, zw_id (by omega)]
  omega
theorem floorMod_eq {a b : Nat} (ha : a < 2147483648) (hb : 0 < b ∧ b < 2147483648) : fJ9_floorMod_7cf53 (a : Int) (b : Int) = some ((a % b : Nat) : Int) := by
  unfold fJ9_floorMod_7cf53
  rw [zw_id (show -2147483648 ≤ (b : Int) ∧ (b : Int) < 2147483648 by omega), if_pos (show ¬ (b : Int) = 0 by omega), if_pos (zxor_pos ha hb.2), zrem_pos (by omega) (by omega) (by omega) (by omega)]
  rfl
theorem zw_40 : zw 40 = 40 := by decide
theorem keepX_eq {h : zH} {t : Nat} (ht : h 10 2 = (t : Int)) (ht2 : t < 2000000000) (hm : 0 ≤ h 10 0 ∧ h 10 0 ≤ 40) : fX0_keep 7 h = some (zs (zcopy (zs h 10 2 ((t + 1 : Nat) : Int)) 30 0 42 ((t + 1) % 40 * 51) 51) 10 0 (if h 10 0 + 1 ≤ 40 then h 10 0 + 1 else 40)) := by
  unfold fX0_keep zlet
  dsimp only
  have e0 : h 10 2 + 1 = ((t + 1 : Nat) : Int) := by rw [ht]; rfl
  have e1 : zs h 10 2 ((t + 1 : Nat) : Int) 10 2 = ((t + 1 : Nat) : Int) := zs_at
  rw [e0, e1, show (40 : Int) = ((40 : Nat) : Int) from rfl, floorMod_eq (by omega) (by decide)]
  have hr : (t + 1) % 40 < 40 := Nat.mod_lt _ (by decide)
  generalize (t + 1) % 40 = r at hr ⊢
  show (if _ then _ else none) = _
  have e2 : zw ((r : Int) * 51) = ((r * 51 : Nat) : Int) := by rw [show (r : Int) * 51 = ((r * 51 : Nat) : Int) by omega]; exact zw_id (by omega)
  rw [e2, show zw 0 = 0 from zw_0, show zw 51 = 51 from by decide, if_pos (by omega), Int.toNat_natCast]
  have e3 : zcopy (zs h 10 2 ((t + 1 : Nat) : Int)) 30 0 42 (r * 51) 51 10 0 = h 10 0 := by
    rw [zcopy_ne (by decide), zs_other (by omega)]
  show some (zs (zcopy (zs h 10 2 _) 30 0 42 (r * 51) 51) 10 0 (fJ9_min_7cf53 (zcopy (zs h 10 2 _) 30 0 42 (r * 51) 51 10 0 + 1) 40)) = _
  rw [e3, min_eq (zw_id (by omega)) zw_40]
  rfl
theorem restoreX_eq {h : zH} {t : Nat} (ht : h 10 2 = (t : Int)) (ht2 : t < 2000000000) (hm : 1 ≤ h 10 0 ∧ h 10 0 ≤ 40) : fX0_restore 7 h = some (h 10 0 - 1, zs (zs (zcopy h 42 (t % 40 * 51) 30 0 51) 10 2 ((t : Int) - 1)) 10 0 (h 10 0 - 1)) := by
  unfold fX0_restore zlet
  dsimp only
  rw [zw_1, zw_id (show -2147483648 ≤ h 10 0 ∧ h 10 0 < 2147483648 by omega), if_pos hm.1, ht, show (40 : Int) = ((40 : Nat) : Int) from rfl, floorMod_eq (by omega) (by decide)]
  have hr : t % 40 < 40 := Nat.mod_lt _ (by decide)
  generalize t % 40 = r at hr ⊢
  show (if _ then _ else none) = _
  have e2 : zw ((r : Int) * 51) = ((r * 51 : Nat) : Int) := by rw [show (r : Int) * 51 = ((r * 51 : Nat) : Int) by omega]; exact zw_id (by omega)
  rw [e2, show zw 0 = 0 from zw_0, show zw 51 = 51 from by decide, if_pos (by omega), Int.toNat_natCast]
  have e3 : zcopy h 42 (r * 51) 30 0 51 10 2 = (t : Int) := by rw [zcopy_ne (by decide)]; exact ht
  have e4 : zs (zcopy h 42 (r * 51) 30 0 51) 10 2 ((t : Int) - 1) 10 0 = h 10 0 := by rw [zs_other (by omega), zcopy_ne (by decide)]
  show some (zs (zs (zcopy h 42 (r * 51) 30 0 51) 10 2 (zcopy h 42 (r * 51) 30 0 51 10 2 - 1)) 10 0 (zs (zcopy h 42 (r * 51) 30 0 51) 10 2 (zcopy h 42 (r * 51) 30 0 51 10 2 - 1) 10 0 - 1) 10 0, zs (zs (zcopy h 42 (r * 51) 30 0 51) 10 2 (zcopy h 42 (r * 51) 30 0 51 10 2 - 1)) 10 0 (zs (zcopy h 42 (r * 51) 30 0 51) 10 2 (zcopy h 42 (r * 51) 30 0 51 10 2 - 1) 10 0 - 1)) = _
  rw [e3, e4, zs_at]
