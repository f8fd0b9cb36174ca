/-! the fields of a state -/
theorem zln_30 : (zln 30 : Int) = 51 := rfl
theorem ofX_eq {h : zH} (f p : Nat) (hp : f * 6 + p < 51) : fX8_of 7 (f : Int) (p : Int) h = h 30 (6 * f + p) := by
  show fX10_at 30 (((f : Int) * 6) + (p : Int)) h = _
  rw [at_in (by omega) (by rw [zln_30]; omega)]
  congr 1
  omega
theorem setX_eq {h : zH} (f p : Nat) (hp : f * 6 + p < 51) (v : Int) : fX8_set 7 (f : Int) (p : Int) v h = zs h 30 (6 * f + p) v := by
  show fX10_put 30 (((f : Int) * 6) + (p : Int)) v h = _
  rw [put_in (by omega) (by rw [zln_30]; omega), show (((f : Int) * 6) + (p : Int)).toNat = 6 * f + p by omega]
theorem ofM_eq {h : zH} (p f : Nat) (hp : 7 * p + f < 165) : fX11_of (p : Int) (f : Int) h = some (h 69 (7 * p + f)) := by
  unfold fX11_of
  rw [show (7 * (p : Int)) + (f : Int) = ((7 * p + f : Nat) : Int) by omega, zw_id (show _ from by omega), if_pos (by omega), Int.toNat_natCast]
theorem putM_eq {h : zH} (p f : Nat) (hp : 7 * p + f < 165) (v : Int) : fX11_put_ (p : Int) (f : Int) v h = some (zs h 69 (7 * p + f) v) := by
  unfold fX11_put_ zlet
  dsimp only
  rw [show (7 * (p : Int)) + (f : Int) = ((7 * p + f : Nat) : Int) by omega, zw_id (show _ from by omega), if_pos (by omega), Int.toNat_natCast]
theorem timeX_eq {h : zH} (hh : 0 ≤ h 30 48 ∧ h 30 48 < 100000) : fX8_time 7 h = h 30 48 % 24 := by
  show zrem (h 30 48) 24 = _
  exact zrem_pos hh.1 (by omega) (by decide) (by decide)
theorem timeM_eq {h : zH} (hh : 0 ≤ h 69 42 ∧ h 69 42 < 100000) : fX11_time h = h 69 42 % 24 := by
  unfold fX11_time
  exact zrem_pos hh.1 (by omega) (by decide) (by decide)
/-- the two draw alike -/
theorem draw_alike {h g : zH} (e : h 0 15 = g 14 47) {a : Int} (ha : 1 ≤ a ∧ a < 2147483648) : ∃ v x : Int, fX10_draw a h = some (v, zs h 0 15 x) ∧ fX11_draw a g = some (v, zs g 14 47 x) := by
  have ea : zw a = a := zw_id (by omega)
  have e1 : zwl a = a := by
    unfold zwl zl
    rw [Int64.toInt_ofInt_of_le (by omega) (by omega)]
  refine ⟨zl2i (zlrem (zlushr ((h 0 15 * 6364136223846793005) + 1442695040888963407) 33) a), (h 0 15 * 6364136223846793005) + 1442695040888963407, ?_, ?_⟩
  · unfold fX10_draw zlet
    dsimp only
    rw [zs_at, zw_1, ea, if_pos ha.1, e1, if_pos (by omega)]
  · unfold fX11_draw zlet
    dsimp only
    rw [zs_at, ea, e1, if_pos (by omega), e]
