/-! the state of the hour: the class's cells rc and days rd, the reference's numbers m; n1 the PARISHES, dk the desk of a paper -/
def RPar (n1 : Int) (dk rc m : Nat → Int) : Prop := ∀ p : Nat, (p : Int) < n1 → (rc p = m (7 * p) ∧ 0 ≤ rc p ∧ rc p < 256) ∧ (rc (6 + p) = m (7 * p + 1) ∧ -1 ≤ rc (6 + p) ∧ rc (6 + p) < 8) ∧ rc (12 + p) = m (7 * p + 3) ∧ rc (18 + p) = m (7 * p + 4) ∧ rc (24 + p) = m (7 * p + 5) ∧ rc (30 + p) = m (7 * p + 6) ∧ rc (36 + p) = if rc (6 + p) = -1 then -1 else dk (rc (6 + p)).toNat
/-- the queue: those that wait, by rising tickets -/
def RQue (n1 : Int) (rc m : Nat → Int) : Prop := (0 ≤ rc 49 ∧ rc 49 ≤ n1) ∧ (∀ i : Nat, (i : Int) < rc 49 → 0 ≤ rc (42 + i) ∧ rc (42 + i) < n1 ∧ m (7 * (rc (42 + i)).toNat + 1) ≠ -1 ∧ m (7 * (rc (42 + i)).toNat + 2) < m 43) ∧ (∀ i j : Nat, i < j → (j : Int) < rc 49 → m (7 * (rc (42 + i)).toNat + 2) < m (7 * (rc (42 + j)).toNat + 2)) ∧ ∀ p : Nat, (p : Int) < n1 → m (7 * p + 1) ≠ -1 → ∃ i : Nat, (i : Int) < rc 49 ∧ rc (42 + i) = (p : Int)
def RSt (n1 : Int) (dk rc rd m : Nat → Int) : Prop := RPar n1 dk rc m ∧ RQue n1 rc m ∧ (rc 48 = m 42 ∧ 0 ≤ rc 48 ∧ rc 48 < 20000) ∧ (0 ≤ m 43 ∧ m 43 < 1000000) ∧ RLog rc rd m
theorem isAt_eq {h : zH} {n1 : Int} (hn : n1 ≤ 6) {rc : Nat → Int} (H : RPar n1 (fun r => h 66 (3 * r)) rc (h 69)) {p : Nat} (hp : (p : Int) < n1) (hrc : rc = h 30) {d : Int} (hd : 0 ≤ d ∧ d < 8) (hdk : ∀ r : Nat, r < 8 → -2147483648 ≤ h 66 (3 * r) ∧ h 66 (3 * r) < 2147483648) : fX11_isAt (p : Int) d h = some (if rc (36 + p) = d then 1 else 0) := by
  obtain ⟨-, ⟨w1, w2, w3⟩, -, -, -, -, s1⟩ := H p hp
  have e0 : fX11_of (p : Int) 1 h = some (h 69 (7 * p + 1)) := ofM_eq p 1 (by omega)
  unfold fX11_isAt
  rw [e0]
  show (if zw (h 69 (7 * p + 1)) = zw (-1) then _ else zb (some (h 69 (7 * p + 1))) _) = _
  rw [← w1, zw_id (show -2147483648 ≤ rc (6 + p) ∧ rc (6 + p) < 2147483648 by omega), zw_m1, s1]
  by_cases hw : rc (6 + p) = -1
  · rw [if_pos hw, if_pos hw, if_neg (show ¬ (-1 : Int) = d by omega)]
  · rw [if_neg hw, if_neg hw]
    obtain ⟨r, hr⟩ := Int.eq_ofNat_of_zero_le (show 0 ≤ rc (6 + p) by omega)
    rw [hr, Int.toNat_natCast]
    have e : fX11_deskOf (r : Int) h = some (h 66 (3 * r)) := by
      unfold fX11_deskOf
      rw [show (3 * (r : Int)) + 0 = ((3 * r : Nat) : Int) by omega, zw_id (show _ from by omega), if_pos (by omega), Int.toNat_natCast]
    have hb := hdk r (by omega)
    show zb (fX11_deskOf (r : Int) h) _ = _
    rw [e]
    show (if zw (h 66 (3 * r)) = zw d then _ else _) = _
    rw [zw_id hb, zw_id (show -2147483648 ≤ d ∧ d < 2147483648 by omega)]
    by_cases hc : h 66 (3 * r) = d
    · rw [if_pos hc, if_pos hc]
    · rw [if_neg hc, if_neg hc]
