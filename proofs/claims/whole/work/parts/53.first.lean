/-! who is first at a desk -/
theorem firstX {N : Nat} (hN : 8 ≤ N) {h : zH} {k : Nat} (hk : h 30 49 = (k : Int)) (hk6 : k ≤ 6) (hq : ∀ i : Nat, i < k → 0 ≤ h 30 (42 + i) ∧ h 30 (42 + i) < 6) (hs : ∀ p : Nat, p < 6 → zw (h 30 (36 + p)) = h 30 (36 + p)) {d : Int} (hd : zw d = d) : ∃ x, fX8_first N 7 d h = some x ∧ ((x = -1 ∧ ∀ i : Nat, i < k → h 30 (36 + (h 30 (42 + i)).toNat) ≠ d) ∨ ∃ i : Nat, i < k ∧ x = h 30 (42 + i) ∧ h 30 (36 + (h 30 (42 + i)).toNat) = d ∧ ∀ j : Nat, j < i → h 30 (36 + (h 30 (42 + j)).toNat) ≠ d) := by
  have L : ∀ (j i M : Nat), i + j = k → (∀ i' : Nat, i' < i → h 30 (36 + (h 30 (42 + i')).toNat) ≠ d) → ∃ x, fX8_first_c2 N 7 h (M + j + 1) d (i : Int) = some x ∧ ((x = -1 ∧ ∀ i : Nat, i < k → h 30 (36 + (h 30 (42 + i)).toNat) ≠ d) ∨ ∃ i : Nat, i < k ∧ x = h 30 (42 + i) ∧ h 30 (36 + (h 30 (42 + i)).toNat) = d ∧ ∀ j : Nat, j < i → h 30 (36 + (h 30 (42 + j)).toNat) ≠ d) := by
    intro j
    induction j with
    | zero =>
      intro i M hi hno
      refine ⟨-1, ?_, Or.inl ⟨rfl, fun i' hi' => hno i' (by omega)⟩⟩
      show fX8_first_c2b N 7 h (fX8_first_c2 N 7 h M) d (i : Int) = _
      unfold fX8_first_c2b
      rw [show h (zfr 7 0) 49 = (k : Int) from hk, zw_id (show -2147483648 ≤ (k : Int) ∧ (k : Int) < 2147483648 by omega), zw_id (show -2147483648 ≤ (i : Int) ∧ (i : Int) < 2147483648 by omega), if_pos (by omega)]
    | succ j ih =>
      intro i M hi hno
      have hq1 := hq i (by omega)
      obtain ⟨p, hp⟩ := Int.eq_ofNat_of_zero_le hq1.1
      have e1 : fX8_of 7 7 (i : Int) h = h 30 (42 + i) := ofX_eq 7 i (by omega)
      have e2 : fX8_of 7 6 (p : Int) h = h 30 (36 + p) := ofX_eq 6 p (by omega)
      have e3 : fX8_first_c2 N 7 h (M + (j + 1) + 1) d (i : Int) = if h 30 (36 + p) = d then some (p : Int) else fX8_first_c2 N 7 h (M + j + 1) d ((i + 1 : Nat) : Int) := by
        show fX8_first_c2b N 7 h (fX8_first_c2 N 7 h (M + j + 1)) d (i : Int) = _
        unfold fX8_first_c2b zlet
        dsimp only
        rw [show h (zfr 7 0) 49 = (k : Int) from hk, zw_id (show -2147483648 ≤ (k : Int) ∧ (k : Int) < 2147483648 by omega), zw_id (show -2147483648 ≤ (i : Int) ∧ (i : Int) < 2147483648 by omega), if_neg (by omega), e1, hp, e2, hs p (by omega), hd]
        rfl
      rw [e3]
      by_cases hc : h 30 (36 + p) = d
      · rw [if_pos hc]
        exact ⟨_, rfl, Or.inr ⟨i, by omega, hp.symm, by rw [hp, Int.toNat_natCast]; exact hc, hno⟩⟩
      · rw [if_neg hc]
        refine ih (i + 1) M (by omega) (fun i' hi' => ?_)
        by_cases h2 : i' = i
        · subst h2; rw [hp, Int.toNat_natCast]; exact hc
        · exact hno i' (by omega)
  obtain ⟨x, h1, h2⟩ := L k 0 (N - k - 1) (by omega) (fun _ h => absurd h (Nat.not_lt_zero _))
  rw [show N - k - 1 + k + 1 = N by omega] at h1
  exact ⟨x, h1, h2⟩
theorem firstM {N : Nat} (hN : 8 ≤ N) {h : zH} {n : Nat} (hn : h 14 28 = (n : Int)) (hn6 : n ≤ 6) {d : Int} (hA : ∀ p : Nat, p < n → fX11_isAt (p : Int) d h = some (if h 30 (36 + p) = d then 1 else 0)) (ht : ∀ p : Nat, p < n → zw (h 69 (7 * p + 2)) = h 69 (7 * p + 2)) : ∃ x, fX11_firstAt N d h = some x ∧ ((x = -1 ∧ ∀ p : Nat, p < n → h 30 (36 + p) ≠ d) ∨ ∃ p : Nat, p < n ∧ x = (p : Int) ∧ h 30 (36 + p) = d ∧ ∀ q : Nat, q < n → h 30 (36 + q) = d → h 69 (7 * p + 2) ≤ h 69 (7 * q + 2)) := by
  have L : ∀ (j i M : Nat) (b : Int), i + j = n → ((b = -1 ∧ ∀ p : Nat, p < i → h 30 (36 + p) ≠ d) ∨ ∃ p : Nat, p < i ∧ b = (p : Int) ∧ h 30 (36 + p) = d ∧ ∀ q : Nat, q < i → h 30 (36 + q) = d → h 69 (7 * p + 2) ≤ h 69 (7 * q + 2)) → ∃ x, fX11_firstAt_c4 N h (M + j + 1) d b (i : Int) = some x ∧ ((x = -1 ∧ ∀ p : Nat, p < n → h 30 (36 + p) ≠ d) ∨ ∃ p : Nat, p < n ∧ x = (p : Int) ∧ h 30 (36 + p) = d ∧ ∀ q : Nat, q < n → h 30 (36 + q) = d → h 69 (7 * p + 2) ≤ h 69 (7 * q + 2)) := by
    intro j
    induction j with
    | zero =>
      intro i M b hi hb
      have : i = n := by omega
      subst this
      refine ⟨b, ?_, hb⟩
      show fX11_firstAt_c4b N h (fX11_firstAt_c4 N h M) d b (i : Int) = _
      unfold fX11_firstAt_c4b
      rw [hn, if_pos (Int.le_refl _)]
    | succ j ih =>
      intro i M b hi hb
      have e0 : fX11_of (i : Int) 2 h = some (h 69 (7 * i + 2)) := ofM_eq i 2 (by omega)
      have e3 : fX11_firstAt_c4 N h (M + (j + 1) + 1) d b (i : Int) = if h 30 (36 + i) = d then (if b = -1 then fX11_firstAt_c4 N h (M + j + 1) d (i : Int) ((i + 1 : Nat) : Int) else zb (fX11_of b 2 h) fun v6 => if zw v6 ≤ h 69 (7 * i + 2) then fX11_firstAt_c4 N h (M + j + 1) d b ((i + 1 : Nat) : Int) else fX11_firstAt_c4 N h (M + j + 1) d (i : Int) ((i + 1 : Nat) : Int)) else fX11_firstAt_c4 N h (M + j + 1) d b ((i + 1 : Nat) : Int) := by
        show fX11_firstAt_c4b N h (fX11_firstAt_c4 N h (M + j + 1)) d b (i : Int) = _
        unfold fX11_firstAt_c4b
        have hbw : zw b = b := by
          rcases hb with ⟨rfl, -⟩ | ⟨p, hp, rfl, -⟩
          · exact zw_m1
          · exact zw_id (by omega)
        rw [hn, zw_id (show -2147483648 ≤ (n : Int) ∧ (n : Int) < 2147483648 by omega), zw_id (show -2147483648 ≤ (i : Int) ∧ (i : Int) < 2147483648 by omega), if_neg (by omega), hA i (by omega)]
        show (if zw (if h 30 (36 + i) = d then 1 else 0) = 0 then _ else _) = _
        rw [zq, hbw, zw_m1, e0]
        show (if h 30 (36 + i) = d then (if b = -1 then _ else zb (fX11_of b 2 h) fun v6 => if zw v6 ≤ zw (h 69 (7 * i + 2)) then _ else _) else _) = _
        rw [ht i (by omega)]
        rfl
      rw [e3]
      by_cases hc : h 30 (36 + i) = d
      · rw [if_pos hc]
        rcases hb with ⟨rfl, hno⟩ | ⟨p, hp, rfl, hpd, hmin⟩
        · rw [if_pos rfl]
          refine ih (i + 1) M _ (by omega) (Or.inr ⟨i, by omega, rfl, hc, fun q hq hqd => ?_⟩)
          by_cases h2 : q = i
          · subst h2; exact Int.le_refl _
          · exact absurd hqd (hno q (by omega))
        · rw [if_neg (show ¬ (p : Int) = -1 by omega)]
          have e5 : fX11_of (p : Int) 2 h = some (h 69 (7 * p + 2)) := ofM_eq p 2 (by omega)
          rw [e5]
          show ∃ x, (if zw (h 69 (7 * p + 2)) ≤ h 69 (7 * i + 2) then _ else _) = some x ∧ _
          rw [ht p (by omega)]
          by_cases h3 : h 69 (7 * p + 2) ≤ h 69 (7 * i + 2)
          · rw [if_pos h3]
            refine ih (i + 1) M _ (by omega) (Or.inr ⟨p, by omega, rfl, hpd, fun q hq hqd => ?_⟩)
            by_cases h2 : q = i
            · subst h2; exact h3
            · exact hmin q (by omega) hqd
          · rw [if_neg h3]
            refine ih (i + 1) M _ (by omega) (Or.inr ⟨i, by omega, rfl, hc, fun q hq hqd => ?_⟩)
            by_cases h2 : q = i
            · subst h2; exact Int.le_refl _
            · have := hmin q (by omega) hqd
              omega
      · rw [if_neg hc]
        refine ih (i + 1) M b (by omega) ?_
        rcases hb with ⟨rfl, hno⟩ | ⟨p, hp, rfl, hpd, hmin⟩
        · refine Or.inl ⟨rfl, fun q hq => ?_⟩
          by_cases h2 : q = i
          · subst h2; exact hc
          · exact hno q (by omega)
        · refine Or.inr ⟨p, by omega, rfl, hpd, fun q hq hqd => ?_⟩
          by_cases h2 : q = i
          · subst h2; exact absurd hqd hc
          · exact hmin q (by omega) hqd
  obtain ⟨x, h1, h2⟩ := L n 0 (N - n - 1) (-1) (by omega) (Or.inl ⟨rfl, fun _ h => absurd h (Nat.not_lt_zero _)⟩)
  rw [show N - n - 1 + n + 1 = N by omega] at h1
  exact ⟨x, h1, h2⟩
