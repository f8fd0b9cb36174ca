/-! wholeness, the model's -/
def allB (P : Nat → Bool) : Nat → Bool → Bool
  | 0, a => a
  | k + 1, a => allB P k a && P k
def bI (a : Bool) : Int := if a then 1 else 0
def pD (t : Nat → Int) (d : Nat) : Bool := decide (t (64 + 4 * d) < t (65 + 4 * d))
def pP (ct : Nat → Nat) (t : Nat → Int) (p : Nat) : Bool := decide (t (32 + 4 * p) < ct 3)
def tld (ct : Nat → Nat) (v : Int) : Bool := decide (v = 8 ∨ v < ct 3)
def pR (ct : Nat → Nat) (t : Nat → Int) (r : Nat) : Bool := decide (t (96 + 4 * r) < ct 2) && tld ct (t (97 + 4 * r)) && tld ct (t (98 + 4 * r))
def whB (ct : Nat → Nat) (t : Nat → Int) : Bool := allB (pR ct t) (ct 3) (allB (pP ct t) (ct 1) (allB (pD t) (ct 2) (decide (0 < ct 1 ∧ 0 < ct 2 ∧ 0 < ct 3))))
theorem CR_b {ct : Nat → Nat} {t : Nat → Int} (C : CR ct t) {k i j : Nat} (hk : k < 4) (hi : i < ct k) (hj : j < itN k) : 0 ≤ t (32 * k + 4 * i + j) ∧ t (32 * k + 4 * i + j) ≤ 99 := by
  have c := C k i j hk (Or.inl hi) hj
  obtain ⟨_, _, _, q1, q2, _⟩ := rng_eq k hk j hj
  have a1 : 0 ≤ loI k j := q1.1
  have a2 : hiI k j ≤ 99 := q2.2
  omega
theorem tldM {ct : Nat → Nat} {v : Int} (hv : 0 ≤ v ∧ v ≤ 99) (h3 : ct 3 ≤ 8) : fX11_isTold v (ct 3 : Int) = bI (tld ct v) := by
  unfold fX11_isTold tld bI
  rw [show zw 8 = 8 by decide, zw_id (show -2147483648 ≤ v ∧ v < 2147483648 by omega), zw_id (show -2147483648 ≤ (ct 3 : Int) ∧ (ct 3 : Int) < 2147483648 by omega)]
  by_cases c : v = 8
  · rw [if_pos c, if_pos (decide_eq_true (Or.inl c))]
  · rw [if_neg c]
    by_cases c1 : v < (ct 3 : Int)
    · rw [if_neg (by omega), if_pos (decide_eq_true (Or.inr c1))]
    · rw [if_pos (by omega), if_neg (by simp; omega)]
theorem w121M {N : Nat} (hN : 300 ≤ N) {ct : Nat → Nat} {t : Nat → Int} (V : DV ct) (C : CR ct t) {g : zH} (D : DM ct t g) (a : Bool) : fX11_isWhole_c121 N g N (bI a) 0 = some (bI (allB (pR ct t) (ct 3) a)) := by
  have v2 := V 2 (by decide)
  have v3 := V 3 (by decide)
  have m2 : mxI 2 = 4 := rfl
  have m3 : mxI 3 = 8 := rfl
  have zb1 : ∀ x : Bool, zw (bI x) = bI x := by decide
  have key := zloopq (F := fun m i (s : Int) => fX11_isWhole_c121 N g m s i) (n := ct 3) (s := bI a) (fun i s => s = bI (allB (pR ct t) i a)) (fun r => r = some (bI (allB (pR ct t) (ct 3) a))) (fun m i s hi hI => ?_) (fun m s hI => ?_) (show ct 3 < N by omega) rfl
  · exact key
  · left
    have hI : s = bI (allB (pR ct t) i a) := hI
    subst hI
    refine ⟨_, ?_, rfl⟩
    show fX11_isWhole_c121b N g (fX11_isWhole_c121 N g m) _ (i : Int) = fX11_isWhole_c121 N g m (bI (allB (pR ct t) i a && pR ct t i)) _
    unfold fX11_isWhole_c121b
    obtain ⟨r0, r1⟩ := CR_b C (show 3 < 4 by decide) hi (show 0 < itN 3 by decide)
    obtain ⟨r2, r3⟩ := CR_b C (show 3 < 4 by decide) hi (show 1 < itN 3 by decide)
    obtain ⟨r4, r5⟩ := CR_b C (show 3 < 4 by decide) hi (show 2 < itN 3 by decide)
    have c0 : g 62 (3 * i + 0) = t (96 + 4 * i) := D.2 3 i 0 (by decide) (Or.inl hi) (by decide)
    have c1 : g 62 (3 * i + 1) = t (97 + 4 * i) := by rw [show 97 + 4 * i = 32 * 3 + 4 * i + 1 by omega]; exact D.2 3 i 1 (by decide) (Or.inl hi) (by decide)
    have c2 : g 62 (3 * i + 2) = t (98 + 4 * i) := by rw [show 98 + 4 * i = 32 * 3 + 4 * i + 2 by omega]; exact D.2 3 i 2 (by decide) (Or.inl hi) (by decide)
    rw [show 32 * 3 + 4 * i + 0 = 96 + 4 * i by omega] at r0 r1
    rw [show 32 * 3 + 4 * i + 1 = 97 + 4 * i by omega] at r2 r3
    rw [show 32 * 3 + 4 * i + 2 = 98 + 4 * i by omega] at r4 r5
    rw [D.1.2.2, D.1.2.1, zw_id (show -2147483648 ≤ (ct 3 : Int) ∧ (ct 3 : Int) < 2147483648 by omega), zw_id (show -2147483648 ≤ (ct 2 : Int) ∧ (ct 2 : Int) < 2147483648 by omega), zw_id (show -2147483648 ≤ (i : Int) ∧ (i : Int) < 2147483648 by omega), if_neg (by omega), zb1, show ((3 : Int) * (i : Int)) + 0 = ((3 * i + 0 : Nat) : Int) by omega, show ((3 : Int) * (i : Int)) + 1 = ((3 * i + 1 : Nat) : Int) by omega, show ((3 : Int) * (i : Int)) + 2 = ((3 * i + 2 : Nat) : Int) by omega, zw_id (show -2147483648 ≤ ((3 * i + 0 : Nat) : Int) ∧ ((3 * i + 0 : Nat) : Int) < 2147483648 by omega), zw_id (show -2147483648 ≤ ((3 * i + 1 : Nat) : Int) ∧ ((3 * i + 1 : Nat) : Int) < 2147483648 by omega), zw_id (show -2147483648 ≤ ((3 * i + 2 : Nat) : Int) ∧ ((3 * i + 2 : Nat) : Int) < 2147483648 by omega), Int.toNat_natCast, Int.toNat_natCast, Int.toNat_natCast, c0, c1, c2, zw_id (show -2147483648 ≤ t (96 + 4 * i) ∧ t (96 + 4 * i) < 2147483648 by omega), tldM ⟨r2, r3⟩ (by omega), tldM ⟨r4, r5⟩ (by omega)]
    simp only [zlet_v, zb1]
    cases allB (pR ct t) i a
    · rw [if_pos (show bI false = 0 from rfl), Bool.false_and]; rfl
    · rw [if_neg (show ¬ bI true = 0 by decide), Bool.true_and, if_pos (by omega)]
      unfold pR
      by_cases h0 : t (96 + 4 * i) < (ct 2 : Int)
      · rw [if_neg (by omega), if_pos (by omega), decide_eq_true h0, Bool.true_and]
        cases tld ct (t (97 + 4 * i))
        · rw [if_pos (show bI false = 0 from rfl), Bool.false_and]; rfl
        · rw [if_neg (show ¬ bI true = 0 by decide), Bool.true_and, if_pos (by omega)]
          cases tld ct (t (98 + 4 * i))
          · rw [if_pos (show bI false = 0 from rfl)]; rfl
          · rw [if_neg (show ¬ bI true = 0 by decide)]; rfl
      · rw [if_pos (by omega), decide_eq_false h0, Bool.false_and, Bool.false_and]; rfl
  · have hI : s = bI (allB (pR ct t) (ct 3) a) := hI
    subst hI
    show fX11_isWhole_c121b N g (fX11_isWhole_c121 N g m) _ (ct 3 : Int) = _
    unfold fX11_isWhole_c121b
    rw [D.1.2.2, if_pos (Int.le_refl _), if_pos]
    cases allB (pR ct t) (ct 3) a
    · exact Or.inl rfl
    · exact Or.inr rfl
