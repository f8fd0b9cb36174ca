/-! wholeness, all of the model's -/
theorem w78M {N : Nat} (hN : 300 ≤ N) {ct : Nat → Nat} {t : Nat → Int} (V : DV ct) (C : CR ct t) {g : zH} (D : DM ct t g) (a : Bool) : fX11_isWhole_c78 N g N (bI a) 0 = some (bI (allB (pR ct t) (ct 3) (allB (pP ct t) (ct 1) a))) := by
  have v1 := V 1 (by decide)
  have v3 := V 3 (by decide)
  have m1 : mxI 1 = 6 := rfl
  have m3 : mxI 3 = 8 := rfl
  have zb1 : ∀ x : Bool, zw (bI x) = bI x := by decide
  have key := zloopq (F := fun m i (s : Int) => fX11_isWhole_c78 N g m s i) (n := ct 1) (s := bI a) (fun i s => s = bI (allB (pP ct t) i a)) (fun r => r = some (bI (allB (pR ct t) (ct 3) (allB (pP ct t) (ct 1) a)))) (fun m i s hi hI => ?_) (fun m s hI => ?_) (show ct 1 < N by omega) rfl
  · exact key
  · left
    have hI : s = bI (allB (pP ct t) i a) := hI
    subst hI
    refine ⟨_, ?_, rfl⟩
    show fX11_isWhole_c78b N g (fX11_isWhole_c78 N g m) _ (i : Int) = fX11_isWhole_c78 N g m (bI (allB (pP ct t) i a && pP ct t i)) _
    unfold fX11_isWhole_c78b
    obtain ⟨r0, r1⟩ := CR_b C (show 1 < 4 by decide) hi (show 0 < itN 1 by decide)
    have c0 : g 60 (3 * i + 0) = t (32 + 4 * i) := D.2 1 i 0 (by decide) (Or.inl hi) (by decide)
    rw [show 32 * 1 + 4 * i + 0 = 32 + 4 * i by omega] at r0 r1
    rw [D.1.1, D.1.2.2, zw_id (show -2147483648 ≤ (ct 3 : Int) ∧ (ct 3 : Int) < 2147483648 by omega), zw_id (show -2147483648 ≤ (ct 1 : Int) ∧ (ct 1 : Int) < 2147483648 by omega), zw_id (show -2147483648 ≤ (i : Int) ∧ (i : Int) < 2147483648 by omega), if_neg (by omega), zb1, show ((3 : Int) * (i : Int)) + 0 = ((3 * i + 0 : Nat) : Int) by omega, zw_id (show -2147483648 ≤ ((3 * i + 0 : Nat) : Int) ∧ ((3 * i + 0 : Nat) : Int) < 2147483648 by omega), Int.toNat_natCast, c0, zw_id (show -2147483648 ≤ t (32 + 4 * i) ∧ t (32 + 4 * i) < 2147483648 by omega)]
    cases allB (pP ct t) i a
    · rw [if_pos (show bI false = 0 from rfl), Bool.false_and]; rfl
    · rw [if_neg (show ¬ bI true = 0 by decide), Bool.true_and, if_pos (by omega)]
      unfold pP
      by_cases h0 : t (32 + 4 * i) < (ct 3 : Int)
      · rw [if_neg (by omega), decide_eq_true h0]; rfl
      · rw [if_pos (by omega), decide_eq_false h0]; rfl
  · have hI : s = bI (allB (pP ct t) (ct 1) a) := hI
    subst hI
    show fX11_isWhole_c78b N g (fX11_isWhole_c78 N g m) _ (ct 1 : Int) = _
    unfold fX11_isWhole_c78b
    rw [D.1.1, if_pos (Int.le_refl _)]
    exact w121M hN V C D _
theorem w29M {N : Nat} (hN : 300 ≤ N) {ct : Nat → Nat} {t : Nat → Int} (V : DV ct) (C : CR ct t) {g : zH} (D : DM ct t g) (a : Bool) : fX11_isWhole_c29 N g N (bI a) 0 = some (bI (allB (pR ct t) (ct 3) (allB (pP ct t) (ct 1) (allB (pD t) (ct 2) a)))) := by
  have v2 := V 2 (by decide)
  have m2 : mxI 2 = 4 := rfl
  have zb1 : ∀ x : Bool, zw (bI x) = bI x := by decide
  have key := zloopq (F := fun m i (s : Int) => fX11_isWhole_c29 N g m s i) (n := ct 2) (s := bI a) (fun i s => s = bI (allB (pD t) i a)) (fun r => r = some (bI (allB (pR ct t) (ct 3) (allB (pP ct t) (ct 1) (allB (pD t) (ct 2) a))))) (fun m i s hi hI => ?_) (fun m s hI => ?_) (show ct 2 < N by omega) rfl
  · exact key
  · left
    have hI : s = bI (allB (pD t) i a) := hI
    subst hI
    refine ⟨_, ?_, rfl⟩
    show fX11_isWhole_c29b N g (fX11_isWhole_c29 N g m) _ (i : Int) = fX11_isWhole_c29 N g m (bI (allB (pD t) i a && pD t i)) _
    unfold fX11_isWhole_c29b
    obtain ⟨r0, r1⟩ := CR_b C (show 2 < 4 by decide) hi (show 0 < itN 2 by decide)
    obtain ⟨r2, r3⟩ := CR_b C (show 2 < 4 by decide) hi (show 1 < itN 2 by decide)
    have c0 : g 61 (4 * i + 0) = t (64 + 4 * i) := D.2 2 i 0 (by decide) (Or.inl hi) (by decide)
    have c1 : g 61 (4 * i + 1) = t (65 + 4 * i) := by rw [show 65 + 4 * i = 32 * 2 + 4 * i + 1 by omega]; exact D.2 2 i 1 (by decide) (Or.inl hi) (by decide)
    rw [show 32 * 2 + 4 * i + 0 = 64 + 4 * i by omega] at r0 r1
    rw [show 32 * 2 + 4 * i + 1 = 65 + 4 * i by omega] at r2 r3
    rw [D.1.2.1, zw_id (show -2147483648 ≤ (ct 2 : Int) ∧ (ct 2 : Int) < 2147483648 by omega), zw_id (show -2147483648 ≤ (i : Int) ∧ (i : Int) < 2147483648 by omega), if_neg (by omega), zb1, show ((4 : Int) * (i : Int)) + 0 = ((4 * i + 0 : Nat) : Int) by omega, show ((4 : Int) * (i : Int)) + 1 = ((4 * i + 1 : Nat) : Int) by omega, zw_id (show -2147483648 ≤ ((4 * i + 0 : Nat) : Int) ∧ ((4 * i + 0 : Nat) : Int) < 2147483648 by omega), zw_id (show -2147483648 ≤ ((4 * i + 1 : Nat) : Int) ∧ ((4 * i + 1 : Nat) : Int) < 2147483648 by omega), Int.toNat_natCast, Int.toNat_natCast, c0, c1, zw_id (show -2147483648 ≤ t (64 + 4 * i) ∧ t (64 + 4 * i) < 2147483648 by omega), zw_id (show -2147483648 ≤ t (65 + 4 * i) ∧ t (65 + 4 * i) < 2147483648 by omega)]
    cases allB (pD t) i a
    · rw [if_pos (show bI false = 0 from rfl), Bool.false_and]; rfl
    · rw [if_neg (show ¬ bI true = 0 by decide), Bool.true_and, if_pos (by omega), if_pos (by omega)]
      unfold pD
      by_cases h0 : t (64 + 4 * i) < t (65 + 4 * i)
      · rw [if_neg (by omega), decide_eq_true h0]; rfl
      · rw [if_pos (by omega), decide_eq_false h0]; rfl
  · have hI : s = bI (allB (pD t) (ct 2) a) := hI
    subst hI
    show fX11_isWhole_c29b N g (fX11_isWhole_c29 N g m) _ (ct 2 : Int) = _
    unfold fX11_isWhole_c29b
    rw [D.1.2.1, if_pos (Int.le_refl _)]
    exact w78M hN V C D _
theorem wholeM {N : Nat} (hN : 300 ≤ N) {ct : Nat → Nat} {t : Nat → Int} (V : DV ct) (C : CR ct t) {g : zH} (D : DM ct t g) : fX11_isWhole N g = some (bI (whB ct t)) := by
  have v1 := V 1 (by decide)
  have v2 := V 2 (by decide)
  have v3 := V 3 (by decide)
  have m1 : mxI 1 = 6 := rfl
  have m2 : mxI 2 = 4 := rfl
  have m3 : mxI 3 = 8 := rfl
  unfold fX11_isWhole whB
  rw [D.1.1, D.1.2.1, D.1.2.2, zw_id (show -2147483648 ≤ (ct 1 : Int) ∧ (ct 1 : Int) < 2147483648 by omega), zw_id (show -2147483648 ≤ (ct 2 : Int) ∧ (ct 2 : Int) < 2147483648 by omega), zw_id (show -2147483648 ≤ (ct 3 : Int) ∧ (ct 3 : Int) < 2147483648 by omega)]
  have f := w29M hN V C D false
  have y := w29M hN V C D true
  by_cases c1 : 0 < ct 1
  · rw [if_neg (by omega)]
    by_cases c2 : 0 < ct 2
    · rw [if_neg (by omega)]
      by_cases c3 : 0 < ct 3
      · rw [if_neg (by omega), decide_eq_true ⟨c1, c2, c3⟩]; exact y
      · rw [if_pos (by omega), decide_eq_false (fun h => c3 h.2.2)]; exact f
    · rw [if_pos (by omega), decide_eq_false (fun h => c2 h.2.1)]; exact f
  · rw [if_pos (by omega), decide_eq_false (fun h => c1 h.1)]; exact f
/-- fault 0 of the model -/
theorem fault0M {n : Nat} {b : Nat → Nat} (T : TV n b) {N : Nat} (hN : 300 ≤ N) {g : zH} (H : TMo n b g) : ∃ g', fX11_readHill N g = some ((if (hAll n b).1 = -1 then (if whB (hAll n b).2.1 (hAll n b).2.2 = true then -1 else (n : Int)) else (hAll n b).1), g') ∧ FR [14, 59, 60, 61, 62] g g' ∧ FS 14 [3, 4, 21, 22, 23] g g' ∧ ((hAll n b).1 = -1 → DV (hAll n b).2.1 ∧ DM (hAll n b).2.1 (hAll n b).2.2 g') := by
  obtain ⟨g1, r1, r2, r3, r4⟩ := hillM T hN H
  rw [r1]
  by_cases c : (hAll n b).1 = -1
  · obtain ⟨d1, d2, d3, d4⟩ := r4 c
    rw [if_pos c, if_pos c]
    unfold hWM
    rw [wholeM hN d3 hAll_CR d4, zb_some]
    by_cases w : whB (hAll n b).2.1 (hAll n b).2.2 = true
    · rw [w, if_neg (show ¬ zw (bI true) = 0 by decide), if_pos rfl, d1]
      exact ⟨g1, rfl, r2, r3, fun _ => ⟨d3, d4⟩⟩
    · have w' : whB (hAll n b).2.1 (hAll n b).2.2 = false := Bool.eq_false_iff.mpr w
      rw [w', if_pos (show zw (bI false) = 0 by decide), if_neg (by decide), badM d1, zlet_v, zs_at, d2]
      refine ⟨_, rfl, FR_tr r2 (fun b hb => zs_row_ne (fun e => hb (by rw [e]; decide))), FS_tr r3 (fun q hq => zs_ne (fun e => hq (by rw [e]; decide))), fun _ => ⟨d3, ⟨?_, fun k i j hk hi hj => ?_⟩⟩⟩
      · rw [zs_ne (by decide), zs_ne (by decide), zs_ne (by decide)]; exact d4.1
      · rw [zs_row_ne (by omega)]; exact d4.2 k i j hk hi hj
  · rw [if_neg c, if_neg c]
    exact ⟨g1, rfl, r2, r3, fun h => absurd h c⟩
