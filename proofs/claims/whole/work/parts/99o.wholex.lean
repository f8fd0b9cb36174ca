/-! wholeness, the class's -/
theorem FS_up {o : Nat} {J J' : List Nat} {h h' : zH} (F : FS o J h h') (hL : ∀ b, b ∈ J → b ∈ J') : FS o J' h h' := fun b hb => F b (fun x => hb (hL b x))
theorem item3 {h : zH} (k i c : Nat) (hk : k < 4) (hi : i < 8) (hc : c < 4) : fX1_item 3 (k : Int) (i : Int) (c : Int) h = h 19 (32 * k + 4 * i + c) := by
  unfold fX1_item fX1_cellOf
  rw [show ((k : Int) * 8 + (i : Int)) * 4 + (c : Int) = ((32 * k + 4 * i + c : Nat) : Int) by omega]
  have l : zln 19 = 128 := rfl
  exact at_in (o := 19) (by omega) (by omega)
theorem has3 {ct : Nat → Nat} {t : Nat → Int} {h : zH} (V : DV ct) (D : DX ct t h) {k : Nat} (hk : k < 4) {a : Int} (ha : -1 ≤ a ∧ a ≤ 99) : fX1_has 3 (k : Int) a h = bI (decide (0 ≤ a ∧ a < ct k)) := by
  have vk := V k hk
  have m8 := mxI_8 k
  unfold fX1_has bI
  rw [many3 hk, D.1 k hk, zw_id (show -2147483648 ≤ a ∧ a < 2147483648 by omega), zw_id (show -2147483648 ≤ (ct k : Int) ∧ (ct k : Int) < 2147483648 by omega)]
  by_cases h0 : a < 0
  · rw [if_pos h0, if_neg (by simp; omega)]
  · rw [if_neg h0]
    by_cases h1 : (ct k : Int) ≤ a
    · rw [if_pos h1, if_neg (by simp; omega)]
    · rw [if_neg h1, if_pos (by simp; omega)]
theorem andb : ∀ a b : Bool, zand (bI a) (bI b) = bI (a && b) := by decide +kernel
theorem zwB : ∀ a : Bool, zw (bI a) = bI a := by decide +kernel
theorem bI01 : ∀ a : Bool, bI a = 0 ∨ bI a = 1 := by decide +kernel
theorem put21 {i : Nat} (hi : i < 8) (v : Int) (h : zH) : fX10_put (zfr 3 2) (i : Int) v h = zs h 21 i v := by
  have l : zln 21 = 8 := rfl
  have e : zfr 3 2 = 21 := rfl
  rw [e, put_in (by omega) (by omega), Int.toNat_natCast]
def w8 (x : Nat) : Nat := if x = 8 then 0 else 2 ^ x
theorem w8_lt {x : Nat} (hx : x ≤ 8) : w8 x < 256 := wpiece (by omega)
theorem c185X {N i x y : Nat} (hi : i < 8) (hx : x ≤ 8) (hy : y ≤ 8) (K : Int → Int → zH → Option (Int × zH)) (a b : Bool) (h : zH) : fX1_isWhole_c185 N 3 K (i : Int) (x : Int) (y : Int) (bI b) (bI a) h = K (bI (a && b)) ((i + 1 : Nat) : Int) (zs h 21 i ((w8 x ||| w8 y : Nat) : Int)) := by
  unfold fX1_isWhole_c185
  have bx := w8_lt hx
  have yx := w8_lt hy
  have p1 : x ≠ 8 → zshl 1 (x : Int) = ((w8 x : Nat) : Int) := fun c => by
    unfold w8; rw [if_neg c]; exact zshl_1 x (by omega)
  have p2 : y ≠ 8 → zshl 1 (y : Int) = ((w8 y : Nat) : Int) := fun c => by
    unfold w8; rw [if_neg c]; exact zshl_1 y (by omega)
  have q1 : x = 8 → (0 : Int) = ((w8 x : Nat) : Int) := fun c => by
    unfold w8; rw [if_pos c]; rfl
  have q2 : y = 8 → (0 : Int) = ((w8 y : Nat) : Int) := fun c => by
    unfold w8; rw [if_pos c]; rfl
  rw [show zw 8 = 8 by decide, zw_id (show -2147483648 ≤ (x : Int) ∧ (x : Int) < 2147483648 by omega), zw_id (show -2147483648 ≤ (y : Int) ∧ (y : Int) < 2147483648 by omega)]
  simp only [zlet_v, put21 hi, andb]
  by_cases c1 : x = 8
  · rw [if_pos (by omega)]
    by_cases c2 : y = 8
    · rw [if_pos (by omega)]
      have e := zor_nat (a := w8 x) (b := w8 y) (by omega) (by omega)
      rw [← q1 c1, ← q2 c2] at e
      rw [e]; rfl
    · rw [if_neg (by omega), p2 c2]
      have e := zor_nat (a := w8 x) (b := w8 y) (by omega) (by omega)
      rw [← q1 c1] at e
      rw [e]; rfl
  · rw [if_neg (by omega)]
    by_cases c2 : y = 8
    · rw [if_pos (by omega), p1 c1]
      have e := zor_nat (a := w8 x) (b := w8 y) (by omega) (by omega)
      rw [← q2 c2] at e
      rw [e]; rfl
    · rw [if_neg (by omega), p1 c1, p2 c2, zor_nat (by omega) (by omega)]; rfl
theorem hi3 : hiI 3 1 = 8 ∧ hiI 3 2 = 8 ∧ loI 3 1 = 0 ∧ loI 3 2 = 0 := by decide +kernel
theorem DX_21 {ct : Nat → Nat} {t : Nat → Int} {h s : zH} (D : DX ct t h) (F : FR [21] h s) : DX ct t s := ⟨fun k hk => by rw [F 20 (by decide)]; exact D.1 k hk, fun k i j hk hi hj => by rw [F 19 (by decide)]; exact D.2 k i j hk hi hj⟩
def wI (t : Nat → Int) (r : Nat) : Nat := w8 (t (97 + 4 * r)).toNat ||| w8 (t (98 + 4 * r)).toNat
theorem w106X {N : Nat} (hN : 300 ≤ N) {ct : Nat → Nat} {t : Nat → Int} (V : DV ct) (C : CR ct t) {h : zH} (D : DX ct t h) (a : Bool) : ∃ h', fX1_isWhole_c106 N 3 N (bI a) 0 h = some (bI (allB (pR ct t) (ct 3) a), h') ∧ FR [21] h h' ∧ ∀ r, r < ct 3 → h' 21 r = (wI t r : Int) := by
  have v2 := V 2 (by decide)
  have v3 := V 3 (by decide)
  have m2 : mxI 2 = 4 := rfl
  have m3 : mxI 3 = 8 := rfl
  refine zloopq (F := fun m i (s : Int × zH) => fX1_isWhole_c106 N 3 m s.1 i s.2) (n := ct 3) (s := (bI a, h)) (fun i s => s.1 = bI (allB (pR ct t) i a) ∧ FR [21] h s.2 ∧ ∀ r, r < i → s.2 21 r = (wI t r : Int)) (fun r => ∃ h', r = some (bI (allB (pR ct t) (ct 3) a), h') ∧ FR [21] h h' ∧ ∀ r, r < ct 3 → h' 21 r = (wI t r : Int)) (fun m i s hi hI => ?_) (fun m s hI => ?_) (show ct 3 < N by omega) ⟨rfl, FR_rf, fun r hr => absurd hr (by omega)⟩
  · obtain ⟨s1, s⟩ := s
    obtain ⟨e1, F, W⟩ := hI
    have e1 : s1 = bI (allB (pR ct t) i a) := e1
    subst e1
    have D' := DX_21 D F
    left
    refine ⟨(bI (allB (pR ct t) (i + 1) a), zs s 21 i ((wI t i : Nat) : Int)), ?_, rfl, FR_tr F (fun b hb => zs_row_ne (fun e => hb (by rw [e]; decide))), fun r hr => ?_⟩
    · show fX1_isWhole_c106b N 3 (fX1_isWhole_c106 N 3 m) _ (i : Int) s = _
      unfold fX1_isWhole_c106b
      have r0 := CR_b C (show 3 < 4 by decide) hi (show 0 < itN 3 by decide)
      have r1 := C 3 i 1 (by decide) (Or.inl hi) (by decide)
      have r2 := C 3 i 2 (by decide) (Or.inl hi) (by decide)
      obtain ⟨g1, g2, g3, g4⟩ := hi3
      rw [g1, g3] at r1
      rw [g2, g4] at r2
      have c0 : fX1_item 3 3 (i : Int) 0 s = t (96 + 4 * i) := (item3 3 i 0 (by decide) (by omega) (by decide)).trans ((D'.2 3 i 0 (by decide) (Or.inl hi) (by decide)).trans (by rw [show 32 * 3 + 4 * i + 0 = 96 + 4 * i by omega]))
      have c1 : fX1_item 3 3 (i : Int) 1 s = t (97 + 4 * i) := (item3 3 i 1 (by decide) (by omega) (by decide)).trans ((D'.2 3 i 1 (by decide) (Or.inl hi) (by decide)).trans (by rw [show 32 * 3 + 4 * i + 1 = 97 + 4 * i by omega]))
      have c2 : fX1_item 3 3 (i : Int) 2 s = t (98 + 4 * i) := (item3 3 i 2 (by decide) (by omega) (by decide)).trans ((D'.2 3 i 2 (by decide) (Or.inl hi) (by decide)).trans (by rw [show 32 * 3 + 4 * i + 2 = 98 + 4 * i by omega]))
      rw [show 32 * 3 + 4 * i + 0 = 96 + 4 * i by omega] at r0
      rw [show 32 * 3 + 4 * i + 1 = 97 + 4 * i by omega] at r1
      rw [show 32 * 3 + 4 * i + 2 = 98 + 4 * i by omega] at r2
      obtain ⟨x, ex⟩ : ∃ x : Nat, t (97 + 4 * i) = (x : Int) := ⟨(t (97 + 4 * i)).toNat, by omega⟩
      obtain ⟨y, ey⟩ : ∃ y : Nat, t (98 + 4 * i) = (y : Int) := ⟨(t (98 + 4 * i)).toNat, by omega⟩
      have m3' : fX1_many 3 3 s = (ct 3 : Int) := (many3 (k := 3) (by decide) s).trans (D'.1 3 (by decide))
      have k0 : fX1_has 3 2 (t (96 + 4 * i)) s = bI (decide (0 ≤ t (96 + 4 * i) ∧ t (96 + 4 * i) < ct 2)) := has3 (k := 2) V D' (by decide) (by omega)
      have k1 : fX1_has 3 3 (x : Int) s = bI (decide (0 ≤ (x : Int) ∧ (x : Int) < ct 3)) := has3 (k := 3) V D' (by decide) (by omega)
      have k2 : fX1_has 3 3 (y : Int) s = bI (decide (0 ≤ (y : Int) ∧ (y : Int) < ct 3)) := has3 (k := 3) V D' (by decide) (by omega)
      rw [m3', zw_id (show -2147483648 ≤ (ct 3 : Int) ∧ (ct 3 : Int) < 2147483648 by omega), zw_id (show -2147483648 ≤ (i : Int) ∧ (i : Int) < 2147483648 by omega), if_neg (by omega), c0, c1, c2, ex, ey]
      simp only [zlet_v, k0, k1, k2, andb, zwB]
      rw [show zw 8 = 8 by decide, zw_id (show -2147483648 ≤ (x : Int) ∧ (x : Int) < 2147483648 by omega), zw_id (show -2147483648 ≤ (y : Int) ∧ (y : Int) < 2147483648 by omega)]
      have e1 : (1 : Int) = bI true := rfl
      have e0 : (0 : Int) = bI false := rfl
      have w1 : ∀ b : Bool, fX1_isWhole_c185 N 3 (fX1_isWhole_c106 N 3 m) (i : Int) (x : Int) (y : Int) (bI b) (bI (allB (pR ct t) i a && decide (0 ≤ t (96 + 4 * i) ∧ t (96 + 4 * i) < ct 2))) s = fX1_isWhole_c106 N 3 m (bI (allB (pR ct t) i a && decide (0 ≤ t (96 + 4 * i) ∧ t (96 + 4 * i) < ct 2) && b)) ((i + 1 : Nat) : Int) (zs s 21 i ((wI t i : Nat) : Int)) := fun b => by
        rw [c185X (by omega) (by omega) (by omega)]
        unfold wI
        rw [ex, ey, Int.toNat_natCast, Int.toNat_natCast]
      have w1' := w1 true
      have w0' := w1 false
      rw [show bI true = (1 : Int) from rfl] at w1'
      rw [show bI false = (0 : Int) from rfl] at w0'
      rw [w1', w0']
      have fin : ∀ b : Bool, b = (tld ct (t (97 + 4 * i)) && tld ct (t (98 + 4 * i))) → fX1_isWhole_c106 N 3 m (bI (allB (pR ct t) i a && decide (0 ≤ t (96 + 4 * i) ∧ t (96 + 4 * i) < ct 2) && b)) ((i + 1 : Nat) : Int) (zs s 21 i ((wI t i : Nat) : Int)) = fX1_isWhole_c106 N 3 m (bI (allB (pR ct t) (i + 1) a)) ((i + 1 : Nat) : Int) (zs s 21 i ((wI t i : Nat) : Int)) := fun b eb => by
        show _ = fX1_isWhole_c106 N 3 m (bI (allB (pR ct t) i a && pR ct t i)) _ _
        unfold pR
        rw [eb, show decide (0 ≤ t (96 + 4 * i) ∧ t (96 + 4 * i) < ct 2) = decide (t (96 + 4 * i) < ct 2) from decide_eq_decide.mpr ⟨fun h => h.2, fun h => ⟨r0.1, h⟩⟩, Bool.and_assoc, Bool.and_assoc]
      have t1 : tld ct (t (97 + 4 * i)) = decide (x = 8 ∨ x < ct 3) := by
        unfold tld; rw [ex]; exact decide_eq_decide.mpr (by omega)
      have t2 : tld ct (t (98 + 4 * i)) = decide (y = 8 ∨ y < ct 3) := by
        unfold tld; rw [ey]; exact decide_eq_decide.mpr (by omega)
      rw [t1, t2] at fin
      by_cases x8 : x = 8
      · rw [if_pos (by omega)]
        by_cases y8 : y = 8
        · rw [if_pos (by omega)]
          exact fin true (by rw [decide_eq_true (Or.inl x8), decide_eq_true (Or.inl y8)]; rfl)
        · rw [if_neg (by omega)]
          by_cases yc : y < ct 3
          · rw [decide_eq_true (show 0 ≤ (y : Int) ∧ (y : Int) < ct 3 by omega), if_neg (show ¬ bI true = 0 by decide)]
            exact fin true (by rw [decide_eq_true (Or.inl x8), decide_eq_true (Or.inr yc)]; rfl)
          · rw [decide_eq_false (show ¬ (0 ≤ (y : Int) ∧ (y : Int) < ct 3) by omega), if_pos (show bI false = 0 from rfl)]
            exact fin false (by rw [decide_eq_false (show ¬ (y = 8 ∨ y < ct 3) by omega), Bool.and_false])
      · rw [if_neg (by omega)]
        by_cases xc : x < ct 3
        · rw [decide_eq_true (show 0 ≤ (x : Int) ∧ (x : Int) < ct 3 by omega), if_neg (show ¬ bI true = 0 by decide)]
          by_cases y8 : y = 8
          · rw [if_pos (by omega)]
            exact fin true (by rw [decide_eq_true (Or.inr xc), decide_eq_true (Or.inl y8)]; rfl)
          · rw [if_neg (by omega)]
            by_cases yc : y < ct 3
            · rw [decide_eq_true (show 0 ≤ (y : Int) ∧ (y : Int) < ct 3 by omega), if_neg (show ¬ bI true = 0 by decide)]
              exact fin true (by rw [decide_eq_true (Or.inr xc), decide_eq_true (Or.inr yc)]; rfl)
            · rw [decide_eq_false (show ¬ (0 ≤ (y : Int) ∧ (y : Int) < ct 3) by omega), if_pos (show bI false = 0 from rfl)]
              exact fin false (by rw [decide_eq_false (show ¬ (y = 8 ∨ y < ct 3) by omega), Bool.and_false])
        · rw [decide_eq_false (show ¬ (0 ≤ (x : Int) ∧ (x : Int) < ct 3) by omega), if_pos (show bI false = 0 from rfl)]
          exact fin false (by rw [decide_eq_false (show ¬ (x = 8 ∨ x < ct 3) by omega), Bool.false_and])
    · by_cases e : r = i
      · rw [e]
        show zs s 21 i ((wI t i : Nat) : Int) 21 i = _
        exact zs_at
      · exact (zs_ne e).trans (W r (by omega))
  · obtain ⟨s1, s⟩ := s
    obtain ⟨e1, F, W⟩ := hI
    have e1 : s1 = bI (allB (pR ct t) (ct 3) a) := e1
    subst e1
    have D' := DX_21 D F
    have m3' : fX1_many 3 3 s = (ct 3 : Int) := (many3 (k := 3) (by decide) s).trans (D'.1 3 (by decide))
    refine ⟨s, ?_, F, W⟩
    show fX1_isWhole_c106b N 3 (fX1_isWhole_c106 N 3 m) _ (ct 3 : Int) s = _
    unfold fX1_isWhole_c106b
    rw [m3', if_pos (Int.le_refl _), if_pos (bI01 _)]
theorem w74X {N : Nat} (hN : 300 ≤ N) {ct : Nat → Nat} {t : Nat → Int} (V : DV ct) (C : CR ct t) {h : zH} (D : DX ct t h) (a : Bool) : ∃ h', fX1_isWhole_c74 N 3 N (bI a) 0 h = some (bI (allB (pR ct t) (ct 3) (allB (pP ct t) (ct 1) a)), h') ∧ FR [21] h h' ∧ ∀ r, r < ct 3 → h' 21 r = (wI t r : Int) := by
  have v1 := V 1 (by decide)
  have v3 := V 3 (by decide)
  have m1 : mxI 1 = 6 := rfl
  have m3 : mxI 3 = 8 := rfl
  have m1' : fX1_many 3 1 h = (ct 1 : Int) := (many3 (k := 1) (by decide) h).trans (D.1 1 (by decide))
  refine zloopq (F := fun m i (s : Int) => fX1_isWhole_c74 N 3 m s i h) (n := ct 1) (s := bI a) (fun i s => s = bI (allB (pP ct t) i a)) (fun r => ∃ h', r = some (bI (allB (pR ct t) (ct 3) (allB (pP ct t) (ct 1) a)), h') ∧ FR [21] h h' ∧ ∀ r, r < ct 3 → h' 21 r = (wI t r : Int)) (fun m i s hi hI => ?_) (fun m s hI => ?_) (show ct 1 < N by omega) rfl
  · have hI : s = bI (allB (pP ct t) i a) := hI
    subst hI
    left
    refine ⟨bI (allB (pP ct t) (i + 1) a), ?_, rfl⟩
    show fX1_isWhole_c74b N 3 (fX1_isWhole_c74 N 3 m) _ (i : Int) h = fX1_isWhole_c74 N 3 m (bI (allB (pP ct t) i a && pP ct t i)) _ _
    unfold fX1_isWhole_c74b
    have r0 := CR_b C (show 1 < 4 by decide) hi (show 0 < itN 1 by decide)
    rw [show 32 * 1 + 4 * i + 0 = 32 + 4 * i by omega] at r0
    have c0 : fX1_item 3 1 (i : Int) 0 h = t (32 + 4 * i) := (item3 1 i 0 (by decide) (by omega) (by decide)).trans ((D.2 1 i 0 (by decide) (Or.inl hi) (by decide)).trans (by rw [show 32 * 1 + 4 * i + 0 = 32 + 4 * i by omega]))
    have k0 : fX1_has 3 3 (t (32 + 4 * i)) h = bI (decide (0 ≤ t (32 + 4 * i) ∧ t (32 + 4 * i) < ct 3)) := has3 (k := 3) V D (by decide) (by omega)
    rw [m1', zw_id (show -2147483648 ≤ (ct 1 : Int) ∧ (ct 1 : Int) < 2147483648 by omega), zw_id (show -2147483648 ≤ (i : Int) ∧ (i : Int) < 2147483648 by omega), if_neg (by omega), c0, k0, andb, zlet_v]
    unfold pP
    rw [show decide (0 ≤ t (32 + 4 * i) ∧ t (32 + 4 * i) < ct 3) = decide (t (32 + 4 * i) < ct 3) from decide_eq_decide.mpr ⟨fun h => h.2, fun h => ⟨r0.1, h⟩⟩]
    rfl
  · have hI : s = bI (allB (pP ct t) (ct 1) a) := hI
    subst hI
    have e : fX1_isWhole_c74 N 3 (m + 1) (bI (allB (pP ct t) (ct 1) a)) (ct 1 : Int) h = fX1_isWhole_c106 N 3 N (bI (allB (pP ct t) (ct 1) a)) 0 h := by
      show fX1_isWhole_c74b N 3 (fX1_isWhole_c74 N 3 m) _ (ct 1 : Int) h = _
      unfold fX1_isWhole_c74b
      rw [m1', if_pos (Int.le_refl _)]
    show ∃ h', fX1_isWhole_c74 N 3 (m + 1) (bI (allB (pP ct t) (ct 1) a)) (ct 1 : Int) h = _ ∧ _
    rw [e]
    exact w106X hN V C D _
theorem w32X {N : Nat} (hN : 300 ≤ N) {ct : Nat → Nat} {t : Nat → Int} (V : DV ct) (C : CR ct t) {h : zH} (D : DX ct t h) (a : Bool) : ∃ h', fX1_isWhole_c32 N 3 N (bI a) 0 h = some (bI (allB (pR ct t) (ct 3) (allB (pP ct t) (ct 1) (allB (pD t) (ct 2) a))), h') ∧ FR [21] h h' ∧ ∀ r, r < ct 3 → h' 21 r = (wI t r : Int) := by
  have v2 := V 2 (by decide)
  have m2 : mxI 2 = 4 := rfl
  have m2' : fX1_many 3 2 h = (ct 2 : Int) := (many3 (k := 2) (by decide) h).trans (D.1 2 (by decide))
  refine zloopq (F := fun m i (s : Int) => fX1_isWhole_c32 N 3 m s i h) (n := ct 2) (s := bI a) (fun i s => s = bI (allB (pD t) i a)) (fun r => ∃ h', r = some (bI (allB (pR ct t) (ct 3) (allB (pP ct t) (ct 1) (allB (pD t) (ct 2) a))), h') ∧ FR [21] h h' ∧ ∀ r, r < ct 3 → h' 21 r = (wI t r : Int)) (fun m i s hi hI => ?_) (fun m s hI => ?_) (show ct 2 < N by omega) rfl
  · have hI : s = bI (allB (pD t) i a) := hI
    subst hI
    left
    refine ⟨bI (allB (pD t) (i + 1) a), ?_, rfl⟩
    show fX1_isWhole_c32b N 3 (fX1_isWhole_c32 N 3 m) _ (i : Int) h = fX1_isWhole_c32 N 3 m (bI (allB (pD t) i a && pD t i)) _ _
    unfold fX1_isWhole_c32b
    have r0 := CR_b C (show 2 < 4 by decide) hi (show 0 < itN 2 by decide)
    have r1 := CR_b C (show 2 < 4 by decide) hi (show 1 < itN 2 by decide)
    rw [show 32 * 2 + 4 * i + 0 = 64 + 4 * i by omega] at r0
    rw [show 32 * 2 + 4 * i + 1 = 65 + 4 * i by omega] at r1
    have c0 : fX1_item 3 2 (i : Int) 0 h = t (64 + 4 * i) := (item3 2 i 0 (by decide) (by omega) (by decide)).trans ((D.2 2 i 0 (by decide) (Or.inl hi) (by decide)).trans (by rw [show 32 * 2 + 4 * i + 0 = 64 + 4 * i by omega]))
    have c1 : fX1_item 3 2 (i : Int) 1 h = t (65 + 4 * i) := (item3 2 i 1 (by decide) (by omega) (by decide)).trans ((D.2 2 i 1 (by decide) (Or.inl hi) (by decide)).trans (by rw [show 32 * 2 + 4 * i + 1 = 65 + 4 * i by omega]))
    rw [m2', zw_id (show -2147483648 ≤ (ct 2 : Int) ∧ (ct 2 : Int) < 2147483648 by omega), zw_id (show -2147483648 ≤ (i : Int) ∧ (i : Int) < 2147483648 by omega), if_neg (by omega), c0, c1, zw_id (show -2147483648 ≤ t (64 + 4 * i) ∧ t (64 + 4 * i) < 2147483648 by omega), zw_id (show -2147483648 ≤ t (65 + 4 * i) ∧ t (65 + 4 * i) < 2147483648 by omega)]
    have b0 := andb (allB (pD t) i a) false
    have b1 := andb (allB (pD t) i a) true
    rw [show bI false = (0 : Int) from rfl] at b0
    rw [show bI true = (1 : Int) from rfl] at b1
    rw [b0, b1]
    unfold pD
    by_cases c : t (64 + 4 * i) < t (65 + 4 * i)
    · rw [if_neg (by omega), decide_eq_true c]; rfl
    · rw [if_pos (by omega), decide_eq_false c]; rfl
  · have hI : s = bI (allB (pD t) (ct 2) a) := hI
    subst hI
    have e : fX1_isWhole_c32 N 3 (m + 1) (bI (allB (pD t) (ct 2) a)) (ct 2 : Int) h = fX1_isWhole_c74 N 3 N (bI (allB (pD t) (ct 2) a)) 0 h := by
      show fX1_isWhole_c32b N 3 (fX1_isWhole_c32 N 3 m) _ (ct 2 : Int) h = _
      unfold fX1_isWhole_c32b
      rw [m2', if_pos (Int.le_refl _)]
    show ∃ h', fX1_isWhole_c32 N 3 (m + 1) (bI (allB (pD t) (ct 2) a)) (ct 2 : Int) h = _ ∧ _
    rw [e]
    exact w74X hN V C D _
theorem wholeX {N : Nat} (hN : 300 ≤ N) {ct : Nat → Nat} {t : Nat → Int} (V : DV ct) (C : CR ct t) {h : zH} (D : DX ct t h) : ∃ h', fX1_isWhole N 3 h = some (bI (whB ct t), h') ∧ FR [21] h h' ∧ ∀ r, r < ct 3 → h' 21 r = (wI t r : Int) := by
  have v1 := V 1 (by decide)
  have v2 := V 2 (by decide)
  have v3 := V 3 (by decide)
  have m1 : mxI 1 = 6 := rfl
  have m2 : mxI 2 = 4 := rfl
  have m3 : mxI 3 = 8 := rfl
  have m1' : fX1_many 3 1 h = (ct 1 : Int) := (many3 (k := 1) (by decide) h).trans (D.1 1 (by decide))
  have m2' : fX1_many 3 2 h = (ct 2 : Int) := (many3 (k := 2) (by decide) h).trans (D.1 2 (by decide))
  have m3' : fX1_many 3 3 h = (ct 3 : Int) := (many3 (k := 3) (by decide) h).trans (D.1 3 (by decide))
  unfold fX1_isWhole whB
  rw [m1', m2', m3', zw_id (show -2147483648 ≤ (ct 1 : Int) ∧ (ct 1 : Int) < 2147483648 by omega), zw_id (show -2147483648 ≤ (ct 2 : Int) ∧ (ct 2 : Int) < 2147483648 by omega), zw_id (show -2147483648 ≤ (ct 3 : Int) ∧ (ct 3 : Int) < 2147483648 by omega)]
  have f := w32X hN V C D false
  have y := w32X hN V C D true
  by_cases c1 : 0 < ct 1
  · rw [if_neg (by omega)]
    by_cases c2 : 0 < ct 2
    · rw [if_neg (by omega)]
      by_cases c3 : 0 < ct 3
      · rw [if_neg (by omega), decide_eq_true ⟨c1, c2, c3⟩]; exact y
      · rw [if_pos (by omega), decide_eq_false (fun h => c3 h.2.2)]; exact f
    · rw [if_pos (by omega), decide_eq_false (fun h => c2 h.2.1)]; exact f
  · rw [if_pos (by omega), decide_eq_false (fun h => c1 h.1)]; exact f
