/-! what a hill's text says: its fault, and that it is valid -/
def hF (n : Nat) (b : Nat → Nat) : Int := if (hAll n b).1 = -1 then (if whB (hAll n b).2.1 (hAll n b).2.2 = true then -1 else (n : Int)) else (hAll n b).1
theorem hR_b {n : Nat} {b : Nat → Nat} (m : Nat) : ∀ (p : Nat) (ct : Nat → Nat) (t : Nat → Int), p ≤ n → DV ct → -1 ≤ (hR n b m p ct t).1 ∧ (hR n b m p ct t).1 ≤ n := by
  induction m with
  | zero => intro p ct t hp V; exact ⟨(show (-1 : Int) ≤ 0 by decide), by show (0 : Int) ≤ n; omega⟩
  | succ m ih =>
    intro p ct t hp V
    unfold hR
    by_cases cf : clF n b p ct = -1
    · obtain ⟨z1, z2, z3⟩ := clE_b hp cf
      rw [if_pos cf]
      have sk := skp_b (b := b) z2
      by_cases c59 : sg n b (hEn n b p) = 59
      · have hlt : hEn n b p < n := sg_lt (show sg n b (hEn n b p) ≠ -1 by omega)
        rw [if_pos c59]
        exact ih _ _ _ (by omega) (DV_1 V z3)
      · rw [if_neg c59]
        have e : hEn n b p ≤ n := sk.2.1
        show -1 ≤ (if sg n b (hEn n b p) = -1 then (-1 : Int) else (hEn n b p : Int)) ∧ (if sg n b (hEn n b p) = -1 then (-1 : Int) else (hEn n b p : Int)) ≤ n
        split <;> omega
    · rw [if_neg cf]
      exact clF_b hp
theorem hAll_b {n : Nat} {b : Nat → Nat} : -1 ≤ (hAll n b).1 ∧ (hAll n b).1 ≤ n := hR_b 121 0 _ _ (Nat.zero_le n) (fun k _ => Nat.zero_le _)
theorem hF_b {n : Nat} {b : Nat → Nat} : -1 ≤ hF n b ∧ hF n b ≤ n := by
  have := hAll_b (n := n) (b := b)
  unfold hF
  split
  · split <;> omega
  · exact this
theorem hF_ok {n : Nat} {b : Nat → Nat} (h : hF n b = -1) : (hAll n b).1 = -1 ∧ whB (hAll n b).2.1 (hAll n b).2.2 = true := by
  unfold hF at h
  by_cases c : (hAll n b).1 = -1
  · rw [if_pos c] at h
    by_cases w : whB (hAll n b).2.1 (hAll n b).2.2 = true
    · exact ⟨c, w⟩
    · rw [if_neg w] at h; omega
  · rw [if_neg c] at h; exact absurd h c
theorem allB_t {P : Nat → Bool} (n : Nat) {a : Bool} (h : allB P n a = true) : a = true ∧ ∀ i, i < n → P i = true := by
  induction n with
  | zero => exact ⟨h, fun i hi => absurd hi (by omega)⟩
  | succ n ih =>
    obtain ⟨h1, h2⟩ := Bool.and_eq_true_iff.mp (show (allB P n a && P n) = true from h)
    obtain ⟨i1, i2⟩ := ih h1
    refine ⟨i1, fun i hi => ?_⟩
    by_cases e : i = n
    · rw [e]; exact h2
    · exact i2 i (by omega)
theorem rngs : (loI 0 0 = 0 ∧ hiI 0 0 = 23) ∧ (loI 0 1 = 0 ∧ hiI 0 1 = 24) ∧ (loI 1 0 = 0 ∧ hiI 1 0 = 7) ∧ (loI 1 1 = 1 ∧ hiI 1 1 = 24) ∧ (loI 1 2 = 0 ∧ hiI 1 2 = 9) ∧ (loI 2 0 = 0 ∧ hiI 2 0 = 23) ∧ (loI 2 1 = 1 ∧ hiI 2 1 = 24) ∧ (loI 2 2 = 1 ∧ hiI 2 2 = 9) ∧ (loI 2 3 = 0 ∧ hiI 2 3 = 9) ∧ (loI 3 0 = 0 ∧ hiI 3 0 = 3) := by decide +kernel
def tN (t : Nat → Int) (q : Nat) : Nat := (t q).toNat
theorem whB_HV {ct : Nat → Nat} {t : Nat → Int} (V : DV ct) (C : CR ct t) (W : whB ct t = true) : HV (ct 1) (ct 2) (ct 3) (tN t) ∧ 0 < ct 1 := by
  have v1 := V 1 (by decide)
  have v2 := V 2 (by decide)
  have v3 := V 3 (by decide)
  have m1 : mxI 1 = 6 := rfl
  have m2 : mxI 2 = 4 := rfl
  have m3 : mxI 3 = 8 := rfl
  obtain ⟨w1, wR⟩ := allB_t (ct 3) (show allB (pR ct t) (ct 3) (allB (pP ct t) (ct 1) (allB (pD t) (ct 2) (decide (0 < ct 1 ∧ 0 < ct 2 ∧ 0 < ct 3)))) = true from W)
  obtain ⟨w2, wP⟩ := allB_t (ct 1) w1
  obtain ⟨w3, wD⟩ := allB_t (ct 2) w2
  have w4 := of_decide_eq_true w3
  obtain ⟨g00, g01, g10, g11, g12, g20, g21, g22, g23, g30⟩ := rngs
  obtain ⟨g1, g2, g3, g4⟩ := hi3
  refine ⟨⟨⟨by omega, by omega, by omega⟩, fun _ => ⟨w4.2.1, w4.2.2⟩, ?_, fun p hp => ?_, fun d hd => ?_, fun r hr => ?_⟩, w4.1⟩
  · have a := C 0 0 0 (by decide) (Or.inr ⟨rfl, rfl⟩) (by decide)
    have b := C 0 0 1 (by decide) (Or.inr ⟨rfl, rfl⟩) (by decide)
    rw [g00.1, g00.2] at a
    rw [g01.1, g01.2] at b
    rw [show 32 * 0 + 4 * 0 + 0 = 0 from rfl] at a
    rw [show 32 * 0 + 4 * 0 + 1 = 1 from rfl] at b
    unfold tN
    omega
  · have a := C 1 p 0 (by decide) (Or.inl hp) (by decide)
    have b := C 1 p 1 (by decide) (Or.inl hp) (by decide)
    have c := C 1 p 2 (by decide) (Or.inl hp) (by decide)
    rw [g10.1, g10.2, show 32 * 1 + 4 * p + 0 = 32 + 4 * p by omega] at a
    rw [g11.1, g11.2, show 32 * 1 + 4 * p + 1 = 33 + 4 * p by omega] at b
    rw [g12.1, g12.2, show 32 * 1 + 4 * p + 2 = 34 + 4 * p by omega] at c
    have d : t (32 + 4 * p) < ct 3 := of_decide_eq_true (wP p hp)
    unfold tN
    omega
  · have a := C 2 d 0 (by decide) (Or.inl hd) (by decide)
    have b := C 2 d 1 (by decide) (Or.inl hd) (by decide)
    have c := C 2 d 2 (by decide) (Or.inl hd) (by decide)
    have e := C 2 d 3 (by decide) (Or.inl hd) (by decide)
    rw [g20.1, g20.2, show 32 * 2 + 4 * d + 0 = 64 + 4 * d by omega] at a
    rw [g21.1, g21.2, show 32 * 2 + 4 * d + 1 = 65 + 4 * d by omega] at b
    rw [g22.1, g22.2, show 32 * 2 + 4 * d + 2 = 66 + 4 * d by omega] at c
    rw [g23.1, g23.2, show 32 * 2 + 4 * d + 3 = 67 + 4 * d by omega] at e
    have f : t (64 + 4 * d) < t (65 + 4 * d) := of_decide_eq_true (wD d hd)
    unfold tN
    omega
  · have a := C 3 r 0 (by decide) (Or.inl hr) (by decide)
    have b := C 3 r 1 (by decide) (Or.inl hr) (by decide)
    have c := C 3 r 2 (by decide) (Or.inl hr) (by decide)
    rw [g30.1, g30.2, show 32 * 3 + 4 * r + 0 = 96 + 4 * r by omega] at a
    rw [g1, g3, show 32 * 3 + 4 * r + 1 = 97 + 4 * r by omega] at b
    rw [g2, g4, show 32 * 3 + 4 * r + 2 = 98 + 4 * r by omega] at c
    have w : (decide (t (96 + 4 * r) < ct 2) && tld ct (t (97 + 4 * r)) && tld ct (t (98 + 4 * r))) = true := wR r hr
    obtain ⟨x, x3⟩ := Bool.and_eq_true_iff.mp w
    obtain ⟨x1, x2⟩ := Bool.and_eq_true_iff.mp x
    have y1 : t (96 + 4 * r) < ct 2 := of_decide_eq_true x1
    have y2 : t (97 + 4 * r) = 8 ∨ t (97 + 4 * r) < ct 3 := of_decide_eq_true x2
    have y3 : t (98 + 4 * r) = 8 ∨ t (98 + 4 * r) < ct 3 := of_decide_eq_true x3
    unfold tN
    omega
/-- the counts and the cells that a hill's text tells -/
abbrev hC (n : Nat) (b : Nat → Nat) : Nat → Nat := (hAll n b).2.1
abbrev hT (n : Nat) (b : Nat → Nat) : Nat → Nat := tN (hAll n b).2.2
theorem CR_N {ct : Nat → Nat} {t : Nat → Int} (C : CR ct t) {k i j : Nat} (hk : k < 4) (hi : i < ct k ∨ (k = 0 ∧ i = 0)) (hj : j < itN k) : t (32 * k + 4 * i + j) = (tN t (32 * k + 4 * i + j) : Int) := by
  have c := C k i j hk hi hj
  obtain ⟨_, _, _, q1, q2, _⟩ := rng_eq k hk j hj
  have a1 : 0 ≤ loI k j := q1.1
  unfold tN
  omega
theorem wI_wm (t : Nat → Int) (r : Nat) : wI t r = wm (tN t) r := rfl
theorem fault0X {n : Nat} {b : Nat → Nat} (T : TV n b) {N : Nat} (hN : 300 ≤ N) {h : zH} (H : TX n b h) : ∃ h', fX10_fault N 0 h = some (hF n b, h') ∧ FR [1, 19, 20, 21] h h' ∧ FS 1 [2, 3] h h' ∧ (hF n b = -1 → DV (hC n b) ∧ DX (hC n b) (hAll n b).2.2 h' ∧ ∀ r, r < hC n b 3 → h' 21 r = (wI (hAll n b).2.2 r : Int)) := by
  obtain ⟨h1, r1, r2, r3, r4⟩ := hillX T hN H
  have n240 := T.1
  have e0 : fX10_fault N 0 h = z2 (fX1_read N 3 h) fun v3 h2 => some (v3, h2) := by
    unfold fX10_fault
    rw [if_pos zw_0]
  rw [e0, r1]
  by_cases c : (hAll n b).1 = -1
  · obtain ⟨d1, d2, d3⟩ := r4 c
    obtain ⟨h2, w1, w2, w3⟩ := wholeX hN d2 hAll_CR d3
    have t1 : h2 1 3 = -1 := by rw [w2 1 (by decide)]; exact d1
    have t2 : h2 1 1 = (n : Int) := by rw [w2 1 (by decide), r3 1 (by decide)]; exact H.1
    have hf : hF n b = if whB (hAll n b).2.1 (hAll n b).2.2 = true then -1 else (n : Int) := by unfold hF; rw [if_pos c]
    rw [if_pos c]
    unfold hWh
    rw [w1, z2_some, hf]
    by_cases w : whB (hAll n b).2.1 (hAll n b).2.2 = true
    · rw [w, if_neg (show ¬ zw (bI true) = 0 by decide), if_pos rfl, t1, z2_some]
      exact ⟨h2, rfl, FR_tr (FR_up r2 (by decide)) (FR_up w2 (by decide)), FS_tr r3 (FS_of w2 (by decide)), fun _ => ⟨d2, DX_21 d3 w2, w3⟩⟩
    · have w' : whB (hAll n b).2.1 (hAll n b).2.2 = false := Bool.eq_false_iff.mpr w
      rw [w', if_pos (show zw (bI false) = 0 by decide), if_neg (by decide), blameX t1 (by omega), if_pos rfl, zlet_v, zs_at, t2, z2_some]
      exact ⟨_, rfl, FR_tr (FR_up r2 (by decide)) (FR_tr (FR_up w2 (by decide)) (fun b hb => zs_row_ne (fun e => hb (by rw [e]; decide)))), FS_tr r3 (FS_tr (FS_of w2 (by decide)) (fun q hq => zs_ne (fun e => hq (by rw [e]; decide)))), fun h => absurd h (by omega)⟩
  · have hf : hF n b = (hAll n b).1 := by unfold hF; rw [if_neg c]
    rw [if_neg c, hf, z2_some]
    exact ⟨h1, rfl, FR_up r2 (by decide), r3, fun h => absurd h c⟩
