/-! dawn of the reference -/
def ML (L : List (Nat × Nat)) (m : Nat → Int) : Prop := m 44 = (min 60 L.length : Nat) ∧ ∀ i, i < min 60 L.length → m (45 + 2 * (min 60 L.length - 1 - i)) = (L.getD i (0, 0)).2 ∧ m (46 + 2 * (min 60 L.length - 1 - i)) = (L.getD i (0, 0)).1
theorem note57 {N : Nat} {g : zH} {n : Nat} (hn : g 69 44 = (n : Int)) (h60 : n < 60) (w s : Int) : fX11_note_c57 N w s g = some (zs (zs (zs g 69 (45 + 2 * n) w) 69 (46 + 2 * n) s) 69 44 ((n : Int) + 1)) := by
  have e1 : zs g 69 (45 + 2 * n) w 69 44 = (n : Int) := by rw [zs_ne (by omega), hn]
  have e2 : zs (zs g 69 (45 + 2 * n) w) 69 (46 + 2 * n) s 69 44 = (n : Int) := by rw [zs_ne (by omega), e1]
  unfold fX11_note_c57
  simp only [zlet_v]
  rw [hn, zw_id (show -2147483648 ≤ 45 + 2 * (n : Int) ∧ 45 + 2 * (n : Int) < 2147483648 by omega), if_pos (by omega), show (45 + 2 * (n : Int)).toNat = 45 + 2 * n by omega, e1, zw_id (show -2147483648 ≤ 45 + 2 * (n : Int) + 1 ∧ 45 + 2 * (n : Int) + 1 < 2147483648 by omega), if_pos (by omega), show (45 + 2 * (n : Int) + 1).toNat = 46 + 2 * n by omega, e2]
theorem note14 {N : Nat} (hN : 200 ≤ N) {g : zH} (hn : g 69 44 = 60) (w s : Int) : ∃ g', fX11_note_c14 N N w s 2 g = fX11_note_c57 N w s g' ∧ (∀ b, b ≠ 69 → g' b = g b) ∧ g' 69 44 = 59 ∧ (∀ j, j < 44 → g' 69 j = g 69 j) ∧ ∀ j, 45 ≤ j → j < 163 → g' 69 j = g 69 (j + 2) := by
  suffices H : ∃ g', fX11_note_c14 N N w s (0 + 2) g = fX11_note_c57 N w s g' ∧ (∀ b, b ≠ 69 → g' b = g b) ∧ g' 69 44 = 59 ∧ (∀ j, j < 44 → g' 69 j = g 69 j) ∧ ∀ j, 45 ≤ j → j < 163 → g' 69 j = g 69 (j + 2) from H
  refine zloopq (N := N) (F := fun k i (x : zH) => fX11_note_c14 N k w s (i + 2) x) (n := 118) (s := g) (fun i x => (∀ b, b ≠ 69 → x b = g b) ∧ (∀ j, j < 45 ∨ 45 + i ≤ j → x 69 j = g 69 j) ∧ ∀ j, 45 ≤ j → j < 45 + i → x 69 j = g 69 (j + 2)) (fun b => ∃ g', b = fX11_note_c57 N w s g' ∧ (∀ b, b ≠ 69 → g' b = g b) ∧ g' 69 44 = 59 ∧ (∀ j, j < 44 → g' 69 j = g 69 j) ∧ ∀ j, 45 ≤ j → j < 163 → g' 69 j = g 69 (j + 2)) (fun k i x hi hI => ?_) (fun k x hI => ?_) (by omega) ⟨fun _ _ => rfl, fun _ _ => rfl, fun j h1 h2 => absurd h2 (by omega)⟩
  · obtain ⟨i1, i2, i3⟩ := hI
    left
    refine ⟨zs x 69 (45 + i) (x 69 (47 + i)), ?_, fun b hb => by rw [zs_row_ne hb, i1 b hb], fun j hj => ?_, fun j h1 h2 => ?_⟩
    · show fX11_note_c14b N (fX11_note_c14 N k) _ _ _ _ = _
      unfold fX11_note_c14b
      simp only [zlet_v]
      rw [zw_id (show -2147483648 ≤ (120 : Int) ∧ (120 : Int) < 2147483648 by omega), zw_id (show -2147483648 ≤ (i : Int) + 2 ∧ (i : Int) + 2 < 2147483648 by omega), if_neg (by omega), zw_id (show -2147483648 ≤ 45 + ((i : Int) + 2) ∧ 45 + ((i : Int) + 2) < 2147483648 by omega), zw_id (show -2147483648 ≤ 45 + ((i : Int) + 2) - 2 ∧ 45 + ((i : Int) + 2) - 2 < 2147483648 by omega), if_pos (by omega), if_pos (by omega), show (45 + ((i : Int) + 2)).toNat = 47 + i by omega, show (45 + ((i : Int) + 2) - 2).toNat = 45 + i by omega, show (i : Int) + 2 + 1 = ((i + 1 : Nat) : Int) + 2 by omega]
    · rw [zs_ne (by omega), i2 j (by omega)]
    · by_cases hj : j = 45 + i
      · subst hj
        rw [zs_at, i2 _ (by omega), show 45 + i + 2 = 47 + i by omega]
      · rw [zs_ne hj, i3 j h1 (by omega)]
  · obtain ⟨i1, i2, i3⟩ := hI
    refine ⟨zs x 69 44 59, ?_, fun b hb => by rw [zs_row_ne hb, i1 b hb], zs_at, fun j hj => by rw [zs_ne (by omega), i2 j (by omega)], fun j h1 h2 => by rw [zs_ne (by omega), i3 j h1 (by omega)]⟩
    show fX11_note_c14b N (fX11_note_c14 N k) _ _ _ _ = _
    unfold fX11_note_c14b
    rw [if_pos (by decide), i2 44 (by omega), hn, zlet_v, show (60 : Int) - 1 = 59 by decide]
theorem noteM {N : Nat} (hN : 200 ≤ N) {g : zH} {L : List (Nat × Nat)} (H : ML L (g 69)) (w s : Nat) : ∃ g', fX11_note N (w : Int) (s : Int) g = some g' ∧ (∀ b, b ≠ 69 → g' b = g b) ∧ (∀ j, j < 44 → g' 69 j = g 69 j) ∧ ML ((s, w) :: L) (g' 69) := by
  obtain ⟨h1, h2⟩ := H
  have zw60 : zw 60 = 60 := by decide
  by_cases hc : L.length < 60
  · have hn : g 69 44 = (L.length : Int) := by rw [h1]; omega
    refine ⟨zs (zs (zs g 69 (45 + 2 * L.length) w) 69 (46 + 2 * L.length) s) 69 44 ((L.length : Int) + 1), ?_, ?_, ?_, ?_⟩
    · unfold fX11_note
      rw [hn, zw_id (show -2147483648 ≤ (L.length : Int) ∧ (L.length : Int) < 2147483648 by omega), zw60, if_neg (by omega)]
      exact note57 hn hc _ _
    · exact fun b hb => by rw [zs_row_ne hb, zs_row_ne hb, zs_row_ne hb]
    · exact fun j hj => by rw [zs_ne (by omega), zs_ne (by omega), zs_ne (by omega)]
    · have e0 : min 60 ((s, w) :: L).length = L.length + 1 := by rw [List.length_cons]; omega
      have e1 : min 60 L.length = L.length := by omega
      unfold ML
      rw [e0]
      rw [e1] at h2
      simp only [zs_zup]
      refine ⟨by rw [zup_at]; omega, fun i hi => ?_⟩
      cases i with
      | zero =>
        have e2 : L.length + 1 - 1 - 0 = L.length := by omega
        rw [e2]
        refine ⟨?_, ?_⟩
        · simp (disch := omega) only [zup_is, zup_ne]; rfl
        · simp (disch := omega) only [zup_is, zup_ne]; rfl
      | succ i =>
        have e2 : L.length + 1 - 1 - (i + 1) = L.length - 1 - i := by omega
        rw [e2]
        obtain ⟨r1, r2⟩ := h2 i (by omega)
        refine ⟨?_, ?_⟩
        · simp (disch := omega) only [zup_ne]; exact r1
        · simp (disch := omega) only [zup_ne]; exact r2
  · have hn : g 69 44 = 60 := by rw [h1]; omega
    obtain ⟨g', e1, e2, e3, e4, e5⟩ := note14 hN hn (w : Int) (s : Int)
    have e3' : g' 69 44 = ((59 : Nat) : Int) := e3
    refine ⟨zs (zs (zs g' 69 (45 + 2 * 59) w) 69 (46 + 2 * 59) s) 69 44 (((59 : Nat) : Int) + 1), ?_, ?_, ?_, ?_⟩
    · unfold fX11_note
      rw [hn, if_pos rfl, e1]
      exact note57 e3' (by decide) _ _
    · exact fun b hb => by rw [zs_row_ne hb, zs_row_ne hb, zs_row_ne hb, e2 b hb]
    · exact fun j hj => by rw [zs_ne (by omega), zs_ne (by omega), zs_ne (by omega), e4 j hj]
    · have q0 : min 60 ((s, w) :: L).length = 60 := by rw [List.length_cons]; omega
      have q1 : min 60 L.length = 60 := by omega
      unfold ML
      rw [q0]
      rw [q1] at h2
      simp only [zs_zup]
      refine ⟨zup_at, fun i hi => ?_⟩
      cases i with
      | zero =>
        refine ⟨?_, ?_⟩
        · simp (disch := omega) only [zup_is, zup_ne]; rfl
        · simp (disch := omega) only [zup_is, zup_ne]; rfl
      | succ i =>
        obtain ⟨r1, r2⟩ := h2 i (by omega)
        refine ⟨?_, ?_⟩
        · simp (disch := omega) only [zup_ne]
          rw [e5 _ (by omega) (by omega), show 45 + 2 * (60 - 1 - (i + 1)) + 2 = 45 + 2 * (60 - 1 - i) by omega]
          exact r1
        · simp (disch := omega) only [zup_ne]
          rw [e5 _ (by omega) (by omega), show 46 + 2 * (60 - 1 - (i + 1)) + 2 = 46 + 2 * (60 - 1 - i) by omega]
          exact r2
theorem da96 {np nd nr : Nat} {t : Nat → Nat} {a : hSt} {g : zH} (V : HV np nd nr t) (M : HM np nd nr t g) {dark : Bool} (hH : ∀ p, p < np → g 69 (7 * p) = (aH a p : Int) ∧ aH a p < 256) {N : Nat} (hN : 8 ≤ N) (s : Int) : ∃ g', fX11_dawn_c96 N N (bset (dwho t dark a) np : Nat) s 0 g = zb (fX11_note N (bset (dwho t dark a) np : Nat) s g') (fun h2 => some h2) ∧ (∀ b, b ≠ 69 → g' b = g b) ∧ (∀ j, (∀ p, p < np → j ≠ 7 * p) → g' 69 j = g 69 j) ∧ ∀ p, p < np → g' 69 (7 * p) = (aH (aDawn np t dark a) p : Nat) := by
  have v := V.1
  have hf : ∀ o, o < np → t (32 + 4 * o) < 8 := fun o ho => by have := (V.2.2.2.1 o ho).1; omega
  have hb64 := (aDawn_b V (dark := dark) (a := a) (Nat.le_refl np)).2
  refine zloopq (F := fun k i (x : zH) => fX11_dawn_c96 N k (bset (dwho t dark a) np : Nat) s i x) (n := np) (s := g) (fun i x => (∀ b, b ≠ 69 → x b = g b) ∧ (∀ j, (∀ p, p < i → j ≠ 7 * p) → x 69 j = g 69 j) ∧ ∀ p, p < i → x 69 (7 * p) = (aH (aDawn np t dark a) p : Nat)) (fun b => ∃ g', b = zb (fX11_note N (bset (dwho t dark a) np : Nat) s g') (fun h2 => some h2) ∧ (∀ b, b ≠ 69 → g' b = g b) ∧ (∀ j, (∀ p, p < np → j ≠ 7 * p) → g' 69 j = g 69 j) ∧ ∀ p, p < np → g' 69 (7 * p) = (aH (aDawn np t dark a) p : Nat)) (fun k i x hi hI => ?_) (fun k x hI => ?_) (by omega) ⟨fun _ _ => rfl, fun _ _ => rfl, fun p hp => absurd hp (Nat.not_lt_zero _)⟩
  · obtain ⟨i1, i2, i3⟩ := hI
    have Mx : HM np nd nr t x := HM_to M (by rw [i1 14 (by decide)]; exact ⟨rfl, rfl, rfl⟩) (i1 63 (by decide)) (i1 64 (by decide)) (i1 65 (by decide)) (i1 66 (by decide))
    have hx : x 69 (7 * i) = (aH a i : Int) := by rw [i2 _ (fun p hp => by omega), (hH i hi).1]
    have h8 := (hH i hi).2
    have f8 := hf i hi
    left
    refine ⟨zs x 69 (7 * i) (aH (aDawn np t dark a) i : Nat), ?_, fun b hb => by rw [zs_row_ne hb, i1 b hb], fun j hj => ?_, fun p hp => ?_⟩
    · show fX11_dawn_c96b N (fX11_dawn_c96 N k) _ _ _ _ = _
      unfold fX11_dawn_c96b
      rw [Mx.1.1, zw_id (show -2147483648 ≤ (np : Int) ∧ (np : Int) < 2147483648 by omega), zw_id (show -2147483648 ≤ (i : Int) ∧ (i : Int) < 2147483648 by omega), if_neg (by omega), has_tab _ (by omega) i (by omega), om_0 (by omega), zb_some, hx, pm_0 (by omega), zb_some, zb_some, mform V Mx hi, zb_some, zshl_1 _ (by omega)]
      have p8 : 2 ^ t (32 + 4 * i) < 2 ^ 8 := Nat.pow_lt_pow_right (by decide) f8
      rw [zandn_nat (by omega) (by omega), pm_0 (by omega), zb_some, bset_bit, decide_eq_true hi, Bool.true_and]
      have eh : aH (aDawn np t dark a) i = if dwho t dark a i then bdiff (aH a i) (2 ^ t (32 + 4 * i)) else aH a i := rfl
      rw [eh]
      cases dwho t dark a i with
      | false => exact if_pos (by decide)
      | true => exact if_neg (by decide)
    · rw [zs_ne (hj i (by omega)), i2 j (fun p hp => hj p (by omega))]
    · by_cases hpi : p = i
      · subst hpi; exact zs_at
      · rw [zs_ne (by omega)]; exact i3 p (by omega)
  · obtain ⟨i1, i2, i3⟩ := hI
    refine ⟨x, ?_, i1, i2, i3⟩
    show fX11_dawn_c96b N (fX11_dawn_c96 N k) _ _ _ _ = _
    unfold fX11_dawn_c96b
    rw [i1 14 (by decide), M.1.1, if_pos (by omega)]
theorem por_congr {np : Nat} {t : Nat → Nat} {ch ch' : Nat → Int} (h : ∀ o, o < np → ch o = ch' o) {p : Nat} (hp : p < np) : por np t ch p = por np t ch' p := by
  unfold por
  rw [h p hp, cntE_congr (ch := ch) (ch' := ch') (v := ch' p) (v' := ch' p) (fun o ho => by rw [h o ho]), cntL_congr (ch := ch) (ch' := ch') (v := ch' p) (v' := ch' p) (fun o ho => by rw [h o ho])]
theorem da54 {np nd nr : Nat} {t : Nat → Nat} {a : hSt} {g : zH} (V : HV np nd nr t) (M : HM np nd nr t g) {dark : Bool} {N : Nat} (hN : 8 ≤ N) : ∃ g', fX11_dawn_c54 N N (bset (dwho t dark a) np : Nat) 0 0 g = fX11_dawn_c96 N N (bset (dwho t dark a) np : Nat) (nsum (por np t (dch t dark a)) np : Nat) 0 g' ∧ (∀ b, b ≠ 69 → g' b = g b) ∧ (∀ j, (∀ p, p < np → j ≠ 7 * p + 4) → g' 69 j = g 69 j) ∧ ∀ p, p < np → g' 69 (7 * p + 4) = (por np t (dch t dark a) p : Nat) := by
  have v := V.1
  have hb64 := (aDawn_b V (dark := dark) (a := a) (Nat.le_refl np)).2
  refine zloopq (F := fun k i (x : Int × zH) => fX11_dawn_c54 N k (bset (dwho t dark a) np : Nat) x.1 i x.2) (n := np) (s := (0, g)) (fun i x => x.1 = (nsum (por np t (dch t dark a)) i : Nat) ∧ (∀ b, b ≠ 69 → x.2 b = g b) ∧ (∀ j, (∀ p, p < i → j ≠ 7 * p + 4) → x.2 69 j = g 69 j) ∧ ∀ p, p < i → x.2 69 (7 * p + 4) = (por np t (dch t dark a) p : Nat)) (fun b => ∃ g', b = fX11_dawn_c96 N N (bset (dwho t dark a) np : Nat) (nsum (por np t (dch t dark a)) np : Nat) 0 g' ∧ (∀ b, b ≠ 69 → g' b = g b) ∧ (∀ j, (∀ p, p < np → j ≠ 7 * p + 4) → g' 69 j = g 69 j) ∧ ∀ p, p < np → g' 69 (7 * p + 4) = (por np t (dch t dark a) p : Nat)) (fun k i x hi hI => ?_) (fun k x hI => ?_) (by omega) ⟨rfl, fun _ _ => rfl, fun _ _ => rfl, fun p hp => absurd hp (Nat.not_lt_zero _)⟩
  · obtain ⟨s, x⟩ := x
    obtain ⟨i0, i1, i2, i3⟩ := hI
    dsimp only at i0 i1 i2 i3 ⊢
    have Mx : HM np nd nr t x := HM_to M (by rw [i1 14 (by decide)]; exact ⟨rfl, rfl, rfl⟩) (i1 63 (by decide)) (i1 64 (by decide)) (i1 65 (by decide)) (i1 66 (by decide))
    have ep : por np t (fun o => if (bset (dwho t dark a) np).testBit o then (t (32 + 4 * o) : Int) else -1) i = por np t (dch t dark a) i := by
      refine por_congr (fun o ho => ?_) hi
      rw [bset_bit, decide_eq_true ho, Bool.true_and]
      rfl
    left
    refine ⟨(s + (por np t (dch t dark a) i : Nat), zs x 69 (7 * i + 4) (por np t (dch t dark a) i : Nat)), ?_, ?_, fun b hb => by dsimp only; rw [zs_row_ne hb, i1 b hb], fun j hj => ?_, fun p hp => ?_⟩
    · show fX11_dawn_c54b N (fX11_dawn_c54 N k) _ _ _ _ = _
      unfold fX11_dawn_c54b
      rw [Mx.1.1, zw_id (show -2147483648 ≤ (np : Int) ∧ (np : Int) < 2147483648 by omega), zw_id (show -2147483648 ≤ (i : Int) ∧ (i : Int) < 2147483648 by omega), if_neg (by omega), houM V Mx hN (by omega) hi, zb_some, pm_4 (by omega), zb_some, om_4 (by omega), zb_some, zs_at, ep]
      rfl
    · show s + _ = ((nsum (por np t (dch t dark a)) i + por np t (dch t dark a) i : Nat) : Int)
      omega
    · dsimp only; rw [zs_ne (hj i (by omega)), i2 j (fun p hp => hj p (by omega))]
    · dsimp only
      by_cases hpi : p = i
      · subst hpi; exact zs_at
      · rw [zs_ne (by omega)]; exact i3 p (by omega)
  · obtain ⟨s, x⟩ := x
    obtain ⟨i0, i1, i2, i3⟩ := hI
    dsimp only at i0 i1 i2 i3 ⊢
    refine ⟨x, ?_, i1, i2, i3⟩
    show fX11_dawn_c54b N (fX11_dawn_c54 N k) _ _ _ _ = _
    unfold fX11_dawn_c54b
    rw [i1 14 (by decide), M.1.1, if_pos (by omega), i0]
theorem da4 {np nd nr : Nat} {t : Nat → Nat} {a : hSt} {g : zH} (V : HV np nd nr t) (M : HM np nd nr t g) {dark : Bool} (hH : ∀ p, p < np → g 69 (7 * p) = (aH a p : Int) ∧ aH a p < 256) {N : Nat} (hN : 8 ≤ N) : fX11_dawn N (dkI dark) g = fX11_dawn_c54 N N (bset (dwho t dark a) np : Nat) 0 0 g := by
  have v := V.1
  have hf : ∀ o, o < np → t (32 + 4 * o) < 8 := fun o ho => by have := (V.2.2.2.1 o ho).1; omega
  refine zloopq (F := fun k i (x : Int) => fX11_dawn_c4 N k (dkI dark) x i g) (n := np) (s := 0) (fun i x => x = (bset (dwho t dark a) i : Nat)) (fun b => b = fX11_dawn_c54 N N (bset (dwho t dark a) np : Nat) 0 0 g) (fun k i x hi hI => ?_) (fun k x hI => ?_) (by omega) rfl
  · have hb := (aDawn_b V (dark := dark) (a := a) (Nat.le_of_lt hi)).2
    have p6 : 2 ^ i < 2 ^ 6 := Nat.pow_lt_pow_right (by decide) (by omega)
    have h8 := (hH i hi).2
    have f8 := hf i hi
    left
    refine ⟨(bset (dwho t dark a) (i + 1) : Nat), ?_, rfl⟩
    show fX11_dawn_c4b N (fX11_dawn_c4 N k) _ _ _ _ = _
    unfold fX11_dawn_c4b
    have z0 : zor (bset (dwho t dark a) i : Nat) 0 = (bset (dwho t dark a) i : Nat) := by
      have := zor_nat (a := bset (dwho t dark a) i) (b := 0) (by omega) (by decide)
      rw [Nat.or_zero] at this
      exact this
    rw [M.1.1, zw_id (show -2147483648 ≤ (np : Int) ∧ (np : Int) < 2147483648 by omega), zw_id (show -2147483648 ≤ (i : Int) ∧ (i : Int) < 2147483648 by omega), if_neg (by omega), om_0 (by omega), zb_some, (hH i hi).1, mform V M hi, zb_some, has_tab _ h8 _ f8, hI, z0, zshl_1 i (by omega), zor_nat (by omega) (by omega), zlet_v]
    have eb : bset (dwho t dark a) (i + 1) = bset (dwho t dark a) i ||| (if dwho t dark a i then 2 ^ i else 0) := rfl
    rw [eb]
    cases dark with
    | true =>
      have e0 : dwho t true a i = false := rfl
      rw [e0, show (if false = true then 2 ^ i else 0) = 0 from rfl, Nat.or_zero]
      exact if_neg (by decide)
    | false =>
      have e0 : dwho t false a i = (aH a i).testBit (t (32 + 4 * i)) := rfl
      rw [e0]
      refine (if_pos (by decide)).trans ?_
      cases (aH a i).testBit (t (32 + 4 * i)) with
      | false =>
        rw [show (if false = true then 2 ^ i else 0) = 0 from rfl, Nat.or_zero]
        exact if_pos (by decide)
      | true => exact if_neg (by decide)
  · show fX11_dawn_c4b N (fX11_dawn_c4 N k) _ _ _ _ = _
    unfold fX11_dawn_c4b
    rw [M.1.1, if_pos (by omega), hI]
theorem dawM {np nd nr B : Nat} {t : Nat → Nat} {a : hSt} {g : zH} (V : HV np nd nr t) (M : HM np nd nr t g) (A : AV np nd nr t a) (S : MS np B a (g 69)) {dark : Bool} {N : Nat} (hN : 200 ≤ N) : ∃ g', fX11_dawn N (dkI dark) g = some g' ∧ (∀ b, b ≠ 69 → g' b = g b) ∧ MS np B (aDawn np t dark a) (g' 69) := by
  have v := V.1
  obtain ⟨s1, s2, s3, s4, s5, s6, s7⟩ := S
  have hH : ∀ p, p < np → g 69 (7 * p) = (aH a p : Int) ∧ aH a p < 256 := fun p hp => ⟨(s1 p hp).1, (A.1 p hp).1⟩
  obtain ⟨g1, d1, d2, d3, d4⟩ := da54 (a := a) (dark := dark) V M (N := N) (by omega)
  have M1 : HM np nd nr t g1 := HM_to M (by rw [d2 14 (by decide)]; exact ⟨rfl, rfl, rfl⟩) (d2 63 (by decide)) (d2 64 (by decide)) (d2 65 (by decide)) (d2 66 (by decide))
  obtain ⟨g2, f1, f2, f3, f4⟩ := da96 (a := a) (dark := dark) V M1 (fun p hp => ⟨by rw [d3 _ (fun q hq => by omega)]; exact (hH p hp).1, (hH p hp).2⟩) (N := N) (by omega) (nsum (por np t (dch t dark a)) np : Nat)
  have keep : ∀ j, (∀ p, p < np → j ≠ 7 * p ∧ j ≠ 7 * p + 4) → g2 69 j = g 69 j := fun j hj => (f3 j (fun p hp => (hj p hp).1)).trans (d3 j (fun p hp => (hj p hp).2))
  have L2 : ML (aL a) (g2 69) := by
    refine ⟨by rw [keep 44 (fun p hp => by omega)]; exact s6, fun i hi => ?_⟩
    rw [keep _ (fun p hp => by omega), keep _ (fun p hp => by omega)]
    exact s7 i hi
  obtain ⟨g3, n1, n2, n3, n4⟩ := noteM hN L2 (bset (dwho t dark a) np) (nsum (por np t (dch t dark a)) np)
  have all : ∀ j, j < 44 → (∀ p, p < np → j ≠ 7 * p ∧ j ≠ 7 * p + 4) → g3 69 j = g 69 j := fun j h44 hj => (n3 j h44).trans (keep j hj)
  refine ⟨g3, ?_, fun b hb => (n2 b hb).trans ((f2 b hb).trans (d2 b hb)), fun p hp => ?_, ?_, ?_, fun x hx => ?_, ?_, n4.1, n4.2⟩
  · rw [da4 V M hH (by omega), d1, f1, n1]
    rfl
  · obtain ⟨q1, q2, q3, q4, q5, q6⟩ := s1 p hp
    refine ⟨?_, ?_, ?_, ?_, ?_, ?_⟩
    · rw [n3 _ (by omega)]; exact f4 p hp
    · rw [all _ (by omega) (fun q hq => by omega)]; exact q2
    · rw [all _ (by omega) (fun q hq => by omega)]; exact q3
    · rw [n3 _ (by omega), f3 _ (fun q hq => by omega)]; exact d4 p hp
    · rw [all _ (by omega) (fun q hq => by omega)]; exact q5
    · rw [all _ (by omega) (fun q hq => by omega)]; exact q6
  · rw [all 42 (by omega) (fun q hq => by omega)]; exact s2
  · rw [all 43 (by omega) (fun q hq => by omega)]; exact s3
  · have hx6 := ((A.2.2.1 x).mp hx).1
    rw [all (7 * x + 2) (by omega) (fun q hq => by omega), all 43 (by omega) (fun q hq => by omega)]
    exact s4 x hx
  · refine List.Pairwise.imp_of_mem ?_ s5
    intro x y hx hy hxy
    have hx6 := ((A.2.2.1 x).mp hx).1
    have hy6 := ((A.2.2.1 y).mp hy).1
    rw [all (7 * x + 2) (by omega) (fun q hq => by omega), all (7 * y + 2) (by omega) (fun q hq => by omega)]
    exact hxy
