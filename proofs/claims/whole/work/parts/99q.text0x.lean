/-! text 0, the class's -/
def a0 : hSt := (fun _ => 0, fun _ => -1, fun _ => 0, fun _ => 0, fun _ => 0, fun _ => 0, [], 0, [])
theorem a0_OK {np nd nr : Nat} {t : Nat → Nat} (V : HV np nd nr t) : AOK np nd nr t a0 := by
  refine ⟨⟨fun p hp => ⟨(show (0 : Nat) < 256 by decide), Or.inl ⟨rfl, rfl⟩⟩, List.nodup_nil, fun p => ⟨fun h => absurd h (List.not_mem_nil), fun h => absurd rfl h.2⟩, trivial, fun e he => absurd he (List.not_mem_nil)⟩, fun p r hp hr hw => ?_, ?_, (show (0 : Nat) ≤ 9999 by decide)⟩
  · have : (-1 : Int) = (r : Nat) := hw
    omega
  · show 24 * 0 + t 0 ≤ 0 + 23
    have := V.2.2.1.1
    omega
theorem w0_OK {np nd nr : Nat} {t : Nat → Nat} (V : HV np nd nr t) : WOK np nd nr t (a0, []) := ⟨a0_OK V, fun a ha => absurd ha List.not_mem_nil, (show (0 : Nat) ≤ 40 by decide), List.pairwise_singleton _ _⟩
theorem fillO {N o : Nat} (hN : zln o < N) (h3 : zln o < 10000) (h : zH) : ∃ h', fJ7_fill_53178 N o 0 h = some h' ∧ FR [o] h h' ∧ ∀ k, k < zln o → h' o k = 0 := by
  refine zloopq (F := fun m i (s : zH) => fJ7_fill_53178_c5 N o m 0 i (zln o : Int) s) (n := zln o) (s := h) (fun i s => FR [o] h s ∧ ∀ k, k < i → s o k = 0) (fun r => ∃ h', r = some h' ∧ FR [o] h h' ∧ ∀ k, k < zln o → h' o k = 0) (fun m i s hi hI => ?_) (fun m s hI => ?_) hN ⟨FR_rf, fun k hk => absurd hk (by omega)⟩
  · obtain ⟨i1, i2⟩ := hI
    left
    refine ⟨zs s o i 0, ?_, FR_tr i1 (fun b hb => zs_row_ne (fun e => hb (by rw [e]; exact List.mem_singleton.mpr rfl))), fun k hk => ?_⟩
    · show fJ7_fill_53178_c5b N o (fJ7_fill_53178_c5 N o m) 0 (i : Int) (zln o : Int) s = _
      unfold fJ7_fill_53178_c5b
      rw [zw_id (show -2147483648 ≤ (zln o : Int) ∧ (zln o : Int) < 2147483648 by omega), zw_id (show -2147483648 ≤ (i : Int) ∧ (i : Int) < 2147483648 by omega), if_neg (by omega), if_pos (by omega), Int.toNat_natCast]
      rfl
    · by_cases e : k = i
      · rw [e, zs_at]
      · rw [zs_ne e]; exact i2 k (by omega)
  · obtain ⟨i1, i2⟩ := hI
    refine ⟨s, ?_, i1, i2⟩
    show fJ7_fill_53178_c5b N o (fJ7_fill_53178_c5 N o m) 0 (zln o : Int) (zln o : Int) s = _
    unfold fJ7_fill_53178_c5b
    rw [if_pos (Int.le_refl _)]
theorem set7 {k i : Nat} (hk : 6 * k + i < 51) (v : Int) (h : zH) : fX8_set 7 (k : Int) (i : Int) v h = zs h 30 (6 * k + i) v := by
  have e : zfr 7 0 = 30 := rfl
  have l : zln 30 = 51 := rfl
  unfold fX8_set
  rw [zlet_v, e, show (k : Int) * 6 + (i : Int) = ((6 * k + i : Nat) : Int) by omega, put_in (by omega) (by omega), Int.toNat_natCast]
theorem clearX {np : Nat} {t : Nat → Nat} (hp : np ≤ 6) {N : Nat} (hN : 300 ≤ N) (h : zH) : ∃ h', fX8_clear N 7 h = some h' ∧ FR [30] h h' ∧ XS np t a0 (h' 30) := by
  have l : zln 30 = 51 := rfl
  have e : zfr 7 0 = 30 := rfl
  unfold fX8_clear
  obtain ⟨h1, f1, f2, f3⟩ := fillO (o := 30) (N := N) (by omega) (by omega) h
  rw [e, f1, zb_some]
  rw [l] at f3
  refine zloopq (F := fun m i (s : zH) => fX8_clear_c10 N 7 m i s) (n := 6) (s := h1) (fun i s => FR [30] h s ∧ ∀ q, q < 51 → s 30 q = if (6 ≤ q ∧ q < 6 + i) ∨ (36 ≤ q ∧ q < 36 + i) then -1 else 0) (fun r => ∃ h', r = some h' ∧ FR [30] h h' ∧ XS np t a0 (h' 30)) (fun m i s hi hI => ?_) (fun m s hI => ?_) (by omega) ⟨f2, fun q hq => by rw [f3 q hq, if_neg (by omega)]⟩
  · obtain ⟨i1, i2⟩ := hI
    left
    refine ⟨zs (zs s 30 (6 * 1 + i) (-1)) 30 (6 * 6 + i) (-1), ?_, FR_tr i1 (fun b hb => by rw [zs_row_ne (fun e => hb (by rw [e]; decide)), zs_row_ne (fun e => hb (by rw [e]; decide))]), fun q hq => ?_⟩
    · show fX8_clear_c10b N 7 (fX8_clear_c10 N 7 m) (i : Int) s = _
      unfold fX8_clear_c10b
      have s1 := fun v h => set7 (k := 1) (i := i) (by omega) v h
      have s6 := fun v h => set7 (k := 6) (i := i) (by omega) v h
      rw [show zw 6 = 6 by decide, zw_id (show -2147483648 ≤ (i : Int) ∧ (i : Int) < 2147483648 by omega), if_neg (by omega), show (1 : Int) = ((1 : Nat) : Int) from rfl, s1, zlet_v, show (6 : Int) = ((6 : Nat) : Int) from rfl, s6, zlet_v]
      rfl
    · by_cases e1 : q = 6 * 6 + i
      · rw [e1, zs_at, if_pos (by omega)]
      · rw [zs_ne e1]
        by_cases e2 : q = 6 * 1 + i
        · rw [e2, zs_at, if_pos (by omega)]
        · rw [zs_ne e2, i2 q hq]
          by_cases c : (6 ≤ q ∧ q < 6 + i) ∨ (36 ≤ q ∧ q < 36 + i)
          · rw [if_pos c, if_pos (by omega)]
          · rw [if_neg c, if_neg (by omega)]
  · obtain ⟨i1, i2⟩ := hI
    refine ⟨s, ?_, i1, ?_⟩
    · show fX8_clear_c10b N 7 (fX8_clear_c10 N 7 m) ((6 : Nat) : Int) s = _
      unfold fX8_clear_c10b
      rw [if_pos (show zw 6 ≤ zw ((6 : Nat) : Int) by decide)]
    · refine ⟨fun p hp => ⟨?_, ?_, ?_, ?_, ?_, ?_, ?_⟩, ?_, ?_, fun i hi => absurd (show i < 0 from hi) (by omega), ?_⟩
      · rw [i2 _ (by omega), if_neg (by omega)]; rfl
      · rw [i2 _ (by omega), if_pos (by omega)]; rfl
      · rw [i2 _ (by omega), if_neg (by omega)]; rfl
      · rw [i2 _ (by omega), if_neg (by omega)]; rfl
      · rw [i2 _ (by omega), if_neg (by omega)]; rfl
      · rw [i2 _ (by omega), if_neg (by omega)]; rfl
      · rw [i2 _ (by omega), if_pos (by omega)]
        show (-1 : Int) = stnd t (-1)
        unfold stnd
        rw [if_pos rfl]
      · rw [i2 _ (by omega), if_neg (by omega)]; rfl
      · rw [i2 _ (by omega), if_neg (by omega)]; rfl
      · rw [i2 _ (by omega), if_neg (by omega)]; rfl
theorem takeHX (h : zH) : fX1_take 2 3 h = some (zcopy (zcopy (zcopy h 19 0 16 0 128) 20 0 17 0 4) 21 0 18 0 8) := by
  unfold fX1_take
  rw [if_pos (by decide), zlet_v, if_pos (by decide), zlet_v, if_pos (by decide), zlet_v]
  rfl
theorem HX_take {ct : Nat → Nat} {t : Nat → Int} {h : zH} (V : DV ct) (C : CR ct t) (D : DX ct t h) (W : ∀ r, r < ct 3 → h 21 r = (wI t r : Int)) : HX (ct 1) (ct 2) (ct 3) (tN t) (zcopy (zcopy (zcopy h 19 0 16 0 128) 20 0 17 0 4) 21 0 18 0 8) := by
  have v1 := V 1 (by decide)
  have v2 := V 2 (by decide)
  have v3 := V 3 (by decide)
  have m1 : mxI 1 = 6 := rfl
  have m2 : mxI 2 = 4 := rfl
  have m3 : mxI 3 = 8 := rfl
  obtain ⟨g, eg⟩ : ∃ g : zH, g = zcopy (zcopy (zcopy h 19 0 16 0 128) 20 0 17 0 4) 21 0 18 0 8 := ⟨_, rfl⟩
  rw [← eg]
  have r16 : ∀ j, j < 128 → g 16 j = h 19 j := fun j hj => by
    rw [eg, zcopy_ne (by decide), zcopy_ne (by decide)]
    have := zcopy_in (h := h) (o := 19) (sp := 0) (o2 := 16) (dp := 0) (n := 128) hj
    rw [Nat.zero_add] at this
    exact this
  have r17 : ∀ j, j < 4 → g 17 j = h 20 j := fun j hj => by
    rw [eg, zcopy_ne (by decide)]
    have := zcopy_in (h := zcopy h 19 0 16 0 128) (o := 20) (sp := 0) (o2 := 17) (dp := 0) (n := 4) hj
    rw [Nat.zero_add] at this
    rw [this, zcopy_ne (by decide)]
  have r18 : ∀ j, j < 8 → g 18 j = h 21 j := fun j hj => by
    rw [eg]
    have := zcopy_in (h := zcopy (zcopy h 19 0 16 0 128) 20 0 17 0 4) (o := 21) (sp := 0) (o2 := 18) (dp := 0) (n := 8) hj
    rw [Nat.zero_add] at this
    rw [this, zcopy_ne (by decide), zcopy_ne (by decide)]
  have cell : ∀ k i j, k < 4 → (i < ct k ∨ (k = 0 ∧ i = 0)) → j < itN k → 32 * k + 4 * i + j < 128 → g 16 (32 * k + 4 * i + j) = (tN t (32 * k + 4 * i + j) : Int) := fun k i j hk hi hj hb => by
    rw [r16 _ hb, D.2 k i j hk hi hj, CR_N C hk hi hj]
  refine ⟨⟨?_, ?_, ?_⟩, fun _ => ⟨?_, ?_⟩, fun i c hi hc => ?_, fun i c hi hc => ?_, fun i c hi hc => ?_, fun r hr => ?_⟩
  · rw [r17 1 (by decide), D.1 1 (by decide)]
  · rw [r17 2 (by decide), D.1 2 (by decide)]
  · rw [r17 3 (by decide), D.1 3 (by decide)]
  · exact cell 0 0 0 (by decide) (Or.inr ⟨rfl, rfl⟩) (by decide) (by decide)
  · exact cell 0 0 1 (by decide) (Or.inr ⟨rfl, rfl⟩) (by decide) (by decide)
  · exact cell 1 i c (by decide) (Or.inl hi) hc (by omega)
  · exact cell 2 i c (by decide) (Or.inl hi) hc (by omega)
  · exact cell 3 i c (by decide) (Or.inl hi) hc (by omega)
  · rw [r18 r (by omega), W r hr, wI_wm]
theorem beginX {ct : Nat → Nat} {t : Nat → Int} {h : zH} (V : DV ct) (C : CR ct t) (D : DX ct t h) (W : ∀ r, r < ct 3 → h 21 r = (wI t r : Int)) {N : Nat} (hN : 6600 ≤ N) : ∃ h', fX10_beginHill N h = some h' ∧ FR [0, 10, 12, 13, 16, 17, 18, 30, 43] h h' ∧ FS 0 [13] h h' ∧ FS 10 [0] h h' ∧ FS 12 [5] h h' ∧ FS 13 [0] h h' ∧ HX (ct 1) (ct 2) (ct 3) (tN t) h' ∧ XS (ct 1) (tN t) a0 (h' 30) ∧ h' 10 0 = 0 ∧ h' 12 5 = 0 ∧ h' 13 0 = 0 ∧ h' 0 13 = 0 ∧ ∀ j, j < 6144 → h' 43 j = 0 := by
  have v1 := V 1 (by decide)
  have m1 : mxI 1 = 6 := rfl
  have l43 : zln 43 = 6144 := rfl
  unfold fX10_beginHill
  rw [takeHX, zb_some]
  have X1 := HX_take V C D W
  obtain ⟨g1, e1⟩ : ∃ g : zH, g = zcopy (zcopy (zcopy h 19 0 16 0 128) 20 0 17 0 4) 21 0 18 0 8 := ⟨_, rfl⟩
  rw [← e1] at X1 ⊢
  have F1 : FR [16, 17, 18] h g1 := fun b hb => by
    rw [e1, zcopy_ne (fun e => hb (by rw [e]; decide)), zcopy_ne (fun e => hb (by rw [e]; decide)), zcopy_ne (fun e => hb (by rw [e]; decide))]
  obtain ⟨g2, a1, a2, a3⟩ := clearX (np := ct 1) (t := tN t) (by omega) (N := N) (by omega) g1
  rw [a1, zb_some]
  unfold fX0_forget fX3_forget fX6_forget fX7_forget
  simp only [zlet_v]
  obtain ⟨g3, b1, b2, b3⟩ := fillO (o := 43) (N := N) (by omega) (by omega) (zs g2 10 0 0)
  rw [l43] at b3
  rw [b1, zb_some, zb_some]
  obtain ⟨g4, e4⟩ : ∃ g : zH, g = zs (zs (zs g3 12 5 0) 13 0 0) 0 13 0 := ⟨_, rfl⟩
  rw [← e4]
  have F4 : ∀ b, b ≠ 0 → b ≠ 12 → b ≠ 13 → g4 b = g3 b := fun b x y z => by
    rw [e4, zs_row_ne x, zs_row_ne z, zs_row_ne y]
  have F3 : ∀ b, b ≠ 43 → b ≠ 10 → g3 b = g2 b := fun b x y => by
    rw [b2 b (fun e => x (List.mem_singleton.mp e)), zs_row_ne y]
  refine ⟨g4, rfl, fun b hb => ?_, fun q hq => ?_, fun q hq => ?_, fun q hq => ?_, fun q hq => ?_, ?_, ?_, ?_, ?_, ?_, ?_, fun j hj => ?_⟩
  · rw [F4 b (fun e => hb (by rw [e]; decide)) (fun e => hb (by rw [e]; decide)) (fun e => hb (by rw [e]; decide)), F3 b (fun e => hb (by rw [e]; decide)) (fun e => hb (by rw [e]; decide)), a2 b (fun e => hb (by rw [List.mem_singleton.mp e]; decide))]
    refine F1 b (fun e => hb ?_)
    rcases List.mem_cons.mp e with e | e
    · rw [e]; decide
    · rcases List.mem_cons.mp e with e | e
      · rw [e]; decide
      · rw [List.mem_singleton.mp e]; decide
  · rw [e4, zs_ne (fun e => hq (by rw [e]; decide)), zs_row_ne (by decide), zs_row_ne (by decide), F3 0 (by decide) (by decide), a2 0 (by decide), F1 0 (by decide)]
  · rw [F4 10 (by decide) (by decide) (by decide), b2 10 (by decide), zs_ne (fun e => hq (by rw [e]; decide)), a2 10 (by decide), F1 10 (by decide)]
  · rw [e4, zs_row_ne (by decide), zs_row_ne (by decide), zs_ne (fun e => hq (by rw [e]; decide)), F3 12 (by decide) (by decide), a2 12 (by decide), F1 12 (by decide)]
  · rw [e4, zs_row_ne (by decide), zs_ne (fun e => hq (by rw [e]; decide)), zs_row_ne (by decide), F3 13 (by decide) (by decide), a2 13 (by decide), F1 13 (by decide)]
  · exact HX_to X1 (by rw [F4 16 (by decide) (by decide) (by decide), F3 16 (by decide) (by decide), a2 16 (by decide)]) (by rw [F4 17 (by decide) (by decide) (by decide), F3 17 (by decide) (by decide), a2 17 (by decide)]) (by rw [F4 18 (by decide) (by decide) (by decide), F3 18 (by decide) (by decide), a2 18 (by decide)])
  · rw [F4 30 (by decide) (by decide) (by decide), F3 30 (by decide) (by decide)]; exact a3
  · rw [F4 10 (by decide) (by decide) (by decide), b2 10 (by decide), zs_at]
  · rw [e4, zs_row_ne (by decide), zs_row_ne (by decide), zs_at]
  · rw [e4, zs_row_ne (by decide), zs_at]
  · rw [e4, zs_at]
  · rw [F4 43 (by decide) (by decide) (by decide)]; exact b3 j hj
theorem text0X {n : Nat} {b : Nat → Nat} (T : TV n b) {N : Nat} (hN : 6600 ≤ N) {h : zH} (H : TX n b h) :
    (hF n b = -1 → ∃ h', fX10_text N 0 h = some ((hC n b 1 : Int), h') ∧ FR [0, 1, 10, 12, 13, 16, 17, 18, 19, 20, 21, 30, 43] h h' ∧ FS 0 [13] h h' ∧ FS 1 [1, 2, 3] h h' ∧ FS 10 [0] h h' ∧ FS 12 [5] h h' ∧ FS 13 [0] h h' ∧ TX 0 b h' ∧ HX (hC n b 1) (hC n b 2) (hC n b 3) (hT n b) h' ∧ XS (hC n b 1) (hT n b) a0 (h' 30) ∧ h' 10 0 = 0 ∧ h' 12 5 = 0 ∧ h' 13 0 = 0 ∧ h' 0 13 = 0 ∧ ∀ j, j < 6144 → h' 43 j = 0) ∧
    (hF n b ≠ -1 → ∃ h', fX10_text N 0 h = some (-1, h') ∧ FR [1, 19, 20, 21] h h' ∧ FS 1 [2, 3] h h') := by
  have n240 := T.1
  obtain ⟨h1, r1, r2, r3, r4⟩ := fault0X T (by omega : 300 ≤ N) H
  have fb := hF_b (n := n) (b := b)
  have e0 : fX10_text N 0 h = z2 (fX10_fault N 0 h) fun v3 h2 => if zw v3 = zw (-1) then zlet (zs h2 1 1 0) fun h5 => zb (fX10_beginHill N h5) fun h12 => some (fX1_many 2 1 h12, h12) else some ((-1), h2) := by
    unfold fX10_text fX10_text_c37
    rw [if_neg (show ¬ zw 0 = zw 1 by decide), if_neg (show ¬ zw 0 = zw 2 by decide), if_pos zw_0]
    rfl
  rw [e0, r1, z2_some, zw_m1, zw_id (show -2147483648 ≤ hF n b ∧ hF n b < 2147483648 by omega)]
  refine ⟨fun hc => ?_, fun hc => ?_⟩
  · rw [if_pos hc, zlet_v]
    obtain ⟨d1, d2, d3⟩ := r4 hc
    obtain ⟨h2, b1, b2, b3, b4, b5, b6, b7, b8, b9, b10, b11, b12, b13⟩ := beginX d1 hAll_CR (h := zs h1 1 1 0) ⟨fun k hk => by rw [zs_row_ne (by decide)]; exact d2.1 k hk, fun k i j hk hi hj => by rw [zs_row_ne (by decide)]; exact d2.2 k i j hk hi hj⟩ (fun r hr => by rw [zs_row_ne (by decide)]; exact d3 r hr) hN
    rw [b1, zb_some]
    have z1 : zs h1 1 1 0 0 = h 0 := by rw [zs_row_ne (by decide), r2 0 (by decide)]
    refine ⟨h2, ?_, ?_, ?_, ?_, ?_, ?_, ?_, ⟨?_, fun i hi => absurd hi (by omega)⟩, b7, b8, b9, b10, b11, b12, b13⟩
    · rw [xm1 b7]
    · exact FR_tr (FR_up r2 (by decide)) (FR_tr (fun b hb => zs_row_ne (fun e => hb (by rw [e]; decide))) (FR_up b2 (by decide)))
    · intro q hq
      rw [b3 q hq, z1]
    · intro q hq
      rw [b2 1 (by decide), zs_ne (fun e => hq (by rw [e]; decide))]
      exact r3 q (fun e => hq (List.mem_cons_of_mem _ e))
    · intro q hq
      rw [b4 q hq, zs_row_ne (by decide), r2 10 (by decide)]
    · intro q hq
      rw [b5 q hq, zs_row_ne (by decide), r2 12 (by decide)]
    · intro q hq
      rw [b6 q hq, zs_row_ne (by decide), r2 13 (by decide)]
    · rw [b2 1 (by decide), zs_at]; rfl
  · rw [if_neg hc]
    exact ⟨h1, rfl, r2, r3⟩
