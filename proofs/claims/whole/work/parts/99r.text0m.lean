/-! text 0, the reference's -/
theorem tk103M {N : Nat} (hN : 300 ≤ N) (h : zH) : fX11_takeHill_c103 N N 0 h = fX11_takeHill_c129 N N 0 (zcopy h 62 0 66 0 24) := by
  have H := copy_loop (o := 62) (sp := 0) (o2 := 66) (dp := 0) (n := 24) (by decide) (fun k l g => fX11_takeHill_c103 N k l g) (fun g => fX11_takeHill_c129 N N 0 g) h ?_ ?_ 24 0 (N - 25) rfl
  · rw [zcopy_0, show N - 25 + 24 + 1 = N by omega] at H
    exact H
  · intro k l g hl _
    show fX11_takeHill_c103b N (fX11_takeHill_c103 N k) (l : Int) g = _
    unfold fX11_takeHill_c103b
    rw [show zw 24 = 24 by decide, zw_id (show -2147483648 ≤ (l : Int) ∧ (l : Int) < 2147483648 by omega), if_neg (by omega), if_pos (by omega), if_pos (by omega), Int.toNat_natCast, Nat.zero_add]
    rfl
  · intro k g _
    show fX11_takeHill_c103b N (fX11_takeHill_c103 N k) (24 : Int) g = _
    unfold fX11_takeHill_c103b
    rw [if_pos (by decide)]
theorem tk77M {N : Nat} (hN : 300 ≤ N) (h : zH) : fX11_takeHill_c77 N N 0 h = fX11_takeHill_c103 N N 0 (zcopy h 61 0 65 0 16) := by
  have H := copy_loop (o := 61) (sp := 0) (o2 := 65) (dp := 0) (n := 16) (by decide) (fun k l g => fX11_takeHill_c77 N k l g) (fun g => fX11_takeHill_c103 N N 0 g) h ?_ ?_ 16 0 (N - 17) rfl
  · rw [zcopy_0, show N - 17 + 16 + 1 = N by omega] at H
    exact H
  · intro k l g hl _
    show fX11_takeHill_c77b N (fX11_takeHill_c77 N k) (l : Int) g = _
    unfold fX11_takeHill_c77b
    rw [show zw 16 = 16 by decide, zw_id (show -2147483648 ≤ (l : Int) ∧ (l : Int) < 2147483648 by omega), if_neg (by omega), if_pos (by omega), if_pos (by omega), Int.toNat_natCast, Nat.zero_add]
    rfl
  · intro k g _
    show fX11_takeHill_c77b N (fX11_takeHill_c77 N k) (16 : Int) g = _
    unfold fX11_takeHill_c77b
    rw [if_pos (by decide)]
theorem tk51M {N : Nat} (hN : 300 ≤ N) (h : zH) : fX11_takeHill_c51 N N 0 h = fX11_takeHill_c77 N N 0 (zcopy h 60 0 64 0 18) := by
  have H := copy_loop (o := 60) (sp := 0) (o2 := 64) (dp := 0) (n := 18) (by decide) (fun k l g => fX11_takeHill_c51 N k l g) (fun g => fX11_takeHill_c77 N N 0 g) h ?_ ?_ 18 0 (N - 19) rfl
  · rw [zcopy_0, show N - 19 + 18 + 1 = N by omega] at H
    exact H
  · intro k l g hl _
    show fX11_takeHill_c51b N (fX11_takeHill_c51 N k) (l : Int) g = _
    unfold fX11_takeHill_c51b
    rw [show zw 18 = 18 by decide, zw_id (show -2147483648 ≤ (l : Int) ∧ (l : Int) < 2147483648 by omega), if_neg (by omega), if_pos (by omega), if_pos (by omega), Int.toNat_natCast, Nat.zero_add]
    rfl
  · intro k g _
    show fX11_takeHill_c51b N (fX11_takeHill_c51 N k) (18 : Int) g = _
    unfold fX11_takeHill_c51b
    rw [if_pos (by decide)]
theorem tk26M {N : Nat} (hN : 300 ≤ N) (h : zH) : fX11_takeHill_c26 N N 0 h = fX11_takeHill_c51 N N 0 (zcopy h 59 0 63 0 2) := by
  have H := copy_loop (o := 59) (sp := 0) (o2 := 63) (dp := 0) (n := 2) (by decide) (fun k l g => fX11_takeHill_c26 N k l g) (fun g => fX11_takeHill_c51 N N 0 g) h ?_ ?_ 2 0 (N - 3) rfl
  · rw [zcopy_0, show N - 3 + 2 + 1 = N by omega] at H
    exact H
  · intro k l g hl _
    show fX11_takeHill_c26b N (fX11_takeHill_c26 N k) (l : Int) g = _
    unfold fX11_takeHill_c26b
    rw [show zw 2 = 2 by decide, zw_id (show -2147483648 ≤ (l : Int) ∧ (l : Int) < 2147483648 by omega), if_neg (by omega), if_pos (by omega), if_pos (by omega), Int.toNat_natCast, Nat.zero_add]
    rfl
  · intro k g _
    show fX11_takeHill_c26b N (fX11_takeHill_c26 N k) (2 : Int) g = _
    unfold fX11_takeHill_c26b
    rw [if_pos (by decide)]
theorem tk129M {N : Nat} (hN : 300 ≤ N) (h : zH) : ∃ h', fX11_takeHill_c129 N N 0 h = fX11_takeHill_c151 N N 0 h' ∧ FR [69] h h' ∧ ∀ j, j < 165 → h' 69 j = 0 := by
  refine zloopq (F := fun m i (s : zH) => fX11_takeHill_c129 N m i s) (n := 165) (s := h) (fun i s => FR [69] h s ∧ ∀ j, j < i → s 69 j = 0) (fun r => ∃ h', r = fX11_takeHill_c151 N N 0 h' ∧ FR [69] h h' ∧ ∀ j, j < 165 → h' 69 j = 0) (fun m i s hi hI => ?_) (fun m s hI => ?_) (by omega) ⟨FR_rf, fun k hk => absurd hk (by omega)⟩
  · obtain ⟨i1, i2⟩ := hI
    left
    refine ⟨zs s 69 i 0, ?_, FR_tr i1 (fun b hb => zs_row_ne (fun e => hb (by rw [e]; decide))), fun k hk => ?_⟩
    · show fX11_takeHill_c129b N (fX11_takeHill_c129 N m) (i : Int) s = _
      unfold fX11_takeHill_c129b
      rw [show zw 165 = 165 by decide, zw_id (show -2147483648 ≤ (i : Int) ∧ (i : Int) < 2147483648 by omega), if_neg (by omega), if_pos (by omega), Int.toNat_natCast]
      rfl
    · by_cases e : k = i
      · rw [e, zs_at]
      · rw [zs_ne e]; exact i2 k (by omega)
  · obtain ⟨i1, i2⟩ := hI
    refine ⟨s, ?_, i1, i2⟩
    show fX11_takeHill_c129b N (fX11_takeHill_c129 N m) ((165 : Nat) : Int) s = _
    unfold fX11_takeHill_c129b
    rw [if_pos (by decide)]
theorem tk151M {N np : Nat} (hp : np ≤ 6) (hN : 300 ≤ N) {h : zH} (hn : h 14 28 = (np : Int)) (hz : ∀ j, j < 165 → h 69 j = 0) : ∃ h', fX11_takeHill_c151 N N 0 h = some ((np : Int), zs (zs (zs h' 14 46 0) 14 38 0) 14 49 0) ∧ FR [69] h h' ∧ MS np 0 a0 (h' 69) := by
  refine zloopq (F := fun m i (s : zH) => fX11_takeHill_c151 N m i s) (n := np) (s := h) (fun i s => FR [69] h s ∧ ∀ p c, p < 24 → c < 7 → 7 * p + c < 165 → s 69 (7 * p + c) = if p < i ∧ c = 1 then -1 else 0) (fun r => ∃ h', r = some ((np : Int), zs (zs (zs h' 14 46 0) 14 38 0) 14 49 0) ∧ FR [69] h h' ∧ MS np 0 a0 (h' 69)) (fun m i s hi hI => ?_) (fun m s hI => ?_) (by omega) ⟨FR_rf, fun p c hp hc hk => by rw [hz _ hk, if_neg (by omega)]⟩
  · obtain ⟨i1, i2⟩ := hI
    left
    refine ⟨zs s 69 (7 * i + 1) (-1), ?_, FR_tr i1 (fun b hb => zs_row_ne (fun e => hb (by rw [e]; decide))), fun p c hp hc hk => ?_⟩
    · show fX11_takeHill_c151b N (fX11_takeHill_c151 N m) (i : Int) s = _
      unfold fX11_takeHill_c151b fX11_put_
      rw [i1 14 (by decide), hn, zw_id (show -2147483648 ≤ (np : Int) ∧ (np : Int) < 2147483648 by omega), zw_id (show -2147483648 ≤ (i : Int) ∧ (i : Int) < 2147483648 by omega), if_neg (by omega), show (7 * (i : Int)) + 1 = ((7 * i + 1 : Nat) : Int) by omega, zw_id (show -2147483648 ≤ ((7 * i + 1 : Nat) : Int) ∧ ((7 * i + 1 : Nat) : Int) < 2147483648 by omega), if_pos (by omega), Int.toNat_natCast, zlet_v, zb_some]
      rfl
    · by_cases e : p = i ∧ c = 1
      · rw [show 7 * p + c = 7 * i + 1 by omega, zs_at, if_pos (by omega)]
      · rw [zs_ne (by omega), i2 p c hp hc hk]
        by_cases e2 : p < i ∧ c = 1
        · rw [if_pos e2, if_pos (by omega)]
        · rw [if_neg e2, if_neg (by omega)]
  · obtain ⟨i1, i2⟩ := hI
    refine ⟨s, ?_, i1, ?_⟩
    · show fX11_takeHill_c151b N (fX11_takeHill_c151 N m) (np : Int) s = _
      unfold fX11_takeHill_c151b
      rw [i1 14 (by decide), hn, if_pos (Int.le_refl _), zlet_v, zlet_v, zlet_v, zs_ne (by decide), zs_ne (by decide), zs_ne (by decide), i1 14 (by decide), hn]
    · have q : ∀ j p c, j = 7 * p + c → p < 24 → c < 7 → j < 165 → s 69 j = if p < np ∧ c = 1 then -1 else 0 := fun j p c e h1 h2 h3 => by
        rw [e]; exact i2 p c h1 h2 (by omega)
      refine ⟨fun p hp => ⟨?_, ?_, ?_, ?_, ?_, ?_⟩, ?_, ?_, fun x hx => absurd hx List.not_mem_nil, List.Pairwise.nil, ?_, fun i hi => absurd (show i < 0 from hi) (by omega)⟩
      · rw [q _ p 0 (by omega) (by omega) (by decide) (by omega), if_neg (by omega)]; rfl
      · rw [q _ p 1 (by omega) (by omega) (by decide) (by omega), if_pos (by omega)]; rfl
      · rw [q _ p 3 (by omega) (by omega) (by decide) (by omega), if_neg (by omega)]; rfl
      · rw [q _ p 4 (by omega) (by omega) (by decide) (by omega), if_neg (by omega)]; rfl
      · rw [q _ p 5 (by omega) (by omega) (by decide) (by omega), if_neg (by omega)]; rfl
      · rw [q _ p 6 (by omega) (by omega) (by decide) (by omega), if_neg (by omega)]; rfl
      · rw [q 42 6 0 (by omega) (by decide) (by decide) (by decide), if_neg (by omega)]; rfl
      · rw [q 43 6 1 (by omega) (by decide) (by decide) (by decide), if_neg (by omega)]; exact ⟨Int.le_refl _, Int.le_refl _⟩
      · rw [q 44 6 2 (by omega) (by decide) (by decide) (by decide), if_neg (by omega)]; rfl
theorem takeHM {ct : Nat → Nat} {t : Nat → Int} {g : zH} (V : DV ct) (C : CR ct t) (D : DM ct t g) {N : Nat} (hN : 300 ≤ N) : ∃ g', fX11_takeHill N g = some ((ct 1 : Int), g') ∧ FR [14, 63, 64, 65, 66, 69] g g' ∧ FS 14 [28, 29, 30, 38, 46, 49] g g' ∧ HM (ct 1) (ct 2) (ct 3) (tN t) g' ∧ MS (ct 1) 0 a0 (g' 69) ∧ g' 14 38 = 0 ∧ g' 14 46 = 0 ∧ g' 14 49 = 0 := by
  have v1 := V 1 (by decide)
  have v2 := V 2 (by decide)
  have v3 := V 3 (by decide)
  have m1 : mxI 1 = 6 := rfl
  have m2 : mxI 2 = 4 := rfl
  have m3 : mxI 3 = 8 := rfl
  obtain ⟨d1, d2⟩ := D
  unfold fX11_takeHill
  rw [zlet_v, zlet_v, zlet_v]
  obtain ⟨g1, e1⟩ : ∃ g1 : zH, g1 = zs (zs (zs g 14 28 (g 14 21)) 14 29 (zs g 14 28 (g 14 21) 14 22)) 14 30 (zs (zs g 14 28 (g 14 21)) 14 29 (zs g 14 28 (g 14 21) 14 22) 14 23) := ⟨_, rfl⟩
  rw [← e1]
  have c28 : g1 14 28 = (ct 1 : Int) := by rw [e1, zs_ne (by decide), zs_ne (by decide), zs_at]; exact d1.1
  have c29 : g1 14 29 = (ct 2 : Int) := by rw [e1, zs_ne (by decide), zs_at, zs_ne (by decide)]; exact d1.2.1
  have c30 : g1 14 30 = (ct 3 : Int) := by rw [e1, zs_at, zs_ne (by decide), zs_ne (by decide)]; exact d1.2.2
  have F1 : ∀ b, b ≠ 14 → g1 b = g b := fun b hb => by rw [e1, zs_row_ne hb, zs_row_ne hb, zs_row_ne hb]
  have G1 : ∀ j, j ≠ 28 → j ≠ 29 → j ≠ 30 → g1 14 j = g 14 j := fun j a b c => by rw [e1, zs_ne c, zs_ne b, zs_ne a]
  rw [tk26M hN, tk51M hN, tk77M hN, tk103M hN]
  obtain ⟨g2, e2⟩ : ∃ g2 : zH, g2 = zcopy (zcopy (zcopy (zcopy g1 59 0 63 0 2) 60 0 64 0 18) 61 0 65 0 16) 62 0 66 0 24 := ⟨_, rfl⟩
  rw [← e2]
  have F2 : ∀ b, b ≠ 63 → b ≠ 64 → b ≠ 65 → b ≠ 66 → g2 b = g1 b := fun b a c d e => by rw [e2, zcopy_ne e, zcopy_ne d, zcopy_ne c, zcopy_ne a]
  have r63 : ∀ j, j < 2 → g2 63 j = g 59 j := fun j hj => by
    rw [e2, zcopy_ne (by decide), zcopy_ne (by decide), zcopy_ne (by decide)]
    have := zcopy_in (h := g1) (o := 59) (sp := 0) (o2 := 63) (dp := 0) (n := 2) hj
    rw [Nat.zero_add] at this
    rw [this, F1 59 (by decide)]
  have r64 : ∀ j, j < 18 → g2 64 j = g 60 j := fun j hj => by
    rw [e2, zcopy_ne (by decide), zcopy_ne (by decide)]
    have := zcopy_in (h := zcopy g1 59 0 63 0 2) (o := 60) (sp := 0) (o2 := 64) (dp := 0) (n := 18) hj
    rw [Nat.zero_add] at this
    rw [this, zcopy_ne (by decide), F1 60 (by decide)]
  have r65 : ∀ j, j < 16 → g2 65 j = g 61 j := fun j hj => by
    rw [e2, zcopy_ne (by decide)]
    have := zcopy_in (h := zcopy (zcopy g1 59 0 63 0 2) 60 0 64 0 18) (o := 61) (sp := 0) (o2 := 65) (dp := 0) (n := 16) hj
    rw [Nat.zero_add] at this
    rw [this, zcopy_ne (by decide), zcopy_ne (by decide), F1 61 (by decide)]
  have r66 : ∀ j, j < 24 → g2 66 j = g 62 j := fun j hj => by
    rw [e2]
    have := zcopy_in (h := zcopy (zcopy (zcopy g1 59 0 63 0 2) 60 0 64 0 18) 61 0 65 0 16) (o := 62) (sp := 0) (o2 := 66) (dp := 0) (n := 24) hj
    rw [Nat.zero_add] at this
    rw [this, zcopy_ne (by decide), zcopy_ne (by decide), zcopy_ne (by decide), F1 62 (by decide)]
  obtain ⟨g3, a1, a2, a3⟩ := tk129M hN g2
  have c28' : g3 14 28 = (ct 1 : Int) := by rw [a2 14 (by decide), F2 14 (by decide) (by decide) (by decide) (by decide)]; exact c28
  obtain ⟨g4, b1, b2, b3⟩ := tk151M (np := ct 1) (by omega) hN c28' a3
  rw [a1, b1]
  obtain ⟨g5, e5⟩ : ∃ g5 : zH, g5 = zs (zs (zs g4 14 46 0) 14 38 0) 14 49 0 := ⟨_, rfl⟩
  rw [← e5]
  have F5 : ∀ b, b ≠ 14 → g5 b = g4 b := fun b hb => by rw [e5, zs_row_ne hb, zs_row_ne hb, zs_row_ne hb]
  have F52 : ∀ b, b ≠ 14 → b ≠ 69 → g5 b = g2 b := fun b hb hc => by rw [F5 b hb, b2 b (fun e => hc (List.mem_singleton.mp e)), a2 b (fun e => hc (List.mem_singleton.mp e))]
  have G5 : ∀ j, j ≠ 46 → j ≠ 38 → j ≠ 49 → g5 14 j = g1 14 j := fun j a b c => by
    rw [e5, zs_ne c, zs_ne b, zs_ne a, b2 14 (by decide), a2 14 (by decide), F2 14 (by decide) (by decide) (by decide) (by decide)]
  have cell : ∀ k i j, k < 4 → (i < ct k ∨ (k = 0 ∧ i = 0)) → j < itN k → g (59 + k) (itN k * i + j) = (tN t (32 * k + 4 * i + j) : Int) := fun k i j hk hi hj => by
    rw [d2 k i j hk hi hj, CR_N C hk hi hj]
  refine ⟨g5, rfl, fun b hb => ?_, fun q hq => ?_, ⟨⟨?_, ?_, ?_⟩, fun _ => ⟨?_, ?_⟩, fun i c hi hc => ?_, fun i c hi hc => ?_, fun i c hi hc => ?_⟩, ?_, ?_, ?_, ?_⟩
  · rw [F52 b (fun e => hb (by rw [e]; decide)) (fun e => hb (by rw [e]; decide)), F2 b (fun e => hb (by rw [e]; decide)) (fun e => hb (by rw [e]; decide)) (fun e => hb (by rw [e]; decide)) (fun e => hb (by rw [e]; decide)), F1 b (fun e => hb (by rw [e]; decide))]
  · rw [G5 q (fun e => hq (by rw [e]; decide)) (fun e => hq (by rw [e]; decide)) (fun e => hq (by rw [e]; decide)), G1 q (fun e => hq (by rw [e]; decide)) (fun e => hq (by rw [e]; decide)) (fun e => hq (by rw [e]; decide))]
  · rw [G5 28 (by decide) (by decide) (by decide)]; exact c28
  · rw [G5 29 (by decide) (by decide) (by decide)]; exact c29
  · rw [G5 30 (by decide) (by decide) (by decide)]; exact c30
  · rw [F52 63 (by decide) (by decide), r63 0 (by decide)]
    exact cell 0 0 0 (by decide) (Or.inr ⟨rfl, rfl⟩) (by decide)
  · rw [F52 63 (by decide) (by decide), r63 1 (by decide)]
    exact cell 0 0 1 (by decide) (Or.inr ⟨rfl, rfl⟩) (by decide)
  · rw [F52 64 (by decide) (by decide), r64 _ (by omega)]
    exact cell 1 i c (by decide) (Or.inl hi) hc
  · rw [F52 65 (by decide) (by decide), r65 _ (by omega)]
    exact cell 2 i c (by decide) (Or.inl hi) hc
  · rw [F52 66 (by decide) (by decide), r66 _ (by omega)]
    exact cell 3 i c (by decide) (Or.inl hi) hc
  · rw [F5 69 (by decide)]; exact b3
  · rw [e5, zs_ne (by decide), zs_at]
  · rw [e5, zs_ne (by decide), zs_ne (by decide), zs_at]
  · rw [e5, zs_at]
theorem text0M {n : Nat} {b : Nat → Nat} (T : TV n b) {N : Nat} (hN : 300 ≤ N) {g : zH} (H : TMo n b g) :
    (hF n b = -1 → ∃ g', fX11_text N 0 g = some ((hC n b 1 : Int), g') ∧ FR [14, 59, 60, 61, 62, 63, 64, 65, 66, 69] g g' ∧ FS 14 [2, 3, 4, 21, 22, 23, 28, 29, 30, 38, 46, 49] g g' ∧ TMo 0 b g' ∧ HM (hC n b 1) (hC n b 2) (hC n b 3) (hT n b) g' ∧ MS (hC n b 1) 0 a0 (g' 69) ∧ g' 14 38 = 0 ∧ g' 14 46 = 0 ∧ g' 14 49 = 0) ∧
    (hF n b ≠ -1 → ∃ g', fX11_text N 0 g = some (-1, g') ∧ FR [14, 59, 60, 61, 62] g g' ∧ FS 14 [3, 4, 21, 22, 23] g g') := by
  have n240 := T.1
  obtain ⟨g1, r1, r2, r3, r4⟩ := fault0M T hN H
  have r1 : fX11_readHill N g = some (hF n b, g1) := r1
  have fb := hF_b (n := n) (b := b)
  have e0 : fX11_text N 0 g = z2 (fX11_readHill N g) fun v3 h2 => if zw v3 = zw (-1) then zlet (zs h2 14 2 0) fun h5 => z2 (fX11_takeHill N h5) fun v7 h6 => some (v7, h6) else some (-1, h2) := by
    unfold fX11_text fX11_text_c22 fX11_text_c69
    rw [if_pos zw_0]
    rfl
  rw [e0, r1, z2_some, zw_m1, zw_id (show -2147483648 ≤ hF n b ∧ hF n b < 2147483648 by omega)]
  refine ⟨fun hc => ?_, fun hc => ?_⟩
  · rw [if_pos hc, zlet_v]
    obtain ⟨d3, d4⟩ := r4 (hF_ok hc).1
    obtain ⟨g2, b1, b2, b3, b4, b5, b6, b7, b8⟩ := takeHM d3 hAll_CR (g := zs g1 14 2 0) ⟨by rw [zs_ne (by decide), zs_ne (by decide), zs_ne (by decide)]; exact d4.1, fun k i j hk hi hj => by rw [zs_row_ne (by omega)]; exact d4.2 k i j hk hi hj⟩ hN
    rw [b1, z2_some]
    refine ⟨g2, rfl, ?_, FS_tr (FS_up r3 (by decide)) (FS_tr (fun q hq => zs_ne (fun e => hq (by rw [e]; decide))) (FS_up b3 (by decide))), ⟨?_, fun i hi => absurd hi (by omega)⟩, b4, b5, b6, b7, b8⟩
    · exact FR_tr (FR_up r2 (by decide)) (FR_tr (fun b hb => zs_row_ne (fun e => hb (by rw [e]; decide))) (FR_up b2 (by decide)))
    · rw [b3 2 (by decide), zs_at]; rfl
  · rw [if_neg hc]
    exact ⟨g1, rfl, r2, r3⟩
