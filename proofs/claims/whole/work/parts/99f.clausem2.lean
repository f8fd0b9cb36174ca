/-- behind the items: the count of the sort k (1..3) goes up -/
theorem upCM {n : Nat} {b : Nat → Nat} {ct : Nat → Nat} {t : Nat → Int} {k p : Nat} (hk : k < 4) (h1 : 1 ≤ k) (eS : clS n b p = k) {g g' : zH} (F : FR [14, 59, 60, 61, 62] g g') (G : FS 14 [3, 4] g g') (C : g 14 21 = (ct 1 : Int) ∧ g 14 22 = (ct 2 : Int) ∧ g 14 23 = (ct 3 : Int)) {f : Int} (e4 : g' 14 4 = f) (D : f = -1 → g' 14 3 = (clE n b p : Int) ∧ ∀ q i j, q < 4 → (i < clC n b p ct q ∨ (q = 0 ∧ i = 0)) → j < itN q → g' (59 + q) (itN q * i + j) = clT n b p ct t (32 * q + 4 * i + j)) : FR [14, 59, 60, 61, 62] g (zs g' 14 (20 + k) (g' 14 (20 + k) + 1)) ∧ FS 14 [3, 4, 21, 22, 23] g (zs g' 14 (20 + k) (g' 14 (20 + k) + 1)) ∧ zs g' 14 (20 + k) (g' 14 (20 + k) + 1) 14 4 = f ∧ (f = -1 → (ct 0 : Int) = (clC n b p ct 0 : Int) ∧ zs g' 14 (20 + k) (g' 14 (20 + k) + 1) 14 3 = (clE n b p : Int) ∧ DM (clC n b p ct) (clT n b p ct t) (zs g' 14 (20 + k) (g' 14 (20 + k) + 1))) := by
  have hc : g' 14 (20 + k) = (ct k : Int) := by
    rcases (show k = 1 ∨ k = 2 ∨ k = 3 by omega) with rfl | rfl | rfl
    · rw [G 21 (by decide)]; exact C.1
    · rw [G 22 (by decide)]; exact C.2.1
    · rw [G 23 (by decide)]; exact C.2.2
  have cnt : ∀ q, 1 ≤ q → q < 4 → zs g' 14 (20 + k) (g' 14 (20 + k) + 1) 14 (20 + q) = (clC n b p ct q : Int) := by
    intro q q1 q4
    unfold clC
    rw [eS]
    by_cases e : q = k
    · rw [e, zs_at, hc, if_pos rfl]; rfl
    · rw [zs_ne (by omega), if_neg e]
      rcases (show q = 1 ∨ q = 2 ∨ q = 3 by omega) with rfl | rfl | rfl
      · rw [G 21 (by decide)]; exact C.1
      · rw [G 22 (by decide)]; exact C.2.1
      · rw [G 23 (by decide)]; exact C.2.2
  refine ⟨FR_tr F (fun b hb => zs_row_ne (fun e => hb (by rw [e]; decide))), fun q hq => ?_, by rw [zs_ne (by omega)]; exact e4, fun hf => ?_⟩
  · rw [zs_ne (fun e => hq ?_), G q (fun e => hq ?_)]
    · rcases List.mem_cons.mp e with e | e
      · rw [e]; decide
      · rw [List.mem_singleton.mp e]; decide
    · rw [e]
      rcases (show k = 1 ∨ k = 2 ∨ k = 3 by omega) with rfl | rfl | rfl <;> decide
  · obtain ⟨d1, d2⟩ := D hf
    refine ⟨?_, by rw [zs_ne (by omega)]; exact d1, ⟨cnt 1 (by decide) (by decide), cnt 2 (by decide) (by decide), cnt 3 (by decide) (by decide)⟩, fun q i j hq hi hj => ?_⟩
    · unfold clC
      rw [eS, if_neg (by omega)]
    · rw [zs_row_ne (by omega)]
      exact d2 q i j hq hi hj
theorem clauseM {n : Nat} {b : Nat → Nat} (T : TV n b) {N : Nat} (hN : 300 ≤ N) {ct : Nat → Nat} {t : Nat → Int} (V : DV ct) {K : Int → Int → zH → Option (Int × zH)} {g : zH} (H : TMo n b g) (D : DM ct t g) {p : Nat} (hp : p ≤ n) (hpl : g 14 3 = (p : Int)) (hf : g 14 4 = -1) : ∃ g' l', fX11_readHill_c53b N K (ct 0 : Int) 1 g = fX11_readHill_c271 N K l' g' ∧ FR [14, 59, 60, 61, 62] g g' ∧ FS 14 [3, 4, 21, 22, 23] g g' ∧ g' 14 4 = clF n b p ct ∧ (clF n b p ct = -1 → l' = (clC n b p ct 0 : Int) ∧ g' 14 3 = (clE n b p : Int) ∧ DM (clC n b p ct) (clT n b p ct t) g') := by
  have n240 := T.1
  obtain ⟨g1, e1, e2, e3, e4⟩ := lookM T hN H (show p < 100000 by omega) hpl
  obtain ⟨s1, s2, s3⟩ := skp_b (b := b) hp
  have hf1 : g1 14 4 = -1 := by rw [e3 4 (by decide)]; exact hf
  have G1 : FS 14 [3, 4, 21, 22, 23] g g1 := fun q hq => e3 q (fun e => hq (by rw [List.mem_singleton.mp e]; decide))
  have F1 : FR [14, 59, 60, 61, 62] g g1 := FR_up e2 (by decide)
  have T1 : TMo n b g1 := TM_to H (G1 2 (by decide)) (e2 49 (by decide))
  have C1 : g1 14 21 = (ct 1 : Int) ∧ g1 14 22 = (ct 2 : Int) ∧ g1 14 23 = (ct 3 : Int) := by
    rw [e3 21 (by decide), e3 22 (by decide), e3 23 (by decide)]; exact D.1
  have D1 : ∀ k i j, k < 4 → (i < ct k ∨ (k = 0 ∧ i = 0)) → j < itN k → g1 (59 + k) (itN k * i + j) = t (32 * k + 4 * i + j) := fun k i j hk hi hj => by
    rw [e2 (59 + k) (fun e => by have := List.mem_singleton.mp e; omega)]; exact D.2 k i j hk hi hj
  have v0 := V 0 (by decide)
  have v1 := V 1 (by decide)
  have v2 := V 2 (by decide)
  have v3 := V 3 (by decide)
  have m0 : mxI 0 = 1 := rfl
  have m1 : mxI 1 = 6 := rfl
  have m2 : mxI 2 = 4 := rfl
  have m3 : mxI 3 = 8 := rfl
  -- a fault here
  have bad : clF n b p ct = (skp n b p : Int) → ∃ g' l', (zlet (fX11_bad g1) fun h7 => fX11_readHill_c271 N K (ct 0 : Int) h7) = fX11_readHill_c271 N K l' g' ∧ FR [14, 59, 60, 61, 62] g g' ∧ FS 14 [3, 4, 21, 22, 23] g g' ∧ g' 14 4 = clF n b p ct ∧ (clF n b p ct = -1 → l' = (clC n b p ct 0 : Int) ∧ g' 14 3 = (clE n b p : Int) ∧ DM (clC n b p ct) (clT n b p ct t) g') := by
    intro e
    rw [e, badM hf1, zlet_v, e4]
    exact ⟨_, _, rfl, FR_tr F1 (fun b hb => zs_row_ne (fun e => hb (by rw [e]; decide))), FS_tr G1 (fun q hq => zs_ne (fun e => hq (by rw [e]; decide))), zs_at, fun h => by omega⟩
  -- items, then the count
  have good : ∀ k : Nat, 1 ≤ k → k < 4 → srt (sg n b (skp n b p)) = (k : Int) → ct k < mxI k → skp n b p < n → ∀ a1 a3 a4 : Int, a1 = itL k → a3 = ((itN k * ct k : Nat) : Int) → a4 = (itN k : Int) → ∃ g' l', (zb (fX11_items N (59 + k) a1 a3 a4 (zs g1 14 3 ((skp n b p : Int) + 1))) fun h4 => zlet (zs h4 14 (20 + k) ((h4 14 (20 + k)) + 1)) fun h5 => fX11_readHill_c271 N K (ct 0 : Int) h5) = fX11_readHill_c271 N K l' g' ∧ FR [14, 59, 60, 61, 62] g g' ∧ FS 14 [3, 4, 21, 22, 23] g g' ∧ g' 14 4 = clF n b p ct ∧ (clF n b p ct = -1 → l' = (clC n b p ct 0 : Int) ∧ g' 14 3 = (clE n b p : Int) ∧ DM (clC n b p ct) (clT n b p ct t) g') := by
    intro k k1 k4 es cm hlt a1 a3 a4 q1 q2 q3
    subst q1 q2 q3
    have eS : clS n b p = k := by unfold clS; rw [es, Int.toNat_natCast]
    have eF : clF n b p ct = (iAll n b k (skp n b p + 1)).2.1 := by
      unfold clF
      rw [eS, if_neg]
      rintro (h | h) <;> omega
    obtain ⟨g2, r1, r2, r3, r4, r5⟩ := oneCM T hN V k4 eS cm T1 hlt e4 hf1 D1
    obtain ⟨u1, u2, u3, u4⟩ := upCM k4 k1 eS r2 r3 C1 r4 r5
    rw [r1, zb_some, zlet_v, eF]
    exact ⟨_, _, rfl, FR_tr F1 u1, FS_tr G1 u2, u3, u4⟩
  have nb : ∀ k : Nat, srt (sg n b (skp n b p)) = (k : Int) → mxI k ≤ ct k → clF n b p ct = (skp n b p : Int) := by
    intro k es cm
    have eS : clS n b p = k := by unfold clS; rw [es, Int.toNat_natCast]
    unfold clF
    rw [eS, if_pos (Or.inr cm)]
  unfold fX11_readHill_c53b
  rw [if_neg (show ¬ zw 1 = 0 by decide), hf, if_pos (show zw (-1) = zw (-1) from rfl), e1, z2_some, sg_w T, show zw 115 = 115 by decide, zw_id (show -2147483648 ≤ (ct 0 : Int) ∧ (ct 0 : Int) < 2147483648 by omega)]
  unfold fX11_readHill_c106 fX11_readHill_c160 fX11_readHill_c213
  rw [sg_w T, show zw 112 = 112 by decide, show zw 100 = 100 by decide, show zw 114 = 114 by decide, C1.1, C1.2.1, C1.2.2, show zw 6 = 6 by decide, show zw 4 = 4 by decide, show zw 8 = 8 by decide, zw_id (show -2147483648 ≤ (ct 1 : Int) ∧ (ct 1 : Int) < 2147483648 by omega), zw_id (show -2147483648 ≤ (ct 2 : Int) ∧ (ct 2 : Int) < 2147483648 by omega), zw_id (show -2147483648 ≤ (ct 3 : Int) ∧ (ct 3 : Int) < 2147483648 by omega), e4]
  by_cases c0 : sg n b (skp n b p) = 115
  · have es : srt (sg n b (skp n b p)) = ((0 : Nat) : Int) := by rw [c0]; decide
    have hlt : skp n b p < n := sg_lt (show sg n b (skp n b p) ≠ -1 by omega)
    have eS : clS n b p = 0 := by unfold clS; rw [es, Int.toNat_natCast]
    rw [if_pos c0]
    by_cases cm : ct 0 = 0
    · rw [if_pos (show (ct 0 : Int) = 0 by omega), zlet_v, c0]
      have eF : clF n b p ct = (iAll n b 0 (skp n b p + 1)).2.1 := by
        unfold clF
        rw [eS, if_neg]
        rintro (h | h) <;> omega
      obtain ⟨g2, r1, r2, r3, r4, r5⟩ := oneCM T hN V (by decide) eS (show ct 0 < mxI 0 by omega) T1 hlt e4 hf1 D1
      rw [cm] at r1
      have r1' : fX11_items N 59 115 0 2 (zs g1 14 3 ((skp n b p : Int) + 1)) = some g2 := r1
      rw [r1', zb_some, eF]
      refine ⟨g2, 1, rfl, FR_tr F1 r2, FS_tr G1 (fun q hq => r3 q (fun e => hq ?_)), r4, fun hc => ?_⟩
      · rcases List.mem_cons.mp e with e | e
        · rw [e]; decide
        · rw [List.mem_singleton.mp e]; decide
      · obtain ⟨d1, d2⟩ := r5 hc
        refine ⟨?_, d1, ?_, d2⟩
        · unfold clC
          rw [eS, if_pos rfl, cm]; rfl
        · unfold clC
          rw [eS, if_neg (by decide), if_neg (by decide), if_neg (by decide), r3 21 (by decide), r3 22 (by decide), r3 23 (by decide)]
          exact C1
    · rw [if_neg (show ¬ (ct 0 : Int) = 0 by omega), if_neg (by omega), if_neg (by omega), if_neg (by omega)]
      exact bad (nb 0 es (by omega))
  · rw [if_neg c0]
    by_cases c1 : sg n b (skp n b p) = 112
    · have es : srt (sg n b (skp n b p)) = ((1 : Nat) : Int) := by rw [c1]; decide
      have hlt : skp n b p < n := sg_lt (show sg n b (skp n b p) ≠ -1 by omega)
      rw [if_pos c1]
      by_cases cm : ct 1 < 6
      · rw [if_neg (show ¬ (6 : Int) ≤ (ct 1 : Int) by omega), zlet_v, zs_ne (by decide), C1.1]
        exact good 1 (by decide) (by decide) es cm hlt _ _ _ c1 (by show 3 * (ct 1 : Int) = ((3 * ct 1 : Nat) : Int); omega) rfl
      · rw [if_pos (show (6 : Int) ≤ (ct 1 : Int) by omega), if_neg (by omega), if_neg (by omega)]
        exact bad (nb 1 es (by omega))
    · rw [if_neg c1]
      by_cases c2 : sg n b (skp n b p) = 100
      · have es : srt (sg n b (skp n b p)) = ((2 : Nat) : Int) := by rw [c2]; decide
        have hlt : skp n b p < n := sg_lt (show sg n b (skp n b p) ≠ -1 by omega)
        rw [if_pos c2]
        by_cases cm : ct 2 < 4
        · rw [if_neg (show ¬ (4 : Int) ≤ (ct 2 : Int) by omega), zlet_v, zs_ne (by decide), C1.2.1]
          exact good 2 (by decide) (by decide) es cm hlt _ _ _ c2 (by show 4 * (ct 2 : Int) = ((4 * ct 2 : Nat) : Int); omega) rfl
        · rw [if_pos (show (4 : Int) ≤ (ct 2 : Int) by omega), if_neg (by omega)]
          exact bad (nb 2 es (by omega))
      · rw [if_neg c2]
        by_cases c3 : sg n b (skp n b p) = 114
        · have es : srt (sg n b (skp n b p)) = ((3 : Nat) : Int) := by rw [c3]; decide
          have hlt : skp n b p < n := sg_lt (show sg n b (skp n b p) ≠ -1 by omega)
          rw [if_pos c3]
          by_cases cm : ct 3 < 8
          · rw [if_neg (show ¬ (8 : Int) ≤ (ct 3 : Int) by omega), zlet_v, zs_ne (by decide), C1.2.2]
            exact good 3 (by decide) (by decide) es cm hlt _ _ _ c3 (by show 3 * (ct 3 : Int) = ((3 * ct 3 : Nat) : Int); omega) rfl
          · rw [if_pos (show (8 : Int) ≤ (ct 3 : Int) by omega)]
            exact bad (nb 3 es (by omega))
        · rw [if_neg c3]
          refine bad ?_
          unfold clF
          rw [if_pos (Or.inl ?_)]
          unfold srt
          rw [if_neg c0, if_neg c1, if_neg c2, if_neg c3]
