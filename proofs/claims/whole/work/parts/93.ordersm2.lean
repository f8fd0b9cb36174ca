/-! the model's orders, all of them -/
theorem lastM {n : Nat} {b : Nat → Nat} (T : TV n b) {N : Nat} (hN : 300 ≤ N) {g : zH} (H : TMo n b g) {p : Nat} (hp : p ≤ n) (hpl : g 14 3 = (p : Int)) {f : Int} (hf : g 14 4 = f) (hfb : -1 ≤ f ∧ f ≤ 1000) (F : Nat) (o : Int) : ∃ g', fX11_readOrders_c19 N (F + 1) o 0 g = some (if f = -1 then (if sg n b (skp n b p) = -1 then -1 else (skp n b p : Int)) else f, g') ∧ FR [14] g g' ∧ FS 14 [3, 4] g g' := by
  have n240 := T.1
  show ∃ g', fX11_readOrders_c19b N (fX11_readOrders_c19 N F) o 0 g = _ ∧ _
  unfold fX11_readOrders_c19b
  rw [if_pos zw_0, hf, zw_m1, zw_id (show -2147483648 ≤ f ∧ f < 2147483648 by omega)]
  by_cases cf : f = -1
  · subst cf
    obtain ⟨g1, e1, e2, e3, e4⟩ := lookM T hN H (show p < 100000 by omega) hpl
    have G1 : FS 14 [3, 4] g g1 := fun q hq => e3 q (fun e => hq (by rw [List.mem_singleton.mp e]; decide))
    have hf1 : g1 14 4 = -1 := by rw [e3 4 (by decide)]; exact hf
    rw [if_pos rfl, if_pos rfl, e1, z2_some, sg_w T]
    by_cases c : sg n b (skp n b p) = -1
    · rw [if_pos c, if_pos c, hf1]
      exact ⟨g1, rfl, e2, G1⟩
    · rw [if_neg c, if_neg c, badM hf1, zlet_v, zs_at, e4]
      exact ⟨_, rfl, FR_tr e2 (fun b hb => zs_row_ne (fun e => hb (by rw [e]; decide))), FS_tr G1 (fun q hq => zs_ne (fun e => hq (by rw [e]; decide)))⟩
  · rw [if_neg cf, if_neg cf]
    exact ⟨g, rfl, FR_rf, FS_rf⟩
theorem r90M {N : Nat} {K : Int → Int → zH → Option (Int × zH)} {o : Int} {g : zH} : fX11_readOrders_c90 N K o g = K o 0 (zs g 14 3 (g 14 3 + 0)) := by
  unfold fX11_readOrders_c90
  rw [if_pos zw_0]
  rfl
/-- what is as it was, orders in row o being read -/
def oK (o : Nat) (g s : zH) : Prop := FR [14, 67, 68] g s ∧ FS 14 [3, 4] g s ∧ FS 68 [o] g s ∧ ∀ i, i < 48 * o ∨ 48 * o + 48 ≤ i → s 67 i = g 67 i
theorem oK_tr {o : Nat} {g s : zH} (H : oK o g s) {s' : zH} (e1 : FR [14] s s') (e2 : FS 14 [3, 4] s s') : oK o g s' := by
  obtain ⟨h1, h2, h3, h4⟩ := H
  exact ⟨FR_tr h1 (FR_up e1 (by decide)), FS_tr h2 e2, FS_tr h3 (fun q _ => by rw [e1 68 (by decide)]), fun i hi => by rw [e1 67 (by decide)]; exact h4 i hi⟩
/-- a step and what is looked at behind it -/
theorem oneM {n : Nat} {b : Nat → Nat} (T : TV n b) {N : Nat} (hN : 300 ≤ N) {g : zH} (H : TMo n b g) {o : Nat} (ho : o < 5) {j : Nat} (hj : j < 16) {F : Nat} (hF : 0 < F) {s : zH} (hp : oP n b j ≤ n) (K : oK o g s) (hpl : s 14 3 = (oP n b j : Int)) (hf : s 14 4 = -1) (hd : s 68 o = (j : Int)) (hc : ∀ i, i < 3 * j → s 67 (48 * o + i) = oCl n b i) :
    (oF n b j = -1 ∧ sg n b (oE n b j) = 59 ∧ j < 15 ∧ ∃ s', fX11_readOrders_c19 N (F + 1) (o : Int) 1 s = fX11_readOrders_c19 N F (o : Int) 1 s' ∧ oP n b (j + 1) ≤ n ∧ oK o g s' ∧ s' 14 3 = (oP n b (j + 1) : Int) ∧ s' 14 4 = -1 ∧ s' 68 o = ((j + 1 : Nat) : Int) ∧ ∀ i, i < 3 * (j + 1) → s' 67 (48 * o + i) = oCl n b i) ∨
    (¬ (oF n b j = -1 ∧ sg n b (oE n b j) = 59 ∧ j < 15) ∧ ∃ g', fX11_readOrders_c19 N (F + 1) (o : Int) 1 s = some (if oF n b j = -1 then (if sg n b (oE n b j) = -1 then -1 else (oE n b j : Int)) else oF n b j, g') ∧ oK o g g' ∧ (oF n b j = -1 → g' 68 o = ((j + 1 : Nat) : Int) ∧ ∀ i, i < 3 * (j + 1) → g' 67 (48 * o + i) = oCl n b i)) := by
  have n240 := T.1
  obtain ⟨F, rfl⟩ : ∃ F', F = F' + 1 := ⟨F - 1, by omega⟩
  have zo : zw (o : Int) = (o : Int) := zw_id (by omega)
  obtain ⟨K1, K2, K3, K4⟩ := K
  have T1 : TMo n b s := TM_to H (K2 2 (by decide)) (K1 49 (by decide))
  obtain ⟨b1, b2, b3, b4, b5⟩ := oSt_b (b := b) hp
  have fb : -1 ≤ oF n b j ∧ oF n b j ≤ 1000 := ⟨b2.1, by unfold oF; omega⟩
  obtain ⟨g1, e0, e1, e2, e3, e4, ⟨q, q1, q2⟩, e5⟩ := stM T hN T1 (A := 48 * o + 3 * j) hp hpl hf (by omega)
  have e4 : g1 14 4 = oF n b j := e4
  have e5 : oF n b j = -1 → _ := e5
  show (_ ∧ _ ∧ _ ∧ ∃ s', fX11_readOrders_c19b N (fX11_readOrders_c19 N (F + 1)) _ _ s = _ ∧ _) ∨ (_ ∧ ∃ g', fX11_readOrders_c19b N (fX11_readOrders_c19 N (F + 1)) _ _ s = _ ∧ _)
  unfold fX11_readOrders_c19b
  rw [if_neg (show ¬ zw 1 = 0 by decide), hf, if_pos rfl, zo, if_pos (by omega), Int.toNat_natCast, hd, show (3 : Int) * ((16 * (o : Int)) + (j : Int)) = ((48 * o + 3 * j : Nat) : Int) by omega, e0, zb_some, if_pos (by omega), if_pos (by omega), zlet_v]
  have d1 : g1 68 o = (j : Int) := by rw [e1 68 (by decide)]; exact hd
  rw [d1]
  obtain ⟨g2, eg2⟩ : ∃ g2, g2 = zs g1 68 o ((j : Int) + 1) := ⟨_, rfl⟩
  rw [← eg2]
  have d2 : g2 68 o = ((j + 1 : Nat) : Int) := by rw [eg2, zs_at]; rfl
  have KK : oK o g g2 := by
    rw [eg2]
    refine ⟨FR_tr K1 (FR_tr (FR_up e1 (by decide)) (fun b hb => zs_row_ne (fun e => hb (by rw [e]; decide)))), FS_tr K2 (FS_tr e2 (fun q hq => by rw [zs_row_ne (by decide)])), FS_tr K3 (fun q hq => by rw [zs_ne (fun e => hq (by rw [e]; exact List.mem_singleton.mpr rfl)), e1 68 (by decide)]), fun i hi => ?_⟩
    rw [zs_row_ne (by decide), e3 i, K4 i hi]
    intro hm
    rcases List.mem_cons.mp hm with e | hm
    · omega
    · rcases List.mem_cons.mp hm with e | hm
      · omega
      · have := List.mem_singleton.mp hm
        omega
  have f2 : g2 14 4 = oF n b j := by rw [eg2, zs_row_ne (by decide)]; exact e4
  have p2 : g2 14 3 = (q : Int) := by rw [eg2, zs_row_ne (by decide)]; exact q1
  have c2 : oF n b j = -1 → q = (oSt n b (oP n b j)).1 ∧ ∀ i, i < 3 * (j + 1) → g2 67 (48 * o + i) = oCl n b i := by
    intro h
    obtain ⟨u1, u2, u3, u4⟩ := e5 h
    refine ⟨by omega, fun i hi => ?_⟩
    obtain ⟨w1, w2, w3⟩ := oCl_3 (n := n) (b := b) j
    rw [eg2, zs_row_ne (by decide)]
    by_cases h0 : i < 3 * j
    · rw [e3 _, hc i h0]
      intro hm
      rcases List.mem_cons.mp hm with e | hm
      · omega
      · rcases List.mem_cons.mp hm with e | hm
        · omega
        · have := List.mem_singleton.mp hm
          omega
    · by_cases hh1 : i = 3 * j
      · rw [hh1, w1]; exact u2
      · by_cases hh2 : i = 3 * j + 1
        · rw [hh2, w2]; exact u3
        · rw [show i = 3 * j + 2 by omega, w3]; exact u4
  have T2 : TMo n b g2 := TM_to H (KK.2.1 2 (by decide)) (KK.1 49 (by decide))
  -- to end
  have fin : ∀ (s' : zH) (q' : Nat), oK o g s' → s' 14 3 = (q' : Int) → q' ≤ n → s' 14 4 = oF n b j → s' 68 = g2 68 → s' 67 = g2 67 → (oF n b j = -1 → skp n b q' = oE n b j) → ∃ g', fX11_readOrders_c90 N (fX11_readOrders_c19 N (F + 1)) (o : Int) s' = some (if oF n b j = -1 then (if sg n b (oE n b j) = -1 then -1 else (oE n b j : Int)) else oF n b j, g') ∧ oK o g g' ∧ (oF n b j = -1 → g' 68 o = ((j + 1 : Nat) : Int) ∧ ∀ i, i < 3 * (j + 1) → g' 67 (48 * o + i) = oCl n b i) := by
    intro s' q' h1 h2 h3 h4 h5 h6 h7
    rw [r90M]
    obtain ⟨s2, es2⟩ : ∃ s2, s2 = zs s' 14 3 (s' 14 3 + 0) := ⟨_, rfl⟩
    rw [← es2]
    have p3 : s2 14 3 = (q' : Int) := by rw [es2, zs_at, h2]; omega
    have f3 : s2 14 4 = oF n b j := by rw [es2, zs_ne (by decide)]; exact h4
    have L1 : FR [14] s' s2 := by rw [es2]; exact fun b hb => zs_row_ne (fun e => hb (by rw [e]; decide))
    have L2 : FS 14 [3, 4] s' s2 := by rw [es2]; exact fun q hq => zs_ne (fun e => hq (by rw [e]; decide))
    have KL := oK_tr h1 L1 L2
    obtain ⟨g', r1, r2, r3⟩ := lastM T hN (TM_to H (KL.2.1 2 (by decide)) (KL.1 49 (by decide))) h3 p3 f3 fb F (o : Int)
    refine ⟨g', ?_, oK_tr KL r2 r3, fun hcf => ⟨?_, fun i hi => ?_⟩⟩
    · rw [r1]
      by_cases cf : oF n b j = -1
      · rw [if_pos cf, if_pos cf, h7 cf]
      · rw [if_neg cf, if_neg cf]
    · rw [r2 68 (by decide), L1 68 (by decide), h5]; exact d2
    · rw [r2 67 (by decide), L1 67 (by decide), h6]; exact (c2 hcf).2 i hi
  rw [f2, zw_m1, zw_id (show -2147483648 ≤ oF n b j ∧ oF n b j < 2147483648 by omega)]
  by_cases cf : oF n b j = -1
  · have eq := (c2 cf).1
    have ee : skp n b q = oE n b j := by rw [eq]; rfl
    obtain ⟨g3, u1, u2, u3, u4⟩ := lookM T hN T2 (show q < 100000 by omega) p2
    rw [ee] at u1 u4
    have U3 : FS 14 [3, 4] g2 g3 := fun q hq => u3 q (fun e => hq (by rw [List.mem_singleton.mp e]; decide))
    have KU := oK_tr KK u2 U3
    have eE : oE n b j ≤ n := (skp_b (b := b) b1).2.1
    have fu := fin g3 (oE n b j) KU u4 eE (by rw [u3 4 (by decide)]; exact f2) (u2 68 (by decide)) (u2 67 (by decide)) (fun _ => skp_i b1)
    rw [if_pos cf, u1, z2_some, sg_w T, show zw 59 = 59 by decide]
    by_cases c59 : sg n b (oE n b j) = 59
    · have d3 : g3 68 o = ((j + 1 : Nat) : Int) := by rw [u2 68 (by decide)]; exact d2
      rw [if_pos c59, d3, zw_id (show -2147483648 ≤ ((j + 1 : Nat) : Int) ∧ ((j + 1 : Nat) : Int) < 2147483648 by omega), show zw 16 = 16 by decide]
      by_cases c15 : j < 15
      · refine Or.inl ⟨cf, c59, c15, ?_⟩
        rw [if_pos (by omega), if_neg (by omega), if_neg (show ¬ zw 1 = 0 by decide)]
        simp only [zlet_v]
        rw [u4]
        have hlt : oE n b j < n := sg_lt (show sg n b (oE n b j) ≠ -1 by omega)
        have ep : oP n b (j + 1) = oE n b j + 1 := rfl
        refine ⟨_, rfl, by omega, oK_tr KU (fun b hb => zs_row_ne (fun e => hb (by rw [e]; decide))) (fun q hq => zs_ne (fun e => hq (by rw [e]; decide))), by rw [zs_at, ep]; rfl, by rw [zs_ne (by decide), u3 4 (by decide), f2]; exact cf, by rw [zs_row_ne (by decide)]; exact d3, fun i hi => ?_⟩
        rw [zs_row_ne (by decide), u2 67 (by decide)]; exact (c2 cf).2 i hi
      · refine Or.inr ⟨fun h => c15 h.2.2, ?_⟩
        rw [if_pos (by omega), if_pos (by omega)]
        exact fu
    · rw [if_neg c59]
      exact Or.inr ⟨fun h => c59 h.2.1, fu⟩
  · rw [if_neg cf]
    exact Or.inr ⟨fun h => cf h.1, fin g2 q KK p2 q2 f2 rfl rfl (fun h => absurd h cf)⟩
theorem readMs {n : Nat} {b : Nat → Nat} (T : TV n b) {N : Nat} (hN : 300 ≤ N) {g : zH} (H : TMo n b g) {o : Nat} (ho : o < 5) : ∃ g', fX11_readOrders N (o : Int) g = some ((oRd n b 15 0).1, g') ∧ oK o g g' ∧ ((oRd n b 15 0).1 = -1 → g' 68 o = ((oRd n b 15 0).2 : Int) ∧ ∀ i, i < 3 * (oRd n b 15 0).2 → g' 67 (48 * o + i) = oCl n b i) := by
  have n240 := T.1
  have zo : zw (o : Int) = (o : Int) := zw_id (by omega)
  have key : ∀ (k j F : Nat) (s : zH), j + k = 15 → k + 1 < F → oP n b j ≤ n → oK o g s → s 14 3 = (oP n b j : Int) → s 14 4 = -1 → s 68 o = (j : Int) → (∀ i, i < 3 * j → s 67 (48 * o + i) = oCl n b i) → ∃ g', fX11_readOrders_c19 N F (o : Int) 1 s = some ((oRd n b k j).1, g') ∧ oK o g g' ∧ ((oRd n b k j).1 = -1 → g' 68 o = ((oRd n b k j).2 : Int) ∧ ∀ i, i < 3 * (oRd n b k j).2 → g' 67 (48 * o + i) = oCl n b i) := by
    intro k
    induction k with
    | zero =>
      intro j F s hj hF h1 h2 h3 h4 h5 h6
      obtain ⟨F, rfl⟩ : ∃ F', F = F' + 1 := ⟨F - 1, by omega⟩
      rcases oneM T hN H ho (show j < 16 by omega) (show 0 < F by omega) h1 h2 h3 h4 h5 h6 with ⟨c1, c2, c3, _⟩ | ⟨_, g', r1, r2, r3⟩
      · omega
      · have eR : oRd n b 0 j = ((if oF n b j = -1 then (if sg n b (oE n b j) = -1 then -1 else (oE n b j : Int)) else oF n b j), j + 1) := by
          show (if oF n b j = -1 then _ else _) = _
          by_cases cf : oF n b j = -1
          · rw [if_pos cf, if_pos cf]
          · rw [if_neg cf, if_neg cf]
        rw [eR]
        refine ⟨g', r1, r2, fun hc => ?_⟩
        by_cases cf : oF n b j = -1
        · exact r3 cf
        · have hc : (if oF n b j = -1 then (if sg n b (oE n b j) = -1 then -1 else (oE n b j : Int)) else oF n b j) = -1 := hc
          rw [if_neg cf] at hc
          exact absurd hc cf
    | succ k ih =>
      intro j F s hj hF h1 h2 h3 h4 h5 h6
      obtain ⟨F, rfl⟩ : ∃ F', F = F' + 1 := ⟨F - 1, by omega⟩
      rcases oneM T hN H ho (show j < 16 by omega) (show 0 < F by omega) h1 h2 h3 h4 h5 h6 with ⟨c1, c2, c3, s', r0, r1, r2, r3, r4, r5, r6⟩ | ⟨hno, g', r1, r2, r3⟩
      · have eR : oRd n b (k + 1) j = oRd n b k (j + 1) := by
          show (if oF n b j = -1 then _ else _) = _
          rw [if_pos c1, if_pos c2]
        rw [eR, r0]
        exact ih (j + 1) F s' (by omega) (by omega) r1 r2 r3 r4 r5 r6
      · have eR : oRd n b (k + 1) j = ((if oF n b j = -1 then (if sg n b (oE n b j) = -1 then -1 else (oE n b j : Int)) else oF n b j), j + 1) := by
          show (if oF n b j = -1 then _ else _) = _
          by_cases cf : oF n b j = -1
          · rw [if_pos cf, if_pos cf, if_neg (fun h => hno ⟨cf, h, by omega⟩)]
          · rw [if_neg cf, if_neg cf]
        rw [eR]
        refine ⟨g', r1, r2, fun hc => ?_⟩
        by_cases cf : oF n b j = -1
        · exact r3 cf
        · have hc : (if oF n b j = -1 then (if sg n b (oE n b j) = -1 then -1 else (oE n b j : Int)) else oF n b j) = -1 := hc
          rw [if_neg cf] at hc
          exact absurd hc cf
  unfold fX11_readOrders
  simp only [zlet_v]
  rw [zo, if_pos (by omega), Int.toNat_natCast]
  refine key 15 0 N _ rfl (by omega) (Nat.zero_le n) ⟨fun b hb => ?_, fun q hq => ?_, fun q hq => ?_, fun i _ => ?_⟩ ?_ ?_ zs_at (fun i hi => absurd hi (by omega))
  · rw [zs_row_ne (fun e => hb (by rw [e]; decide)), zs_row_ne (fun e => hb (by rw [e]; decide)), zs_row_ne (fun e => hb (by rw [e]; decide))]
  · rw [zs_row_ne (by decide), zs_ne (fun e => hq (by rw [e]; decide)), zs_ne (fun e => hq (by rw [e]; decide))]
  · rw [zs_ne (fun e => hq (by rw [e]; exact List.mem_singleton.mpr rfl)), zs_row_ne (by decide), zs_row_ne (by decide)]
  · rw [zs_row_ne (by decide), zs_row_ne (by decide), zs_row_ne (by decide)]
  · rw [zs_row_ne (by decide), zs_ne (by decide), zs_at]; rfl
  · rw [zs_row_ne (by decide), zs_at]
