/-! the calls that write little: what each does to its piece of the relation, and what it leaves as it was -/
abbrev RT (h : zH) : Prop := Alike2 15 1 1 49 14 2 h h
abbrev RE (h : zH) : Prop := h 0 14 = h 14 36 ∧ 0 ≤ h 0 14 ∧ h 0 14 ≤ 99
abbrev RV (h : zH) : Prop := h 5 0 = h 14 13 ∧ (0 ≤ h 5 0 ∧ h 5 0 ≤ 4) ∧ h 5 1 = h 14 35 ∧ -1 ≤ h 5 1 ∧ h 5 1 < h 5 0
theorem alike_to {o1 r1 s1 o2 r2 s2 : Nat} {h g h' g' : zH} (H : Alike2 o1 r1 s1 o2 r2 s2 h g) (e1 : ∀ j, h' o1 j = h o1 j) (e2 : h' r1 s1 = h r1 s1) (e3 : ∀ j, g' o2 j = g o2 j) (e4 : g' r2 s2 = g r2 s2) : Alike2 o1 r1 s1 o2 r2 s2 h' g' := by
  obtain ⟨h1, h2, h3, h4⟩ := H
  refine ⟨by rw [e2, e4]; exact h1, by rw [e2]; exact h2, fun i hi => by rw [e1, e3]; exact h3 i hi, fun i hi => by rw [e2] at hi; rw [e1]; exact h4 i hi⟩
theorem zwb {x : Int} (h : zw x = x) : -2147483648 ≤ x ∧ x < 2147483648 := by
  have h1 := zw_lt x
  have h2 := zw_le x
  omega
theorem feed_core {N : Nat} (hN : 21 ≤ N) {h : zH} (H : RT h) (a1 a2 a3 a4 a5 : Int) : ∃ (r s : Int) (h1 h2 : zH), fX10_feed N a1 a2 a3 a4 a5 h = some (r, h1) ∧ fX11_feed N a1 a2 a3 a4 a5 h1 = some (s, h2) ∧ zi r = zi s ∧ RT h2 ∧ ∀ o j, o ≠ 15 → o ≠ 49 → ¬ (o = 1 ∧ j = 1) → ¬ (o = 14 ∧ j = 2) → h2 o j = h o j := by
  have hL := H.2.1
  rw [feedX_eq (by omega) a1 a2 a3 a4 a5 hL]
  have hL2 : 0 ≤ h 14 2 ∧ h 14 2 ≤ 240 := by rw [← H.1]; exact hL
  by_cases hs : h 1 1 + cnt (words5 a1 a2 a3 a4 a5) ≤ 240
  · rw [if_pos hs]
    have e14 : pus 15 1 1 (words5 a1 a2 a3 a4 a5) h 14 2 = h 14 2 := pus_frame (by decide) (by decide)
    have e49 : ∀ j, pus 15 1 1 (words5 a1 a2 a3 a4 a5) h 49 j = h 49 j := fun j => pus_frame (by decide) (by omega)
    have A1 : Alike2 15 1 1 49 14 2 h (pus 15 1 1 (words5 a1 a2 a3 a4 a5) h) := alike_to H (fun _ => rfl) rfl e49 e14
    have A2 := pus_alike (by decide) (by decide) (words5_byte a1 a2 a3 a4 a5) A1
    refine ⟨_, _, _, _, rfl, (feedM_eq hN a1 a2 a3 a4 a5 (by rw [e14]; exact hL2)).trans (if_pos (by rw [e14, ← H.1]; exact hs)), ?_, ?_, ?_⟩
    · rw [A2.1]
    · exact alike_to A2 (fun j => pus_frame (by decide) (by omega)) (pus_frame (by decide) (by decide)) (fun _ => rfl) rfl
    · intro o j n1 n2 n3 n4
      rw [pus_frame n2 n4, pus_frame n1 n3]
  · rw [if_neg hs]
    refine ⟨_, _, _, _, rfl, (feedM_eq hN a1 a2 a3 a4 a5 hL2).trans (if_neg (by rw [← H.1]; exact hs)), rfl, H, fun _ _ _ _ _ _ => rfl⟩
theorem end_core {h : zH} (H : RT h) {a : Int} (ha : zw a = a) : ∃ (r s : Int) (h1 h2 : zH), fX10_end a h = (r, h1) ∧ fX11_end a h1 = (s, h2) ∧ zi r = zi s ∧ RT h2 ∧ ∀ o j, ¬ (o = 1 ∧ j = 1) → ¬ (o = 14 ∧ j = 2) → h2 o j = h o j := by
  obtain ⟨g1, g2, g3, g4⟩ := id H
  unfold fX10_end zlet
  dsimp only
  rw [ha]
  by_cases h0 : a < 0
  · rw [if_pos h0]
    refine ⟨_, _, _, _, rfl, by unfold fX11_end; rw [ha, if_pos h0], rfl, H, fun _ _ _ _ => rfl⟩
  · rw [if_neg h0, zw_id (show _ from by omega)]
    by_cases h1 : a ≤ h 1 1
    · rw [if_pos h1]
      have e14 : zs h 1 1 a 14 2 = h 14 2 := zs_other (by omega)
      refine ⟨1, 1, zs h 1 1 a, zs (zs h 1 1 a) 14 2 a, rfl, by unfold fX11_end zlet; dsimp only; rw [ha, if_neg h0, e14, ← g1, zw_id (show _ from by omega), if_pos h1], rfl, ?_, ?_⟩
      · have e1 : zs (zs h 1 1 a) 14 2 a 1 1 = a := by rw [zs_other (by omega), zs_at]
        have e2 : ∀ j, zs (zs h 1 1 a) 14 2 a 15 j = h 15 j := fun j => by rw [zs_row_ne (by decide), zs_row_ne (by decide)]
        have e3 : ∀ j, zs (zs h 1 1 a) 14 2 a 49 j = h 49 j := fun j => by rw [zs_row_ne (by decide), zs_row_ne (by decide)]
        refine ⟨by rw [e1, zs_at], by rw [e1]; omega, fun i hi => by rw [e2, e3]; exact g3 i hi, fun i hi => by rw [e1] at hi; rw [e2]; exact g4 i (by omega)⟩
      · intro o j n1 n2
        rw [zs_other n2, zs_other n1]
    · rw [if_neg h1]
      refine ⟨_, _, _, _, rfl, by unfold fX11_end; rw [ha, if_neg h0, ← g1, zw_id (show _ from by omega), if_neg h1], rfl, H, fun _ _ _ _ => rfl⟩
theorem in_eq {a lo hi : Int} (ha : zw a = a) (hl : zw lo = lo) (hh : zw hi = hi) : fX11_in a lo hi = if lo ≤ a ∧ a ≤ hi then 1 else 0 := by
  unfold fX11_in
  rw [ha, hl, hh]
  by_cases h1 : a < lo
  · rw [if_pos h1, if_neg (by omega)]
  · rw [if_neg h1]
    by_cases h2 : hi < a
    · rw [if_pos h2, if_neg (by omega)]
    · rw [if_neg h2, if_pos (by omega)]
theorem zw_m1 : zw (-1) = -1 := by decide
theorem zw_1 : zw 1 = 1 := by decide
theorem zw_99 : zw 99 = 99 := by decide
theorem rule_core {h : zH} (H : RV h) {a : Int} (ha : zw a = a) : ∃ (r s : Int) (h1 h2 : zH), fX10_rule a h = (r, h1) ∧ fX11_rule a h1 = (s, h2) ∧ zi r = zi s ∧ RV h2 ∧ ∀ o j, ¬ (o = 5 ∧ j = 1) → ¬ (o = 14 ∧ j = 35) → h2 o j = h o j := by
  obtain ⟨g1, g2, g3, g4⟩ := id H
  have e5 : zw (h 5 0) = h 5 0 := zw_id (by omega)
  have M : ∀ g : zH, g 14 13 = h 14 13 → fX11_rule a g = if -1 ≤ a ∧ a < h 5 0 then (1, zs g 14 35 a) else (0, g) := by
    intro g hg
    unfold fX11_rule zlet
    dsimp only
    rw [hg, ← g1, in_eq ha zw_m1 (zw_id (by omega))]
    by_cases hc : -1 ≤ a ∧ a < h 5 0
    · rw [if_pos (show -1 ≤ a ∧ a ≤ h 5 0 - 1 by omega), if_neg (by decide), if_pos hc]
    · rw [if_neg (show ¬ (-1 ≤ a ∧ a ≤ h 5 0 - 1) by omega), if_pos (by decide), if_neg hc]
  have X : fX10_rule a h = if -1 ≤ a ∧ a < h 5 0 then (1, zs h 5 1 a) else (0, h) := by
    unfold fX10_rule zlet
    dsimp only
    rw [ha, e5, zw_m1]
    by_cases hc : -1 ≤ a ∧ a < h 5 0
    · rw [if_neg (by omega), if_pos hc.2, if_pos hc]
    · rw [if_neg hc]
      by_cases h1 : a < -1
      · rw [if_pos h1]
      · rw [if_neg h1, if_neg (by omega)]
  rw [X]
  by_cases hc : -1 ≤ a ∧ a < h 5 0
  · rw [if_pos hc]
    refine ⟨1, 1, _, _, rfl, (M _ (zs_other (by omega))).trans (if_pos hc), rfl, ?_, fun o j n1 n2 => by rw [zs_other n2, zs_other n1]⟩
    have e1 : zs (zs h 5 1 a) 14 35 a 5 0 = h 5 0 := by rw [zs_other (by omega), zs_other (by omega)]
    have e2 : zs (zs h 5 1 a) 14 35 a 14 13 = h 14 13 := by rw [zs_other (by omega), zs_other (by omega)]
    have e3 : zs (zs h 5 1 a) 14 35 a 5 1 = a := by rw [zs_other (by omega), zs_at]
    have e4 : zs (zs h 5 1 a) 14 35 a 14 35 = a := zs_at
    refine ⟨by rw [e1, e2]; exact g1, by rw [e1]; exact g2, by rw [e3, e4], by rw [e3]; exact hc.1, by rw [e3, e1]; exact hc.2⟩
  · rw [if_neg hc]
    exact ⟨0, 0, _, _, rfl, (M _ rfl).trans (if_neg hc), rfl, H, fun _ _ _ _ => rfl⟩
theorem eclipse_core {h : zH} (H : RE h) {a : Int} (ha : zw a = a) : ∃ (r s : Int) (h1 h2 : zH), fX10_eclipse a h = (r, h1) ∧ fX11_eclipse a h1 = (s, h2) ∧ zi r = zi s ∧ RE h2 ∧ ∀ o j, ¬ (o = 0 ∧ j = 14) → ¬ (o = 14 ∧ j = 36) → h2 o j = h o j := by
  obtain ⟨g1, g2⟩ := id H
  have e5 : zw (h 0 14) = h 0 14 := zw_id (by omega)
  have M : ∀ g : zH, g 14 36 = h 0 14 → fX11_eclipse a g = if (0 ≤ a ∧ a ≤ 99) ∧ a ≠ h 0 14 then (1, zs g 14 36 a) else (0, g) := by
    intro g hg
    unfold fX11_eclipse zlet
    dsimp only
    rw [hg, in_eq ha zw_0 zw_99, ha, e5]
    by_cases hc : 0 ≤ a ∧ a ≤ 99
    · rw [if_pos hc, if_neg (by decide)]
      by_cases h2 : a = h 0 14
      · rw [if_pos h2, if_neg (by omega)]
      · rw [if_neg h2, if_pos ⟨hc, h2⟩]
    · rw [if_neg hc, if_pos (by decide), if_neg (by omega)]
  have X : fX10_eclipse a h = if (0 ≤ a ∧ a ≤ 99) ∧ a ≠ h 0 14 then (1, zs h 0 14 a) else (0, h) := by
    unfold fX10_eclipse zlet
    dsimp only
    rw [ha, e5, zw_99]
    by_cases h1 : a < 0
    · rw [if_pos h1, if_neg (by omega)]
    · rw [if_neg h1]
      by_cases h2 : 99 < a
      · rw [if_pos h2, if_neg (by omega)]
      · rw [if_neg h2]
        by_cases h3 : a = h 0 14
        · rw [if_pos h3, if_neg (by omega)]
        · rw [if_neg h3, if_pos (by omega)]
  rw [X]
  by_cases hc : (0 ≤ a ∧ a ≤ 99) ∧ a ≠ h 0 14
  · rw [if_pos hc]
    refine ⟨1, 1, _, _, rfl, (M _ (by rw [zs_other (by omega)]; exact g1.symm)).trans (if_pos hc), rfl, ?_, fun o j n1 n2 => by rw [zs_other n2, zs_other n1]⟩
    have e1 : zs (zs h 0 14 a) 14 36 a 0 14 = a := by rw [zs_other (by omega), zs_at]
    exact ⟨by rw [e1, zs_at], by rw [e1]; exact hc.1⟩
  · rw [if_neg hc]
    exact ⟨0, 0, _, _, rfl, (M _ g1.symm).trans (if_neg hc), rfl, H, fun _ _ _ _ => rfl⟩
