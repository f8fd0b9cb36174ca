/-! the tape, texts, rules, the eclipse keep the relation -/
theorem pw_row {h h2 : zH} {P : Nat → Nat → Prop} (F : ∀ o j, P o j → h2 o j = h o j) (b : Nat) (hb : ∀ j, P b j) : h2 b = h b := funext fun j => F b j (hb j)
theorem Rr_tape {nn c : Nat} {h h2 : zH} (H : Rr nn c h) (T2 : RT h2) (F : ∀ o j, o ≠ 15 → o ≠ 49 → ¬ (o = 1 ∧ j = 1) → ¬ (o = 14 ∧ j = 2) → h2 o j = h o j) : Rr nn (c + 1) h2 := by
  obtain ⟨T, D, V, C, M⟩ := H
  have row : ∀ b, b ≠ 15 → b ≠ 49 → b ≠ 1 → b ≠ 14 → h2 b = h b := fun b x y z w => funext fun j => F b j x y (fun e => z e.1) (fun e => w e.1)
  have rowL : ∀ b, b ∈ [10, 16, 17, 18, 24, 25, 27, 28, 30, 31, 38, 39, 42, 43, 46, 47, 76] ++ [50, 51, 53, 54, 55, 56, 63, 64, 65, 66, 67, 68, 69, 70, 73, 74, 75] → h2 b = h b := fun b hb => by
    obtain ⟨x, y, z, w⟩ := (by decide : ∀ b, b ∈ [10, 16, 17, 18, 24, 25, 27, 28, 30, 31, 38, 39, 42, 43, 46, 47, 76] ++ [50, 51, 53, 54, 55, 56, 63, 64, 65, 66, 67, 68, 69, 70, 73, 74, 75] → b ≠ 15 ∧ b ≠ 49 ∧ b ≠ 1 ∧ b ≠ 14) b hb
    exact row b x y z w
  exact ⟨T2, D, V, RC_to C (by omega) (fun b hb => rowL b (List.mem_append.mpr (Or.inl hb))) ⟨by rw [row 0 (by decide) (by decide) (by decide) (by decide)], by rw [row 0 (by decide) (by decide) (by decide) (by decide)]⟩ ⟨by rw [row 5 (by decide) (by decide) (by decide) (by decide)], by rw [row 5 (by decide) (by decide) (by decide) (by decide)]⟩ (by rw [row 6 (by decide) (by decide) (by decide) (by decide)]) ⟨by rw [row 12 (by decide) (by decide) (by decide) (by decide)], by rw [row 12 (by decide) (by decide) (by decide) (by decide)]⟩ (by rw [row 13 (by decide) (by decide) (by decide) (by decide)]), RM_to M (by omega) (fun b hb => rowL b (List.mem_append.mpr (Or.inr hb))) (fun j hj => F 14 j (by decide) (by decide) (fun e => absurd e.1 (by decide)) (fun e => by rw [e.2] at hj; revert hj; decide))⟩
theorem st0 {N : Nat} (hN : 6600 ≤ N) {nn c : Nat} {h : zH} (hc : c < 512) (H : Rr nn c h) {a1 a2 a3 a4 a5 : Int} : ∃ (r s : Int) (h1 h2 : zH), fX10_feed N a1 a2 a3 a4 a5 h = some (r, h1) ∧ fX11_feed N a1 a2 a3 a4 a5 h1 = some (s, h2) ∧ zi r = zi s ∧ Rr nn (c + 1) h2 := by
  obtain ⟨r, s, h1, h2, e1, e2, e3, e4, e5⟩ := feed_core (N := N) (by omega) H.1 a1 a2 a3 a4 a5
  exact ⟨r, s, h1, h2, e1, e2, e3, Rr_tape H e4 e5⟩
theorem st1 {nn c : Nat} {h : zH} (hc : c < 512) (H : Rr nn c h) {a1 : Int} (w1 : zw a1 = a1) : ∃ (r s : Int) (h1 h2 : zH), fX10_end a1 h = (r, h1) ∧ fX11_end a1 h1 = (s, h2) ∧ zi r = zi s ∧ Rr nn (c + 1) h2 := by
  obtain ⟨r, s, h1, h2, e1, e2, e3, e4, e5⟩ := end_core H.1 w1
  exact ⟨r, s, h1, h2, e1, e2, e3, Rr_tape H e4 (fun o j _ _ x y => e5 o j x y)⟩
theorem st8 {nn c : Nat} {h : zH} (hc : c < 512) (H : Rr nn c h) {a1 : Int} (w1 : zw a1 = a1) : ∃ (r s : Int) (h1 h2 : zH), fX10_rule a1 h = (r, h1) ∧ fX11_rule a1 h1 = (s, h2) ∧ zi r = zi s ∧ Rr nn (c + 1) h2 := by
  obtain ⟨T, D, V, C, M⟩ := H
  have hV := V.2.2.2.2.2.1.1
  have e0 : h 5 0 = h 14 13 := by rw [C.2.2.2.2.2.1.1.1, M.2.2.2.2.1.1.1]
  have R0 : RV h := by
    have a := C.2.2.2.2.2.1.1.1
    have b := C.2.2.2.2.2.1.2
    have d := M.2.2.2.2.1.2
    have v := V.2.2.2.2.2.2.1
    exact ⟨e0, ⟨by omega, by omega⟩, by omega, by omega, by omega⟩
  obtain ⟨r, s, h1, h2, e1, e2, e3, e4, e5⟩ := rule_core R0 w1
  refine ⟨r, s, h1, h2, e1, e2, e3, ?_⟩
  have row : ∀ b, b ≠ 5 → b ≠ 14 → h2 b = h b := fun b x y => funext fun j => e5 b j (fun e => x e.1) (fun e => y e.1)
  have rowL : ∀ b, b ∈ [1, 15, 49] ++ ([10, 16, 17, 18, 24, 25, 27, 28, 30, 31, 38, 39, 42, 43, 46, 47, 76] ++ [50, 51, 53, 54, 55, 56, 63, 64, 65, 66, 67, 68, 69, 70, 73, 74, 75]) → h2 b = h b := fun b hb => by
    obtain ⟨x, y⟩ := (by decide : ∀ b, b ∈ [1, 15, 49] ++ ([10, 16, 17, 18, 24, 25, 27, 28, 30, 31, 38, 39, 42, 43, 46, 47, 76] ++ [50, 51, 53, 54, 55, 56, 63, 64, 65, 66, 67, 68, 69, 70, 73, 74, 75]) → b ≠ 5 ∧ b ≠ 14) b hb
    exact row b x y
  have e14 : ∀ j, j ≠ 35 → h2 14 j = h 14 j := fun j hj => e5 14 j (fun e => absurd e.1 (by decide)) (fun e => hj e.2)
  have e50 : h2 5 0 = h 5 0 := e5 5 0 (fun e => absurd e.2 (by decide)) (fun e => absurd e.1 (by decide))
  obtain ⟨c1, c2, c3, c4, c5, c6, c7, c8⟩ := C
  obtain ⟨m1', m2', m3', m4', m5', m6'⟩ := M
  have a := c6.1.1
  refine ⟨RT_to T (by rw [rowL 1 (by decide)]) (rowL 15 (by decide)) (e14 2 (by decide)) (rowL 49 (by decide)), (D.1, D.2.1, D.2.2.1, D.2.2.2.1, D.2.2.2.2.1, D.2.2.2.2.2.1, h2 5 1, D.2.2.2.2.2.2.2), ⟨V.1, V.2.1, V.2.2.1, V.2.2.2.1, V.2.2.2.2.1, V.2.2.2.2.2.1, ⟨e4.2.2.2.1, by have := e4.2.2.2.2; show h2 5 1 < (D.2.2.2.2.2.1.1 : Int); omega⟩, V.2.2.2.2.2.2.2⟩, ⟨CW_to c1 (by omega) (rowL 10 (by decide)) (rowL 16 (by decide)) (rowL 17 (by decide)) (rowL 18 (by decide)) (rowL 30 (by decide)) (rowL 31 (by decide)) (rowL 42 (by decide)), CI_to c2 (by rw [row 0 (by decide) (by decide)]) (rowL 38 (by decide)) (rowL 39 (by decide)), OX_to c3 (by rw [row 6 (by decide) (by decide)]) (rowL 27 (by decide)) (rowL 28 (by decide)), NX_to c4 (by rw [row 13 (by decide) (by decide)]) (rowL 46 (by decide)) (rowL 47 (by decide)), KM_to c5 (rowL 43 (by decide)), ⟨RXl_to c6.1 e50 (rowL 24 (by decide)) (rowL 25 (by decide)), rfl⟩, by rw [row 0 (by decide) (by decide)]; exact c7, SHr_to c8 (by rw [row 12 (by decide) (by decide)]) (by rw [row 12 (by decide) (by decide)]) (rowL 76 (by decide))⟩, ⟨MW_B (MW_to m1' ⟨e14 28 (by decide), e14 29 (by decide), e14 30 (by decide), e14 38 (by decide)⟩ (rowL 63 (by decide)) (rowL 64 (by decide)) (rowL 65 (by decide)) (rowL 66 (by decide)) (rowL 69 (by decide)) (rowL 70 (by decide))) (by omega), MI_B (MI_to m2' (e14 49 (by decide)) (rowL 75 (by decide))) (by omega), OM_to m3' (e14 33 (by decide)) (rowL 67 (by decide)) (rowL 68 (by decide)), NM_to m4' (e14 46 (by decide)) (rowL 73 (by decide)) (rowL 74 (by decide)), ⟨RMl_to m5'.1 (e14 13 (by decide)) (fun b hb => rowL b ((by decide : ∀ b, b ∈ [50, 51, 53, 54, 55, 56] → b ∈ [1, 15, 49] ++ ([10, 16, 17, 18, 24, 25, 27, 28, 30, 31, 38, 39, 42, 43, 46, 47, 76] ++ [50, 51, 53, 54, 55, 56, 63, 64, 65, 66, 67, 68, 69, 70, 73, 74, 75])) b hb)), e4.2.2.1.symm⟩, by rw [e14 36 (by decide)]; exact m6'⟩⟩
theorem st9 {nn c : Nat} {h : zH} (hc : c < 512) (H : Rr nn c h) {a1 : Int} (w1 : zw a1 = a1) : ∃ (r s : Int) (h1 h2 : zH), fX10_eclipse a1 h = (r, h1) ∧ fX11_eclipse a1 h1 = (s, h2) ∧ zi r = zi s ∧ Rr nn (c + 1) h2 := by
  obtain ⟨T, D, V, C, M⟩ := H
  have R0 : RE h := by
    have a := C.2.2.2.2.2.2.1
    have b := M.2.2.2.2.2
    have v := V.2.2.2.2.2.2.2
    exact ⟨by rw [a, b], by omega, by omega⟩
  obtain ⟨r, s, h1, h2, e1, e2, e3, e4, e5⟩ := eclipse_core R0 w1
  refine ⟨r, s, h1, h2, e1, e2, e3, ?_⟩
  have row : ∀ b, b ≠ 0 → b ≠ 14 → h2 b = h b := fun b x y => funext fun j => e5 b j (fun e => x e.1) (fun e => y e.1)
  have rowL : ∀ b, b ∈ [1, 15, 49] ++ ([10, 16, 17, 18, 24, 25, 27, 28, 30, 31, 38, 39, 42, 43, 46, 47, 76] ++ [50, 51, 53, 54, 55, 56, 63, 64, 65, 66, 67, 68, 69, 70, 73, 74, 75]) → h2 b = h b := fun b hb => by
    obtain ⟨x, y⟩ := (by decide : ∀ b, b ∈ [1, 15, 49] ++ ([10, 16, 17, 18, 24, 25, 27, 28, 30, 31, 38, 39, 42, 43, 46, 47, 76] ++ [50, 51, 53, 54, 55, 56, 63, 64, 65, 66, 67, 68, 69, 70, 73, 74, 75]) → b ≠ 0 ∧ b ≠ 14) b hb
    exact row b x y
  have e14 : ∀ j, j ≠ 36 → h2 14 j = h 14 j := fun j hj => e5 14 j (fun e => absurd e.1 (by decide)) (fun e => hj e.2)
  have e0 : h2 0 13 = h 0 13 := e5 0 13 (fun e => absurd e.2 (by decide)) (fun e => absurd e.1 (by decide))
  obtain ⟨c1, c2, c3, c4, c5, c6, c7, c8⟩ := C
  obtain ⟨m1', m2', m3', m4', m5', m6'⟩ := M
  refine ⟨RT_to T (by rw [rowL 1 (by decide)]) (rowL 15 (by decide)) (e14 2 (by decide)) (rowL 49 (by decide)), (D.1, D.2.1, D.2.2.1, D.2.2.2.1, D.2.2.2.2.1, D.2.2.2.2.2.1, D.2.2.2.2.2.2.1, h2 0 14), ⟨V.1, V.2.1, V.2.2.1, V.2.2.2.1, V.2.2.2.2.1, V.2.2.2.2.2.1, V.2.2.2.2.2.2.1, e4.2⟩, ⟨CW_to c1 (by omega) (rowL 10 (by decide)) (rowL 16 (by decide)) (rowL 17 (by decide)) (rowL 18 (by decide)) (rowL 30 (by decide)) (rowL 31 (by decide)) (rowL 42 (by decide)), CI_to c2 e0 (rowL 38 (by decide)) (rowL 39 (by decide)), OX_to c3 (by rw [row 6 (by decide) (by decide)]) (rowL 27 (by decide)) (rowL 28 (by decide)), NX_to c4 (by rw [row 13 (by decide) (by decide)]) (rowL 46 (by decide)) (rowL 47 (by decide)), KM_to c5 (rowL 43 (by decide)), ⟨RXl_to c6.1 (by rw [row 5 (by decide) (by decide)]) (rowL 24 (by decide)) (rowL 25 (by decide)), by rw [row 5 (by decide) (by decide)]; exact c6.2⟩, rfl, SHr_to c8 (by rw [row 12 (by decide) (by decide)]) (by rw [row 12 (by decide) (by decide)]) (rowL 76 (by decide))⟩, ⟨MW_B (MW_to m1' ⟨e14 28 (by decide), e14 29 (by decide), e14 30 (by decide), e14 38 (by decide)⟩ (rowL 63 (by decide)) (rowL 64 (by decide)) (rowL 65 (by decide)) (rowL 66 (by decide)) (rowL 69 (by decide)) (rowL 70 (by decide))) (by omega), MI_B (MI_to m2' (e14 49 (by decide)) (rowL 75 (by decide))) (by omega), OM_to m3' (e14 33 (by decide)) (rowL 67 (by decide)) (rowL 68 (by decide)), NM_to m4' (e14 46 (by decide)) (rowL 73 (by decide)) (rowL 74 (by decide)), ⟨RMl_to m5'.1 (e14 13 (by decide)) (fun b hb => rowL b ((by decide : ∀ b, b ∈ [50, 51, 53, 54, 55, 56] → b ∈ [1, 15, 49] ++ ([10, 16, 17, 18, 24, 25, 27, 28, 30, 31, 38, 39, 42, 43, 46, 47, 76] ++ [50, 51, 53, 54, 55, 56, 63, 64, 65, 66, 67, 68, 69, 70, 73, 74, 75])) b hb)), by rw [e14 35 (by decide)]; exact m5'.2⟩, e4.1.symm⟩⟩
/-- the class has read: its part stands -/
theorem RC_rd {nn lim lim' : Nat} {D : rD} {h h1 : zH} (C : RCd nn lim D h) (hl : lim ≤ lim') {L : List Nat} (F : FR L h h1) (hL : ∀ b, b ∈ [0, 5, 12, 13] ++ [10, 16, 17, 18, 24, 25, 27, 28, 30, 31, 38, 39, 42, 43, 46, 47, 76] → b ∉ L) (e6 : h1 6 0 = h 6 0) : RCd nn lim' D h1 := by
  have e : ∀ b, b ∈ [0, 5, 12, 13] ++ [10, 16, 17, 18, 24, 25, 27, 28, 30, 31, 38, 39, 42, 43, 46, 47, 76] → h1 b = h b := fun b hb => F b (hL b hb)
  exact RC_to C hl (fun b hb => e b (List.mem_append.mpr (Or.inr hb))) ⟨by rw [e 0 (by decide)], by rw [e 0 (by decide)]⟩ ⟨by rw [e 5 (by decide)], by rw [e 5 (by decide)]⟩ e6 ⟨by rw [e 12 (by decide)], by rw [e 12 (by decide)]⟩ (by rw [e 13 (by decide)])
/-- the reference has read a hill -/
theorem RM_rd0 {B B' : Nat} {D : rD} {g g' : zH} (M : RMd B D g) (hB : B ≤ B') {J : List Nat} (F : FR [14, 59, 60, 61, 62] g g') (G : FS 14 J g g') (hJ : ∀ j, j ∈ [13, 28, 29, 30, 33, 35, 36, 38, 46, 49] → j ∉ J) : RMd B' D g' := RM_to M hB (fun b hb => F b ((by decide : ∀ b, b ∈ [50, 51, 53, 54, 55, 56, 63, 64, 65, 66, 67, 68, 69, 70, 73, 74, 75] → b ∉ [14, 59, 60, 61, 62]) b hb)) (fun j hj => G j (hJ j hj))
/-- the reference has read orders into a place behind those that stand -/
theorem RM_rd2 {B B' : Nat} {D : rD} {g g' : zH} (M : RMd B D g) (hB : B ≤ B') (F : FR [14, 67, 68] g g') {J : List Nat} (G : FS 14 J g g') (hJ : ∀ j, j ∈ [13, 28, 29, 30, 35, 36, 38, 46, 49] → j ∉ J) {no' : Nat} {ol' : Nat → Nat} {sp' : Nat → Int} (O : OMo no' ol' sp' g') : RMd B' (D.1, D.2.1, D.2.2.1, (no', ol', sp'), D.2.2.2.2) g' := by
  obtain ⟨m1', m2', m3', m4', m5', m6'⟩ := M
  have e : ∀ b, b ∈ [50, 51, 53, 54, 55, 56, 63, 64, 65, 66, 69, 70, 73, 74, 75] → g' b = g b := fun b hb => F b ((by decide : ∀ b, b ∈ [50, 51, 53, 54, 55, 56, 63, 64, 65, 66, 69, 70, 73, 74, 75] → b ∉ [14, 67, 68]) b hb)
  have e14 : ∀ j, j ∈ [13, 28, 29, 30, 35, 36, 38, 46, 49] → g' 14 j = g 14 j := fun j hj => G j (hJ j hj)
  exact ⟨MW_B (MW_to m1' ⟨e14 28 (by decide), e14 29 (by decide), e14 30 (by decide), e14 38 (by decide)⟩ (e 63 (by decide)) (e 64 (by decide)) (e 65 (by decide)) (e 66 (by decide)) (e 69 (by decide)) (e 70 (by decide))) hB, MI_B (MI_to m2' (e14 49 (by decide)) (e 75 (by decide))) hB, O, NM_to m4' (e14 46 (by decide)) (e 73 (by decide)) (e 74 (by decide)), ⟨RMl_to m5'.1 (e14 13 (by decide)) (fun b hb => e b ((by decide : ∀ b, b ∈ [50, 51, 53, 54, 55, 56] → b ∈ [50, 51, 53, 54, 55, 56, 63, 64, 65, 66, 69, 70, 73, 74, 75]) b hb)), by rw [e14 35 (by decide)]; exact m5'.2⟩, by rw [e14 36 (by decide)]; exact m6'⟩
/-- the reference has read a rule -/
theorem RM_rd1 {B B' : Nat} {D : rD} {g g' : zH} (M : RMd B D g) (hB : B ≤ B') (F : FR [14, 50, 51, 52, 53, 54, 55, 56] g g') {J : List Nat} (G : FS 14 J g g') (hJ : ∀ j, j ∈ [28, 29, 30, 33, 35, 36, 38, 46, 49] → j ∉ J) {nl' : Nat} {lw' : Nat → List rCl} (O : RMl nl' lw' g') : RMd B' (D.1, D.2.1, D.2.2.1, D.2.2.2.1, D.2.2.2.2.1, (nl', lw'), D.2.2.2.2.2.2) g' := by
  obtain ⟨m1', m2', m3', m4', m5', m6'⟩ := M
  have e : ∀ b, b ∈ [63, 64, 65, 66, 67, 68, 69, 70, 73, 74, 75] → g' b = g b := fun b hb => F b ((by decide : ∀ b, b ∈ [63, 64, 65, 66, 67, 68, 69, 70, 73, 74, 75] → b ∉ [14, 50, 51, 52, 53, 54, 55, 56]) b hb)
  have e14 : ∀ j, j ∈ [28, 29, 30, 33, 35, 36, 38, 46, 49] → g' 14 j = g 14 j := fun j hj => G j (hJ j hj)
  exact ⟨MW_B (MW_to m1' ⟨e14 28 (by decide), e14 29 (by decide), e14 30 (by decide), e14 38 (by decide)⟩ (e 63 (by decide)) (e 64 (by decide)) (e 65 (by decide)) (e 66 (by decide)) (e 69 (by decide)) (e 70 (by decide))) hB, MI_B (MI_to m2' (e14 49 (by decide)) (e 75 (by decide))) hB, OM_to m3' (e14 33 (by decide)) (e 67 (by decide)) (e 68 (by decide)), NM_to m4' (e14 46 (by decide)) (e 73 (by decide)) (e 74 (by decide)), ⟨O, by rw [e14 35 (by decide)]; exact m5'.2⟩, by rw [e14 36 (by decide)]; exact m6'⟩
theorem TM_at {n : Nat} {b : Nat → Nat} {h h1 : zH} (H : TMo n b h) {L : List Nat} (F : FR L h h1) (hL : ∀ b, b ∈ mrw → b ∉ L) : TMo n b h1 := TM_to H (by rw [F 14 (hL 14 (by decide))]) (F 49 (hL 49 (by decide)))
theorem st2 {N : Nat} (hN : 6600 ≤ N) {nn c : Nat} {h : zH} (hc : c < 512) (H : Rr nn c h) {a1 : Int} (w1 : zw a1 = a1) : ∃ (r s : Int) (h1 h2 : zH), fX10_fault N a1 h = some (r, h1) ∧ fX11_fault N a1 h1 = some (s, h2) ∧ zi r = zi s ∧ Rr nn (c + 1) h2 := by
  have HH := H
  obtain ⟨T, D, V, C, M⟩ := H
  obtain ⟨n, b, T0, TX0, TM0⟩ := RT_T T
  by_cases c0 : a1 = 0
  · subst c0
    obtain ⟨h1, x1, x2, x3, _⟩ := fault0X T0 (N := N) (by omega) TX0
    obtain ⟨h2, y1, y2, y3, _⟩ := fault0M T0 (N := N) (by omega) (TM_at TM0 x2 (by decide))
    have y1 : fX11_readHill N h1 = some (hF n b, h2) := y1
    have e : fX11_fault N 0 h1 = some (hF n b, h2) := by
      unfold fX11_fault
      rw [if_pos zw_0, y1, z2_some]
    exact ⟨_, _, h1, h2, x1, e, rfl, Rr_mk T M x2 (by decide) (by decide) (x3 1 (by decide)) V (RC_rd C (by omega) x2 (by decide) (by rw [x2 6 (by decide)])) (fun M1 => ⟨y2, y3 2 (by decide), RM_rd0 M1 (by omega) y2 y3 (by decide)⟩) (by decide) (by decide)⟩
  · by_cases c1 : a1 = 1
    · subst c1
      obtain ⟨h1, x1, x2, x3, _⟩ := fault1X T0 (N := N) (by omega) TX0
      obtain ⟨h2, y1, y2⟩ := fault1M T0 (N := N) (by omega) (TM_at TM0 x2 (by decide))
      exact ⟨_, _, h1, h2, x1, y1, rfl, Rr_mk T M x2 (by decide) (by decide) (x3 1 (by decide)) V (RC_rd C (by omega) x2 (by decide) (by rw [x2 6 (by decide)])) (fun M1 => ⟨y2.1, y2.2.1 2 (by decide), RM_rd1 M1 (by omega) y2.1 y2.2.1 (by decide) (RMl_L V.2.2.2.2.2.1 V.2.2.2.2.2.1.1 y2 M1.2.2.2.2.1.1)⟩) (by decide) (by decide)⟩
    · by_cases c2 : a1 = 2
      · subst c2
        obtain ⟨h1, x1, x2, x3, x4, _⟩ := fault2X T0 (N := N) (by omega) TX0
        obtain ⟨h2, y1, y2⟩ := fault2M T0 (N := N) (by omega) (TM_at TM0 x2 (by decide))
        exact ⟨_, _, h1, h2, x1, y1, rfl, Rr_mk T M x2 (by decide) (by decide) (x3 1 (by decide)) V (RC_rd C (by omega) x2 (by decide) (x4 0 (by decide))) (fun M1 => ⟨y2.1, y2.2.1 2 (by decide), RM_rd2 M1 (by omega) y2.1 y2.2.1 (by decide) (OX_oK V.2.2.2.1 M1.2.2.1 V.2.2.2.1.1 y2)⟩) (by decide) (by decide)⟩
      · have ex : fX10_fault N a1 h = some (-2, h) := by
          unfold fX10_fault
          rw [w1, if_neg c0, show zw 1 = 1 by decide, if_neg c1, show zw 2 = 2 by decide, if_neg c2]
        have em : fX11_fault N a1 h = some (-2, h) := by
          unfold fX11_fault
          rw [w1, if_neg c0, show zw 1 = 1 by decide, if_neg c1, show zw 2 = 2 by decide, if_neg c2]
        exact ⟨_, _, h, h, ex, em, rfl, Rr_same HH⟩
