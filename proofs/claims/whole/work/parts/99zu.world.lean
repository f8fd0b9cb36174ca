/-! the calls that change the world keep the relation -/
theorem Rr_w {nn c : Nat} {h h1 h2 : zH} {D : rD} {w' : hW} {lim' B' : Nat} (T : RT h) (V : RVd D) (C : RCd nn (240 * c) D h) (M : RMd (1500 * c) D h) {L1 L2 J : List Nat} (F1 : FR L1 h h1) (G5 : FS 5 [5] h h1) (G0 : FS 0 [15] h h1) (hL1 : ∀ b, b ∈ mrw ++ [1, 6, 12, 13, 15, 24, 25, 27, 28, 38, 39, 46, 47, 76] → b ∉ L1) (O' : WOK D.1.1 D.1.2.1 D.1.2.2.1 D.1.2.2.2 w') (hl : lim' ≤ 240 * (c + 1)) (C' : CW D.1.1 D.1.2.1 D.1.2.2.1 D.1.2.2.2 lim' w' h1) (K' : KM D.1.2.2.2 D.1.2.2.1 h1) (F2 : FR L2 h1 h2) (G14 : FS 14 J h1 h2) (hJ : ∀ j, j ∈ [2, 13, 33, 35, 36, 46, 49] → j ∉ J) (hL2 : ∀ b, b ∈ crw ++ [49, 50, 51, 53, 54, 55, 56, 67, 68, 73, 74, 75] → b ∉ L2) (hB : B' ≤ 1500 * (c + 1)) (M' : MW D.1.1 D.1.2.1 D.1.2.2.1 D.1.2.2.2 B' w' h2) : Rr nn (c + 1) h2 := by
  have e : ∀ b, b ∈ [1, 6, 12, 13, 15, 24, 25, 27, 28, 38, 39, 46, 47, 76] → h1 b = h b := fun b hb => F1 b (hL1 b (List.mem_append.mpr (Or.inr hb)))
  have e2 : ∀ b, b ∈ [49, 50, 51, 53, 54, 55, 56, 67, 68, 73, 74, 75] → h2 b = h1 b := fun b hb => F2 b (hL2 b (List.mem_append.mpr (Or.inr hb)))
  obtain ⟨V1, V2, V3, V4, V5, V6, V7, V8⟩ := V
  obtain ⟨c1, c2, c3, c4, c5, c6, c7, c8⟩ := C
  refine Rr_mk (D := D) (D' := (D.1, w', D.2.2)) T M F1 (fun b hb => hL1 b (List.mem_append.mpr (Or.inl hb))) (hL1 15 (by decide)) (by rw [e 1 (by decide)]) ⟨V1, O', V3, V4, V5, V6, V7, V8⟩ ⟨CW_to C' hl rfl rfl rfl rfl rfl rfl rfl, CI_to c2 (G0 13 (by decide)) (e 38 (by decide)) (e 39 (by decide)), OX_to c3 (by rw [e 6 (by decide)]) (e 27 (by decide)) (e 28 (by decide)), NX_to c4 (by rw [e 13 (by decide)]) (e 46 (by decide)) (e 47 (by decide)), K', ⟨RXl_to c6.1 (G5 0 (by decide)) (e 24 (by decide)) (e 25 (by decide)), by rw [G5 1 (by decide)]; exact c6.2⟩, by rw [G0 14 (by decide)]; exact c7, SHr_to c8 (by rw [e 12 (by decide)]) (by rw [e 12 (by decide)]) (e 76 (by decide))⟩ (fun M1 => ⟨F2, G14 2 (hJ 2 (by decide)), ?_⟩) (fun b hb => hL2 b (List.mem_append.mpr (Or.inl hb))) (hL2 49 (by decide))
  obtain ⟨m1', m2', m3', m4', m5', m6'⟩ := M1
  exact ⟨MW_B M' hB, MI_B (MI_to m2' (G14 49 (hJ 49 (by decide))) (e2 75 (by decide))) (by omega), OM_to m3' (G14 33 (hJ 33 (by decide))) (e2 67 (by decide)) (e2 68 (by decide)), NM_to m4' (G14 46 (hJ 46 (by decide))) (e2 73 (by decide)) (e2 74 (by decide)), ⟨RMl_to m5'.1 (G14 13 (hJ 13 (by decide))) (fun b hb => e2 b ((by decide : ∀ b, b ∈ [50, 51, 53, 54, 55, 56] → b ∈ [49, 50, 51, 53, 54, 55, 56, 67, 68, 73, 74, 75]) b hb)), by rw [G14 35 (hJ 35 (by decide))]; exact m5'.2⟩, by rw [G14 36 (hJ 36 (by decide))]; exact m6'⟩
theorem st10 {N : Nat} (hN : 6600 ≤ N) {nn c : Nat} {h : zH} (hc : c < 512) (H : Rr nn c h) {a1 a2 : Int} (w1 : zw a1 = a1) (w2 : zw a2 = a2) : ∃ (r s : Int) (h1 h2 : zH), fX10_file N a1 a2 h = some (r, h1) ∧ fX11_file N a1 a2 h1 = some (s, h2) ∧ zi r = zi s ∧ Rr nn (c + 1) h2 := by
  obtain ⟨T, D, V, C, M⟩ := H
  obtain ⟨h1, x1, x2, x3⟩ := fileX V.1 V.2.1 C.1 (by omega) (N := N) (by omega) w1 w2
  have M1 : RMd (1500 * c) D h1 := RM_eq M (Nat.le_refl _) (EQ_fr x2 (by decide))
  obtain ⟨h2, y1, y2, y3, y4⟩ := fileM V.1 V.2.1 M1.1 hN w1 w2
  exact ⟨_, _, h1, h2, x1, y1, rfl, Rr_w T V C M x2 (FS_of x2 (by decide)) (FS_of x2 (by decide)) (by decide) (wFile_OK V.1 V.2.1) (by omega) x3 (KM_to C.2.2.2.2.1 (x2 43 (by decide))) y2 y3 (by decide) (by decide) (by omega) y4⟩
theorem st11 {N : Nat} (hN : 6600 ≤ N) {nn c : Nat} {h : zH} (hc : c < 512) (H : Rr nn c h) {a1 : Int} (w1 : zw a1 = a1) : ∃ (r s : Int) (h1 h2 : zH), fX10_withdraw N a1 h = some (r, h1) ∧ fX11_withdraw N a1 h1 = some (s, h2) ∧ zi r = zi s ∧ Rr nn (c + 1) h2 := by
  obtain ⟨T, D, V, C, M⟩ := H
  obtain ⟨h1, x1, x2, x3⟩ := withX V.1 V.2.1 C.1 (by omega) (N := N) (by omega) w1
  have M1 : RMd (1500 * c) D h1 := RM_eq M (Nat.le_refl _) (EQ_fr x2 (by decide))
  obtain ⟨h2, y1, y2, y3, y4⟩ := withM V.1 V.2.1 M1.1 hN w1
  exact ⟨_, _, h1, h2, x1, y1, rfl, Rr_w T V C M x2 (FS_of x2 (by decide)) (FS_of x2 (by decide)) (by decide) (wLeave_OK V.2.1) (by omega) x3 (KM_to C.2.2.2.2.1 (x2 43 (by decide))) y2 y3 (by decide) (by decide) (by omega) y4⟩
theorem wCan_n {np : Nat} {most x : Int} {w : hW} (h : wCan np most x w) (hm : most ≤ 240) : aT w.1 + x.toNat ≤ 9999 := by
  obtain ⟨h1, h2, h3, h4⟩ := h
  omega
theorem gXr {N nn lim lr : Nat} {D : rD} {h : zH} (hN : 300 ≤ N) (V : RVd D) (C : RCd nn lim D h) (hlr : lr = 32 ∨ lr = 36) : GX N lr (grL D.2.2.2.2.2.2.1 D.2.2.2.2.2.1.2) h := GX_of V.2.2.2.2.2.1 V.2.2.2.2.2.2.1 hN hlr C.2.2.2.2.2.1.1 C.2.2.2.2.2.1.2
theorem gMr {N B : Nat} {D : rD} {g : zH} (hN : 1000 ≤ N) (V : RVd D) (M : RMd B D g) : GM N (grL D.2.2.2.2.2.2.1 D.2.2.2.2.2.1.2) g := GM_of V.2.2.2.2.2.1 V.2.2.2.2.2.2.1 hN M.2.2.2.2.1.1 M.2.2.2.2.1.2
theorem st12 {N : Nat} (hN : 6600 ≤ N) {nn c : Nat} {h : zH} (hc : c < 512) (H : Rr nn c h) {a1 : Int} (w1 : zw a1 = a1) : ∃ (r s : Int) (h1 h2 : zH), fX10_go N a1 h = some (r, h1) ∧ fX11_go N a1 h1 = some (s, h2) ∧ zi r = zi s ∧ Rr nn (c + 1) h2 := by
  have HH := H
  obtain ⟨T, D, V, C, M⟩ := H
  obtain ⟨xn, xy⟩ := goX V.1 V.2.1 C.1 (by omega) (by omega) (gXr (N := N) (by omega) V C (Or.inl rfl)) w1
  by_cases cc : wCan D.1.1 240 a1 D.2.1
  · obtain ⟨h1, x1, x2, x3, x4⟩ := xy cc
    have M1 : RMd (1500 * c) D h1 := RM_eq M (Nat.le_refl _) (EQ_fr x2 (by decide))
    obtain ⟨h2, y1, y2, y3, y4⟩ := (goMM V.1 V.2.1 M1.1 (by omega) hN (gMr (by omega) V M1) w1).2 cc
    exact ⟨_, _, h1, h2, x1, y1, rfl, Rr_w T V C M x2 x3 (FS_of x2 (by decide)) (by decide) (wGoN_OK V.1 V.2.1 _ (wCan_n cc (by decide))).1 (by omega) x4 (KM_to C.2.2.2.2.1 (x2 43 (by decide))) y2 y3 (by decide) (by decide) (by omega) y4⟩
  · exact ⟨_, _, h, h, xn cc, (goMM V.1 V.2.1 M.1 (by omega) hN (gMr (by omega) V M) w1).1 cc, rfl, Rr_same HH⟩
theorem st13 {N : Nat} (hN : 6600 ≤ N) {nn c : Nat} {h : zH} (hc : c < 512) (H : Rr nn c h) {a1 : Int} (w1 : zw a1 = a1) : ∃ (r s : Int) (h1 h2 : zH), fX10_toil N a1 h = some (r, h1) ∧ fX11_toil N a1 h1 = some (s, h2) ∧ zi r = zi s ∧ Rr nn (c + 1) h2 := by
  have HH := H
  obtain ⟨T, D, V, C, M⟩ := H
  obtain ⟨xn, xy⟩ := toilX V.1 V.2.1 C.1 (by omega) C.2.2.2.2.1 (by omega) (gXr (N := N) (by omega) V C (Or.inl rfl)) w1
  by_cases cc : wCan D.1.1 48 a1 D.2.1
  · obtain ⟨h1, x1, x2, x3, x4, x5⟩ := xy cc
    have M1 : RMd (1500 * c) D h1 := RM_eq M (Nat.le_refl _) (EQ_fr x2 (by decide))
    obtain ⟨h2, y1, y2, y3, y4⟩ := (toilM V.1 V.2.1 M1.1 (by omega) hN (gMr (by omega) V M1) w1).2 cc
    exact ⟨_, _, h1, h2, x1, y1, rfl, Rr_w T V C M x2 x3 (FS_of x2 (by decide)) (by decide) (wToilN_OK V.1 V.2.1 _ (wCan_n cc (by decide))).1 (by omega) x5 x4 y2 y3 (by decide) (by decide) (by omega) y4⟩
  · exact ⟨_, _, h, h, xn cc, (toilM V.1 V.2.1 M.1 (by omega) hN (gMr (by omega) V M) w1).1 cc, rfl, Rr_same HH⟩
theorem st14 {N : Nat} (hN : 6600 ≤ N) {nn c : Nat} {h : zH} (hc : c < 512) (H : Rr nn c h) {a1 a2 : Int} (w1 : zw a1 = a1) : ∃ (r s : Int) (h1 h2 : zH), fX10_years N a1 a2 h = some (r, h1) ∧ fX11_years N a1 a2 h1 = some (s, h2) ∧ zi r = zi s ∧ Rr nn (c + 1) h2 := by
  have HH := H
  obtain ⟨T, D, V, C, M⟩ := H
  obtain ⟨xn, xy⟩ := yearX V.1 V.2.1 C.1 (by omega) C.2.2.2.2.1 (by omega) (gXr (N := N) (by omega) V C (Or.inl rfl)) (ec := D.2.2.2.2.2.2.2) ⟨C.2.2.2.2.2.2.1, V.2.2.2.2.2.2.2⟩ w1 (y := a2)
  by_cases cc : wCan D.1.1 240 a1 D.2.1
  · obtain ⟨h1, x1, x2, x3, x4, x5, x6⟩ := xy cc
    have M1 : RMd (1500 * c) D h1 := RM_eq M (Nat.le_refl _) (EQ_fr x2 (by decide))
    obtain ⟨h2, y1, y2, y3, y4⟩ := (yearM V.1 V.2.1 M1.1 (by omega) hN (gMr (by omega) V M1) (ec := D.2.2.2.2.2.2.2) ⟨M1.2.2.2.2.2, V.2.2.2.2.2.2.2⟩ w1 (y := a2)).2 cc
    exact ⟨_, _, h1, h2, x1, y1, rfl, Rr_w T V C M x2 x3 x4 (by decide) (wYrN_OK V.1 V.2.1 _ (wCan_n cc (by decide))).1 (by omega) x6 x5 y2 y3 (by decide) (by decide) (by omega) y4⟩
  · exact ⟨_, _, h, h, xn cc, (yearM V.1 V.2.1 M.1 (by omega) hN (gMr (by omega) V M) (ec := D.2.2.2.2.2.2.2) ⟨M.2.2.2.2.2, V.2.2.2.2.2.2.2⟩ w1 (y := a2)).1 cc, rfl, Rr_same HH⟩
theorem st15 {N : Nat} (hN : 6600 ≤ N) {nn c : Nat} {h : zH} (hc : c < 512) (H : Rr nn c h) : ∃ (r s : Int) (h1 h2 : zH), fX10_undo h = some (r, h1) ∧ fX11_undo N h1 = some (s, h2) ∧ zi r = zi s ∧ Rr nn (c + 1) h2 := by
  obtain ⟨T, D, V, C, M⟩ := H
  obtain ⟨h1, x1, x2, x3⟩ := undoX V.1 V.2.1 C.1 (by omega)
  have M1 : RMd (1500 * c) D h1 := RM_eq M (Nat.le_refl _) (EQ_fr x2 (by decide))
  obtain ⟨h2, y1, y2, y3, y4⟩ := undoM V.1 V.2.1 M1.1 (N := N) (by omega)
  exact ⟨_, _, h1, h2, x1, y1, rfl, Rr_w T V C M x2 (FS_of x2 (by decide)) (FS_of x2 (by decide)) (by decide) (wUndo_OK V.2.1) (by omega) x3 (KM_to C.2.2.2.2.1 (x2 43 (by decide))) y2 y3 (by decide) (by decide) (by omega) y4⟩
theorem wPer_OK {np nd nr : Nat} {t : Nat → Nat} {gr : hGr} {ol : Nat → Nat} {sp : Nat → Int} {o : Nat} {w : hW} (V : HV np nd nr t) (O : WOK np nd nr t w) : WOK np nd nr t (wPer np nd nr t gr ol sp o w).2 := rnGo_OK V _ _ w O
theorem st19 {N : Nat} (hN : 6600 ≤ N) {nn c : Nat} {h : zH} (hc : c < 512) (H : Rr nn c h) {a1 : Int} (w1 : zw a1 = a1) : ∃ (r s : Int) (h1 h2 : zH), fX10_perform N a1 h = some (r, h1) ∧ fX11_perform N a1 h1 = some (s, h2) ∧ zi r = zi s ∧ Rr nn (c + 1) h2 := by
  have HH := H
  obtain ⟨T, D, V, C, M⟩ := H
  obtain ⟨xn, xy⟩ := perfX V.1 V.2.2.2.1 V.2.1 C.1 (by omega) C.2.2.1 (by omega) (gXr (N := N) (by omega) V C (Or.inl rfl)) w1
  by_cases cc : 0 < D.1.1 ∧ 0 ≤ a1 ∧ a1 < D.2.2.2.1.1
  · obtain ⟨h1, x1, x2, x3, x4⟩ := xy cc
    have M1 : RMd (1500 * c) D h1 := RM_eq M (Nat.le_refl _) (EQ_fr x2 (by decide))
    obtain ⟨h2, y1, y2, y3, y4⟩ := (perfM V.1 V.2.2.2.1 V.2.1 M1.1 M1.2.2.1 (by omega) hN (gMr (by omega) V M1) w1).2 cc
    exact ⟨_, _, h1, h2, x1, y1, rfl, Rr_w T V C M x2 x3 (FS_of x2 (by decide)) (by decide) (wPer_OK V.1 V.2.1) (by omega) x4 (KM_to C.2.2.2.2.1 (x2 43 (by decide))) y2 y3 (by decide) (by decide) (by omega) y4⟩
  · exact ⟨_, _, h, h, xn cc, (perfM V.1 V.2.2.2.1 V.2.1 M.1 M.2.2.1 (by omega) hN (gMr (by omega) V M) w1).1 cc, rfl, Rr_same HH⟩
theorem im_or (im : Option hSt) : im = none ∨ ∃ a, im = some a := by
  cases im with
  | none => exact Or.inl rfl
  | some a => exact Or.inr ⟨a, rfl⟩
theorem st35 {N : Nat} (hN : 6600 ≤ N) {nn c : Nat} {h : zH} (hc : c < 512) (H : Rr nn c h) : ∃ (r s : Int) (h1 h2 : zH), fX10_back h = some (r, h1) ∧ fX11_back N h1 = some (s, h2) ∧ zi r = zi s ∧ Rr nn (c + 1) h2 := by
  have HH := H
  obtain ⟨T, D, V, C, M⟩ := H
  obtain ⟨xn, xy⟩ := backX V.1 C.1 C.2.1
  rcases im_or D.2.2.1 with e | ⟨a, e⟩
  · exact ⟨_, _, h, h, xn e, (backM V.1 M.1 M.2.1 (N := N) (by omega)).1 e, rfl, Rr_same HH⟩
  · obtain ⟨h1, x1, x2, x3⟩ := xy a e (V.2.2.1 a e)
    have M1 : RMd (1500 * c) D h1 := RM_eq M (Nat.le_refl _) (EQ_fr x2 (by decide))
    obtain ⟨h2, y1, y2, y3, y4⟩ := (backM V.1 M1.1 M1.2.1 (N := N) (by omega)).2 a e (V.2.2.1 a e)
    have O' : WOK D.1.1 D.1.2.1 D.1.2.2.1 D.1.2.2.2 (a, []) := ⟨V.2.2.1 a e, fun x hx => absurd hx List.not_mem_nil, (show (0 : Nat) ≤ 40 by decide), List.pairwise_singleton _ _⟩
    exact ⟨_, _, h1, h2, x1, y1, rfl, Rr_w T V C M x2 (FS_of x2 (by decide)) (FS_of x2 (by decide)) (by decide) O' (by omega) x3 (KM_to C.2.2.2.2.1 (x2 43 (by decide))) y2 y3 (by decide) (by decide) (by omega) y4⟩
