/-! rests keeps the relation: the array stands, or it is made, or nothing is done -/
theorem RC_rest {nn nn' lim lim' : Nat} {D : rD} {h h' : zH} (C : RCd nn lim D h) (hl : lim ≤ lim') (F : FR [12, 44, 45, 76] h h') (S : SHr nn' D.1.1 D.1.2.2.1 D.1.2.2.2 h') : RCd nn' lim' D h' := by
  obtain ⟨c1, c2, c3, c4, c5, c6, c7, c8⟩ := C
  exact ⟨CW_fr c1 hl F (by decide), CI_to c2 (by rw [F 0 (by decide)]) (F 38 (by decide)) (F 39 (by decide)), OX_to c3 (by rw [F 6 (by decide)]) (F 27 (by decide)) (F 28 (by decide)), NX_to c4 (by rw [F 13 (by decide)]) (F 46 (by decide)) (F 47 (by decide)), KM_to c5 (F 43 (by decide)), ⟨RXl_to c6.1 (by rw [F 5 (by decide)]) (F 24 (by decide)) (F 25 (by decide)), by rw [F 5 (by decide)]; exact c6.2⟩, by rw [F 0 (by decide)]; exact c7, S⟩
theorem restQ {N : Nat} (hN : 200000 ≤ N) {nn nn' c : Nat} {h h0 h1 : zH} {D : rD} (T : RT h) (V : RVd D) (C : RCd nn (240 * c) D h) (M : RMd (1500 * c) D h) (F : FR [12, 44, 45, 76] h h1) (S : SHr nn' D.1.1 D.1.2.2.1 D.1.2.2.2 h1) {a1 : Int} (w1 : zw a1 = a1) : ∃ h2, fX11_rests N a1 h1 = some (restsV D.1.1 D.1.2.2.1 D.1.2.2.2 a1, h2) ∧ Rr nn' (c + 1) h2 := by
  have M1 : RMd (1500 * c) D h1 := RM_eq M (Nat.le_refl _) (EQ_fr F (by decide))
  obtain ⟨h2, y1, y2⟩ := restsM V.1 M1.1.1 hN w1
  exact ⟨h2, y1, Rr_mk T M F (by decide) (by decide) (by rw [F 1 (by decide)]) V (RC_rest C (by omega) F S) (fun M1 => ⟨y2, by rw [y2 14 (by decide)], RM_to M1 (by omega) (fun b hb => y2 b ((by decide : ∀ b, b ∈ [50, 51, 53, 54, 55, 56, 63, 64, 65, 66, 67, 68, 69, 70, 73, 74, 75] → b ∉ [72]) b hb)) (fun j _ => by rw [y2 14 (by decide)])⟩) (by decide) (by decide)⟩
theorem st27 {N : Nat} (hN : 200000 ≤ N) {nn c : Nat} (hn : zN ≤ nn ∧ nn ≤ zN + 1) {h : zH} (H : Rr nn c h) {a1 : Int} (w1 : zw a1 = a1) :
    (nn = zN + 1 ∧ ∃ (r s : Int) (h1 h2 : zH), fX10_rests N a1 h = some (r, h1) ∧ fX11_rests N a1 h1 = some (s, h2) ∧ zi r = zi s ∧ Rr nn (c + 1) h2) ∨
    ((zw (fX10_hasHill h) = 0 ∨ ¬ zw (fX10_hasHill h) = 0 ∧ ¬ zw (fX1_many 2 1 h) ≤ zw 5) ∧ ∃ (r s : Int) (h2 : zH), fX10_rests N a1 h = some (r, h) ∧ fX11_rests N a1 h = some (s, h2) ∧ zi r = zi s ∧ Rr nn (c + 1) h2) ∨
    (nn = zN ∧ h 12 5 = 0 ∧ ¬ zw (fX10_hasHill h) = 0 ∧ zw (fX1_many 2 1 h) ≤ zw 5 ∧ ∀ w : Nat → Int, ∃ (r s : Int) (h1 h2 : zH), fX10_rests N a1 (fun b => if b = 76 then w else h b) = some (r, h1) ∧ fX11_rests N a1 h1 = some (s, h2) ∧ zi r = zi s ∧ Rr (zN + 1) (c + 1) h2) := by
  obtain ⟨T, D, V, C, M⟩ := H
  have vv := V.1.1
  have C8 := C.2.2.2.2.2.2.2
  by_cases cc : 0 < D.1.1 ∧ D.1.1 ≤ 5
  · rcases (show nn = zN + 1 ∨ nn = zN by omega) with en | en
    · left
      obtain ⟨h1, x1, x2, _, x4⟩ := restsX V.1 C.1.1 C8 (N := N) (by omega) w1
      obtain ⟨h2, y1, y2⟩ := restQ hN (h0 := h) T V C M x2 (x4 cc) w1
      refine ⟨en, _, _, h1, h2, x1, y1, rfl, ?_⟩
      rw [en]; exact y2
    · right; right
      refine ⟨en, ?_, ?_, ?_, fun w => ?_⟩
      · rcases C8 with s | ⟨_, s, _⟩
        · exact s
        · rw [en] at s; omega
      · rw [hasHillX V.1 C.1.1, if_pos cc.1]; decide
      · rw [xm1 C.1.1, zw_n9 (by omega), show zw 5 = 5 by decide]; omega
      · have F0 : FR [12, 44, 45, 76] h (fun b => if b = 76 then w else h b) := fun b hb => if_neg (fun e => hb (by rw [e]; decide))
        have S0 := SHr_76 C8 en w
        obtain ⟨h1, x1, x2, _, x4⟩ := restsX V.1 (HX_44 C.1.1 F0 (by decide)) S0 (N := N) (by omega) w1
        obtain ⟨h2, y1, y2⟩ := restQ hN (h0 := h) T V C M (FR_tr F0 x2) (x4 cc) w1
        exact ⟨_, _, h1, h2, x1, y1, rfl, y2⟩
  · right; left
    obtain ⟨h1, x1, x2, x3, _⟩ := restsX V.1 C.1.1 C8 (N := N) (by omega) w1
    have e := x3 cc
    subst e
    obtain ⟨h2, y1, y2⟩ := restQ hN (h0 := h1) T V C M x2 C8 w1
    refine ⟨?_, _, _, h2, x1, y1, rfl, y2⟩
    rw [hasHillX V.1 C.1.1, xm1 C.1.1, zw_n9 (by omega), show zw 5 = 5 by decide]
    by_cases c0 : 0 < D.1.1
    · right
      rw [if_pos c0]
      exact ⟨by decide, by omega⟩
    · left
      rw [if_neg c0]; decide
/-! the first relation -/
theorem st_same {N : Nat} {nn c : Nat} {h : zH} (H : Rr nn c h) : Rr nn (c + 1) h := Rr_same H
