/-! texts keep the relation -/
/-- as Rr_mk, the tape emptied -/
theorem Rr_mk0 {nn c : Nat} {h h1 h2 : zH} {D D' : rD} {L1 L2 : List Nat} (T : RT h) (M : RMd (1500 * c) D h) (F1 : FR L1 h h1) (hL1 : ∀ b, b ∈ mrw → b ∉ L1) (h15 : 15 ∉ L1) (e11 : h1 1 1 = 0) (V' : RVd D') (C' : RCd nn (240 * (c + 1)) D' h1) (k : RMd (1500 * c) D h1 → FR L2 h1 h2 ∧ h2 14 2 = 0 ∧ RMd (1500 * (c + 1)) D' h2) (hL2 : ∀ b, b ∈ crw → b ∉ L2) (h49 : 49 ∉ L2) : Rr nn (c + 1) h2 := by
  have E1 := EQ_fr F1 hL1
  obtain ⟨F2, e2, M'⟩ := k (RM_eq M (Nat.le_refl _) E1)
  have E2 := EQ_fr F2 hL2
  refine ⟨RT_0 T ?_ ?_ e2 ?_, D', V', RC_eq C' (Nat.le_refl _) E2, M'⟩
  · rw [E2 1 (by decide)]; exact e11
  · rw [E2 15 (by decide)]; exact F1 15 h15
  · rw [F2 49 h49, E1 49 (by decide)]
theorem st3 {N : Nat} (hN : 6600 ≤ N) {nn c : Nat} {h : zH} (hc : c < 512) (H : Rr nn c h) {a1 : Int} (w1 : zw a1 = a1) : ∃ (r s : Int) (h1 h2 : zH), fX10_text N a1 h = some (r, h1) ∧ fX11_text N a1 h1 = some (s, h2) ∧ zi r = zi s ∧ Rr nn (c + 1) h2 := by
  have HH := H
  obtain ⟨T, D, V, C, M⟩ := H
  obtain ⟨n, b, T0, TX0, TM0⟩ := RT_T T
  by_cases c0 : a1 = 0
  · subst c0
    obtain ⟨xy, xn⟩ := text0X T0 hN TX0
    by_cases ok : hF n b = -1
    · obtain ⟨h1, x1, x2, x3, x4, x5, x6, x7, x8, x9, x10, x11, x12, x13, x14, x15⟩ := xy ok
      obtain ⟨h2, y1, y2, y3, y4, y5, y6, y7, y8, y9⟩ := (text0M T0 (N := N) (by omega) (TM_at TM0 x2 (by decide))).1 ok
      obtain ⟨gz, _, _, _, z4⟩ := fault0M T0 (N := N) (by omega) TM0
      obtain ⟨cV, _⟩ := whB_HV (z4 (hF_ok ok).1).1 hAll_CR (hF_ok ok).2
      obtain ⟨c1, c2, c3, c4, c5, c6, c7, c8⟩ := C
      obtain ⟨q1, q2, q3, ⟨q4, l, q5, q6, q7, q8⟩, q9⟩ := c1
      have row : ∀ b, b ∈ [24, 25, 27, 28] → h1 b = h b := fun b hb => x2 b ((by decide : ∀ b, b ∈ [24, 25, 27, 28] → b ∉ [0, 1, 10, 12, 13, 16, 17, 18, 19, 20, 21, 30, 43]) b hb)
      refine ⟨_, _, h1, h2, x1, y1, rfl, Rr_mk0 (D' := ((hC n b 1, hC n b 2, hC n b 3, hT n b), (a0, []), none, D.2.2.2.1, (0, D.2.2.2.2.1.2), D.2.2.2.2.2)) T M x2 (by decide) (by decide) x8.1 ⟨cV, w0_OK cV, fun a h => (by cases h), V.2.2.2.1, ⟨Nat.zero_le _, fun i hi => absurd (show i < 0 from hi) (by omega)⟩, V.2.2.2.2.2⟩ ⟨⟨x9, x10, fun i hi => absurd (show i < 0 from hi) (by omega), ⟨x11, l, by rw [x5 2 (by decide)]; exact q5, Nat.zero_le _, by omega, fun i a h => by cases i <;> cases h⟩, fun a h => absurd h List.not_mem_nil⟩, x14, OX_to c3 (by rw [x2 6 (by decide)]) (row 27 (by decide)) (row 28 (by decide)), ⟨x13, fun i hi => absurd (show i < 0 from hi) (by omega)⟩, fun left tm h1' h2' => Or.inl (x15 _ (by omega)), ⟨RXl_to c6.1 (by rw [x2 5 (by decide)]) (row 24 (by decide)) (row 25 (by decide)), by rw [x2 5 (by decide)]; exact c6.2⟩, by rw [x3 14 (by decide)]; exact c7, Or.inl x12⟩ (fun M1 => ⟨y2, y4.1, ?_⟩) (by decide) (by decide)⟩
      obtain ⟨m1', m2', m3', m4', m5', m6'⟩ := M1
      have e : ∀ b, b ∈ [50, 51, 53, 54, 55, 56, 67, 68] → h2 b = h1 b := fun b hb => y2 b ((by decide : ∀ b, b ∈ [50, 51, 53, 54, 55, 56, 67, 68] → b ∉ [14, 59, 60, 61, 62, 63, 64, 65, 66, 69]) b hb)
      exact ⟨⟨y5, MS_B (Nat.zero_le _) y6, y7, fun i a h => by cases i <;> cases h⟩, y9, OM_to m3' (y3 33 (by decide)) (e 67 (by decide)) (e 68 (by decide)), ⟨y8, fun i hi => absurd (show i < 0 from hi) (by omega)⟩, ⟨RMl_to m5'.1 (y3 13 (by decide)) (fun b hb => e b ((by decide : ∀ b, b ∈ [50, 51, 53, 54, 55, 56] → b ∈ [50, 51, 53, 54, 55, 56, 67, 68]) b hb)), by rw [y3 35 (by decide)]; exact m5'.2⟩, by rw [y3 36 (by decide)]; exact m6'⟩
    · obtain ⟨h1, x1, x2, x3⟩ := xn ok
      obtain ⟨h2, y1, y2, y3⟩ := (text0M T0 (N := N) (by omega) (TM_at TM0 x2 (by decide))).2 ok
      exact ⟨_, _, h1, h2, x1, y1, rfl, Rr_mk T M x2 (by decide) (by decide) (x3 1 (by decide)) V (RC_rd C (by omega) x2 (by decide) (by rw [x2 6 (by decide)])) (fun M1 => ⟨y2, y3 2 (by decide), RM_rd0 M1 (by omega) y2 y3 (by decide)⟩) (by decide) (by decide)⟩
  · by_cases c1 : a1 = 1
    · subst c1
      have VL := V.2.2.2.2.2.1
      obtain ⟨xy, xn⟩ := text1X T0 VL (N := N) (by omega) TX0 C.2.2.2.2.2.1.1
      by_cases ok : D.2.2.2.2.2.1.1 < 4 ∧ (lwR n b).1 = -1
      · obtain ⟨h1, x1, x2, x3, x4, x5, x6⟩ := xy ok
        have R1 : RMl D.2.2.2.2.2.1.1 D.2.2.2.2.2.1.2 h1 := (RM_eq M (Nat.le_refl _) (EQ_fr x2 (by decide))).2.2.2.2.1.1
        obtain ⟨h2, y1, y2, y3, y4, y5⟩ := (text1M T0 VL (N := N) (by omega) (TM_at TM0 x2 (by decide)) R1).1 ok
        obtain ⟨c1, c2, c3, c4, c5, c6, c7, c8⟩ := C
        have row : ∀ b, b ∈ [0, 6, 10, 12, 13, 16, 17, 18, 27, 28, 30, 31, 38, 39, 42, 43, 46, 47, 76] → h1 b = h b := fun b hb => x2 b ((by decide : ∀ b, b ∈ [0, 6, 10, 12, 13, 16, 17, 18, 27, 28, 30, 31, 38, 39, 42, 43, 46, 47, 76] → b ∉ [1, 4, 5, 22, 23, 24, 25]) b hb)
        have v7 := V.2.2.2.2.2.2.1
        exact ⟨_, _, h1, h2, x1, y1, rfl, Rr_mk0 (D' := (D.1, D.2.1, D.2.2.1, D.2.2.2.1, D.2.2.2.2.1, (D.2.2.2.2.2.1.1 + 1, lw1 n b D.2.2.2.2.2.1.1 D.2.2.2.2.2.1.2), D.2.2.2.2.2.2)) T M x2 (by decide) (by decide) x5.1 ⟨V.1, V.2.1, V.2.2.1, V.2.2.2.1, V.2.2.2.2.1, RVl_1 T0 VL ok.1 ok.2, ⟨v7.1, by show D.2.2.2.2.2.2.1 < ((D.2.2.2.2.2.1.1 + 1 : Nat) : Int); omega⟩, V.2.2.2.2.2.2.2⟩ ⟨CW_to c1 (by omega) (row 10 (by decide)) (row 16 (by decide)) (row 17 (by decide)) (row 18 (by decide)) (row 30 (by decide)) (row 31 (by decide)) (row 42 (by decide)), CI_to c2 (by rw [row 0 (by decide)]) (row 38 (by decide)) (row 39 (by decide)), OX_to c3 (by rw [row 6 (by decide)]) (row 27 (by decide)) (row 28 (by decide)), NX_to c4 (by rw [row 13 (by decide)]) (row 46 (by decide)) (row 47 (by decide)), KM_to c5 (row 43 (by decide)), ⟨x6, by rw [x4 1 (by decide)]; exact c6.2⟩, by rw [row 0 (by decide)]; exact c7, SHr_to c8 (by rw [row 12 (by decide)]) (by rw [row 12 (by decide)]) (row 76 (by decide))⟩ (fun M1 => ⟨y2, y4.1, RM_rd1 M1 (by omega) y2 y3 (by decide) y5⟩) (by decide) (by decide)⟩
      · obtain ⟨h1, x1, x2, x3⟩ := xn ok
        have R1 : RMl D.2.2.2.2.2.1.1 D.2.2.2.2.2.1.2 h1 := (RM_eq M (Nat.le_refl _) (EQ_fr x2 (by decide))).2.2.2.2.1.1
        obtain ⟨h2, y1, y2, y3, y4⟩ := (text1M T0 VL (N := N) (by omega) (TM_at TM0 x2 (by decide)) R1).2 ok
        exact ⟨_, _, h1, h2, x1, y1, rfl, Rr_mk T M x2 (by decide) (by decide) (x3 1 (by decide)) V (RC_rd C (by omega) x2 (by decide) (by rw [x2 6 (by decide)])) (fun M1 => ⟨y2, y3 2 (by decide), RM_rd1 M1 (by omega) y2 y3 (by decide) y4⟩) (by decide) (by decide)⟩
    · by_cases c2 : a1 = 2
      · subst c2
        have VO := V.2.2.2.1
        obtain ⟨xy, xn⟩ := text2X T0 VO (N := N) (by omega) TX0 C.2.2.1
        by_cases ok : D.2.2.2.1.1 < 4 ∧ oOk n b
        · obtain ⟨h1, x1, x2, x3, x4, x5, x6⟩ := xy ok
          have R1 : OMo D.2.2.2.1.1 D.2.2.2.1.2.1 D.2.2.2.1.2.2 h1 := (RM_eq M (Nat.le_refl _) (EQ_fr x2 (by decide))).2.2.1
          obtain ⟨h2, y1, y2, y3, y4, y5⟩ := (text2M T0 VO (N := N) (by omega) (TM_at TM0 x2 (by decide)) R1).1 ok
          obtain ⟨c1, c2, c3, c4, c5, c6, c7, c8⟩ := C
          have row : ∀ b, b ∈ [0, 5, 10, 12, 13, 16, 17, 18, 24, 25, 30, 31, 38, 39, 42, 43, 46, 47, 76] → h1 b = h b := fun b hb => x2 b ((by decide : ∀ b, b ∈ [0, 5, 10, 12, 13, 16, 17, 18, 24, 25, 30, 31, 38, 39, 42, 43, 46, 47, 76] → b ∉ [1, 6, 27, 28, 29]) b hb)
          exact ⟨_, _, h1, h2, x1, y1, rfl, Rr_mk0 (D' := (D.1, D.2.1, D.2.2.1, (D.2.2.2.1.1 + 1, ol1 n b D.2.2.2.1.1 D.2.2.2.1.2.1, sp1 n b D.2.2.2.1.1 D.2.2.2.1.2.2), D.2.2.2.2)) T M x2 (by decide) (by decide) x5.1 ⟨V.1, V.2.1, V.2.2.1, OV_1 VO ok.1 ok.2, V.2.2.2.2⟩ ⟨CW_to c1 (by omega) (row 10 (by decide)) (row 16 (by decide)) (row 17 (by decide)) (row 18 (by decide)) (row 30 (by decide)) (row 31 (by decide)) (row 42 (by decide)), CI_to c2 (by rw [row 0 (by decide)]) (row 38 (by decide)) (row 39 (by decide)), x6, NX_to c4 (by rw [row 13 (by decide)]) (row 46 (by decide)) (row 47 (by decide)), KM_to c5 (row 43 (by decide)), ⟨RXl_to c6.1 (by rw [row 5 (by decide)]) (row 24 (by decide)) (row 25 (by decide)), by rw [row 5 (by decide)]; exact c6.2⟩, by rw [row 0 (by decide)]; exact c7, SHr_to c8 (by rw [row 12 (by decide)]) (by rw [row 12 (by decide)]) (row 76 (by decide))⟩ (fun M1 => ⟨y2, y4.1, RM_rd2 M1 (by omega) y2 y3 (by decide) y5⟩) (by decide) (by decide)⟩
        · obtain ⟨h1, x1, x2, x3, x4⟩ := xn ok
          have R1 : OMo D.2.2.2.1.1 D.2.2.2.1.2.1 D.2.2.2.1.2.2 h1 := (RM_eq M (Nat.le_refl _) (EQ_fr x2 (by decide))).2.2.1
          obtain ⟨h2, y1, y2, y3, y4⟩ := (text2M T0 VO (N := N) (by omega) (TM_at TM0 x2 (by decide)) R1).2 ok
          exact ⟨_, _, h1, h2, x1, y1, rfl, Rr_mk T M x2 (by decide) (by decide) (x3 1 (by decide)) V (RC_rd C (by omega) x2 (by decide) (x4 0 (by decide))) (fun M1 => ⟨y2, y3 2 (by decide), RM_rd2 M1 (by omega) y2 y3 (by decide) y4⟩) (by decide) (by decide)⟩
      · have fx : fX10_fault N a1 h = some (-2, h) := by
          unfold fX10_fault
          rw [w1, if_neg c0, show zw 1 = 1 by decide, if_neg c1, show zw 2 = 2 by decide, if_neg c2]
        have ex : fX10_text N a1 h = some (-1, h) := by
          unfold fX10_text fX10_text_c37
          rw [w1, show zw 1 = 1 by decide, if_neg c1, show zw 2 = 2 by decide, if_neg c2, if_pos zw_0, fx, z2_some, if_neg (by decide)]
        have em : fX11_text N a1 h = some (-1, h) := by
          unfold fX11_text fX11_text_c22 fX11_text_c69
          rw [w1, if_neg c0, show zw 1 = 1 by decide, if_neg c1, show zw 2 = 2 by decide, if_neg c2]
        exact ⟨_, _, h, h, ex, em, rfl, Rr_same HH⟩
