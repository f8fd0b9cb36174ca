set_option maxRecDepth 20000 in
set_option maxHeartbeats 4000000 in
theorem J_fX2_part {κ : zT} (C : zC κ RX2 cX2_part 4 (some .int)) {d : Nat} (hR : zR κ = zrm (d + 1)) (hd : 3 ≤ d + 1) {h : zH} {r : Int} (e1 : zrv κ = some (.int (zi r))) (e2 : zhf κ = h) {a1 : Int} {a2 : Int} {a3 : Int} (hF : fX2_part a1 a2 a3 h = r) : Z κ h 0 [(0, .ref (zα κ 6)), (1, .int (zi a1)), (2, .int (zi a2)), (3, .int (zi a3))] [] := by
  unfold fX2_part at hF
  refine z_iload_n (q := 1) C dX2_part_0 2 rfl rfl rfl ?_
  refine z_if_lt (tgt := 22) (q := 4) C dX2_part_1 (by decide) rfl (fun c1 => ?_) (fun c1 => ?_)
  · have hF := (if_pos c1).symm.trans hF
    refine z_iconst (q := 23) C dX2_part_22 rfl ?_
    subst hF
    exact z_iret C e1 e2 dX2_part_23
  · have hF := (if_neg c1).symm.trans hF
    refine z_iload_n (q := 5) C dX2_part_4 2 rfl rfl rfl ?_
    refine z_aload_n (q := 6) C dX2_part_5 0 rfl rfl rfl ?_
    refine z_iload_n (q := 7) C dX2_part_6 1 rfl rfl rfl ?_
    refine z_callV (q := 10) (o := 6) (av := [.int (zi a1)]) (rest := [.int (zi a2)]) (stk2 := [.int (zi (fX2_length a1 h)), .int (zi a2)]) C hR clX2 (zon C zo_6) kd_6 (M_fX2_length (zlv hd rfl) rfl) mY_X2_length q_854 (Nat.le_of_ble_eq_true rfl) dX2_part_7 rfl rfl rfl ?_
    refine z_icmp_ge (tgt := 22) (q := 13) C dX2_part_10 (by decide) rfl (fun c2 => ?_) (fun c2 => ?_)
    · have hF := (if_pos c2).symm.trans hF
      refine z_iconst (q := 23) C dX2_part_22 rfl ?_
      subst hF
      exact z_iret C e1 e2 dX2_part_23
    · have hF := (if_neg c2).symm.trans hF
      refine z_iload_n (q := 14) C dX2_part_13 3 rfl rfl rfl ?_
      refine z_if_lt (tgt := 22) (q := 17) C dX2_part_14 (by decide) rfl (fun c3 => ?_) (fun c3 => ?_)
      · have hF := (if_pos c3).symm.trans hF
        refine z_iconst (q := 23) C dX2_part_22 rfl ?_
        subst hF
        exact z_iret C e1 e2 dX2_part_23
      · have hF := (if_neg c3).symm.trans hF
        refine z_iload_n (q := 18) C dX2_part_17 3 rfl rfl rfl ?_
        refine z_iconst (q := 19) C dX2_part_18 rfl ?_
        refine z_icmp_lt (tgt := 24) (q := 22) C dX2_part_19 (by decide) rfl (fun c4 => ?_) (fun c4 => ?_)
        · have hF := (if_pos c4).symm.trans hF
          refine z_aload_n (q := 25) C dX2_part_24 0 rfl rfl rfl ?_
          refine z_getf (q := 28) C clX2 (zon C zo_6) kd_6 (k := 1) (by decide) q_160 rfl (zfv_r kd_6 rfl fr_6_1) dX2_part_25 rfl ?_
          refine z_iload_n (q := 29) C dX2_part_28 1 rfl rfl rfl ?_
          refine z_bipush (q := 31) C dX2_part_29 bp_48 rfl ?_
          refine z_imul (q := 32) C dX2_part_31 rfl ?_
          refine z_iload_n (q := 33) C dX2_part_32 2 rfl rfl rfl ?_
          refine z_iconst (q := 34) C dX2_part_33 rfl ?_
          refine z_imul (q := 35) C dX2_part_34 rfl ?_
          refine z_iadd (q := 36) C dX2_part_35 rfl ?_
          refine z_iload_n (q := 37) C dX2_part_36 3 rfl rfl rfl ?_
          refine z_iadd (q := 38) C dX2_part_37 rfl ?_
          refine z_callSN (q := 41) (av := [.ref (zα κ 27), .int (zi (((a1 * 48) + (a2 * 3)) + a3))]) (rest := []) (stk2 := [.int (zi (fX10_at 27 (((a1 * 48) + (a2 * 3)) + a3) h))]) C hR (M_fX10_at (zlv hd rfl) zo_27 kd_27 rfl) mY_X10_at q_581 (Nat.le_of_ble_eq_true rfl) dX2_part_38 rfl rfl rfl ?_
          subst hF
          exact z_iret C e1 e2 dX2_part_41
        · have hF := (if_neg c4).symm.trans hF
          refine z_iconst (q := 23) C dX2_part_22 rfl ?_
          subst hF
          exact z_iret C e1 e2 dX2_part_23
set_option maxRecDepth 20000 in
set_option maxHeartbeats 4000000 in
theorem M_fX2_part {l : Launch} {D : va_G} {cy : ClassId} {α : Nat → Nat} {n : Nat} {σ : zSg} {d : Nat} (hd : 3 ≤ d) {a1 : Int} {a2 : Int} {a3 : Int} {h : zH} {r : Int} (hF : fX2_part a1 a2 a3 h = r) : zMet l yX2_part cX2_part 4 (some .int) (zrm d) D cy α n σ [.ref (α 6), .int (zi a1), .int (zi a2), .int (zi a3)] h (some (.int (zi r))) h := by
  obtain ⟨d, rfl⟩ : ∃ e, d = e + 1 := ⟨d - 1, by omega⟩
  refine z_met (by decide +kernel) (Nat.le_of_ble_eq_true rfl) (fun κ k1 k2 k3 k4 k5 k6 k7 k8 k9 C => ?_)
  subst k1 k3 k4 k5 k6 k7
  exact J_fX2_part C k2 hd k8 k9 hF
set_option maxRecDepth 20000 in
set_option maxHeartbeats 4000000 in
theorem J_fX10_step {κ : zT} (C : zC κ RX10 cX10_step 4 (some .int)) {d : Nat} (hR : zR κ = zrm (d + 1)) (hd : 4 ≤ d + 1) {h : zH} {r : Int} (e1 : zrv κ = some (.int (zi r))) (e2 : zhf κ = h) {a1 : Int} {a2 : Int} {a3 : Int} (hF : fX10_step a1 a2 a3 h = r) : Z κ h 0 [(0, .ref (zα κ 0)), (1, .int (zi a1)), (2, .int (zi a2)), (3, .int (zi a3))] [] := by
  unfold fX10_step at hF
  refine z_aload_n (q := 1) C dX10_step_0 0 rfl rfl rfl ?_
  refine z_getf (q := 4) C clX10 (zon C zo_0) kd_0 (k := 5) (by decide) q_276 rfl (zfv_r kd_0 rfl fr_0_5) dX10_step_1 rfl ?_
  refine z_iload_n (q := 5) C dX10_step_4 1 rfl rfl rfl ?_
  refine z_iload_n (q := 6) C dX10_step_5 2 rfl rfl rfl ?_
  refine z_iload_n (q := 7) C dX10_step_6 3 rfl rfl rfl ?_
  refine z_callV (q := 10) (o := 6) (av := [.int (zi a1), .int (zi a2), .int (zi a3)]) (rest := []) (stk2 := [.int (zi (fX2_part a1 a2 a3 h))]) C hR clX2 (zon C zo_6) kd_6 (M_fX2_part (zlv hd rfl) rfl) mY_X2_part q_850 (Nat.le_of_ble_eq_true rfl) dX10_step_7 rfl rfl rfl ?_
  subst hF
  exact z_iret C e1 e2 dX10_step_10
set_option maxRecDepth 20000 in
set_option maxHeartbeats 4000000 in
theorem M_fX10_step {l : Launch} {D : va_G} {cy : ClassId} {α : Nat → Nat} {n : Nat} {σ : zSg} {d : Nat} (hd : 4 ≤ d) {a1 : Int} {a2 : Int} {a3 : Int} {h : zH} {r : Int} (hF : fX10_step a1 a2 a3 h = r) : zMet l yX10_step cX10_step 4 (some .int) (zrm d) D cy α n σ [.ref (α 0), .int (zi a1), .int (zi a2), .int (zi a3)] h (some (.int (zi r))) h := by
  obtain ⟨d, rfl⟩ : ∃ e, d = e + 1 := ⟨d - 1, by omega⟩
  refine z_met (by decide +kernel) (Nat.le_of_ble_eq_true rfl) (fun κ k1 k2 k3 k4 k5 k6 k7 k8 k9 C => ?_)
  subst k1 k3 k4 k5 k6 k7
  exact J_fX10_step C k2 hd k8 k9 hF
set_option maxRecDepth 20000 in
set_option maxHeartbeats 4000000 in
theorem J_fX8_take {κ : zT} (C : zC κ RX8 cX8_take 2 none) {d : Nat} (hR : zR κ = zrm (d + 1)) (hd : 2 ≤ d + 1) {o0 : Nat} (ho0 : o0 < zN) (hd0 : zkd o0 = 8) {o1 : Nat} (ho1 : o1 < zN) (hd1 : zkd o1 = 8) {r : zH} (e1 : zrv κ = none) (e2 : zhf κ = r) {h : zH} (hF : fX8_take o0 o1 h = some r) : Z κ h 0 [(0, .ref (zα κ o0)), (1, .ref (zα κ o1))] [] := by
  unfold fX8_take at hF
  refine z_aload_n (q := 1) C dX8_take_0 1 rfl rfl rfl ?_
  refine z_getf (q := 4) C clX8 (zon C ho1) hd1 (k := 0) (by decide) q_184 rfl (zfv_r hd1 rfl rfl) dX8_take_1 rfl ?_
  refine z_iconst (q := 5) C dX8_take_4 rfl ?_
  refine z_aload_n (q := 6) C dX8_take_5 0 rfl rfl rfl ?_
  refine z_getf (q := 9) C clX8 (zon C ho0) hd0 (k := 0) (by decide) q_184 rfl (zfv_r hd0 rfl rfl) dX8_take_6 rfl ?_
  refine z_iconst (q := 10) C dX8_take_9 rfl ?_
  refine z_bipush (q := 12) C dX8_take_10 bp_51 rfl ?_
  obtain ⟨g2, hF⟩ := zif_none hF
  obtain ⟨h1, eh1, hF⟩ := zlet_e hF
  refine z_copy (q := 15) (o := zfr o1 0) (o2 := zfr o0 0) C hR (zon C (frl_8_0 ho1 hd1)) (frk_8_0 ho1 hd1) (zon C (frl_8_0 ho0 hd0)) (frk_8_0 ho0 hd0) g2.1 g2.2.1 g2.2.2.1 (by rw [(frn_8_0 ho1 hd1)]; exact g2.2.2.2.1) (by rw [(frn_8_0 ho0 hd0)]; exact g2.2.2.2.2) q_872 (Nat.le_of_ble_eq_true rfl) dX8_take_12 rfl eh1 ?_
  refine z_aload_n (q := 16) C dX8_take_15 1 rfl rfl rfl ?_
  refine z_getf (q := 19) C clX8 (zon C ho1) hd1 (k := 1) (by decide) q_186 rfl (zfv_r hd1 rfl rfl) dX8_take_16 rfl ?_
  refine z_iconst (q := 20) C dX8_take_19 rfl ?_
  refine z_aload_n (q := 21) C dX8_take_20 0 rfl rfl rfl ?_
  refine z_getf (q := 24) C clX8 (zon C ho0) hd0 (k := 1) (by decide) q_186 rfl (zfv_r hd0 rfl rfl) dX8_take_21 rfl ?_
  refine z_iconst (q := 25) C dX8_take_24 rfl ?_
  refine z_aload_n (q := 26) C dX8_take_25 0 rfl rfl rfl ?_
  refine z_getf (q := 29) C clX8 (zon C ho0) hd0 (k := 1) (by decide) q_186 rfl (zfv_r hd0 rfl rfl) dX8_take_26 rfl ?_
  refine z_alen (q := 30) C (zon C (frl_8_1 ho0 hd0)) (frk_8_1 ho0 hd0) dX8_take_29 rfl ?_
  refine z_aload_n (q := 31) C dX8_take_30 1 rfl rfl rfl ?_
  refine z_getf (q := 34) C clX8 (zon C ho1) hd1 (k := 1) (by decide) q_186 rfl (zfv_r hd1 rfl rfl) dX8_take_31 rfl ?_
  refine z_alen (q := 35) C (zon C (frl_8_1 ho1 hd1)) (frk_8_1 ho1 hd1) dX8_take_34 rfl ?_
  obtain ⟨v3, ev3, hF⟩ := zlet_e hF
  refine z_callS (q := 38) (av := [.int (zi (zln (zfr o0 1) : Int)), .int (zi (zln (zfr o1 1) : Int))]) (rest := [.int (zi 0), .ref (zα κ (zfr o0 1)), .int (zi 0), .ref (zα κ (zfr o1 1))]) (stk2 := [.int (zi v3), .int (zi 0), .ref (zα κ (zfr o0 1)), .int (zi 0), .ref (zα κ (zfr o1 1))]) C hR (M_fJ9_min_7cf53 (zlv hd rfl) ev3.symm) mY_J9_min_7cf53 q_700 (Nat.le_of_ble_eq_true rfl) dX8_take_35 rfl rfl rfl ?_
  obtain ⟨g5, hF⟩ := zif_none hF
  obtain ⟨h4, eh4, hF⟩ := zlet_e hF
  refine z_copy (q := 41) (o := zfr o1 1) (o2 := zfr o0 1) C hR (zon C (frl_8_1 ho1 hd1)) (frk_8_1 ho1 hd1) (zon C (frl_8_1 ho0 hd0)) (frk_8_1 ho0 hd0) g5.1 g5.2.1 g5.2.2.1 g5.2.2.2.1 g5.2.2.2.2 q_872 (Nat.le_of_ble_eq_true rfl) dX8_take_38 rfl eh4 ?_
  have hF := Option.some.inj hF
  subst hF
  exact z_vret C e1 e2 dX8_take_41
set_option maxRecDepth 20000 in
set_option maxHeartbeats 4000000 in
theorem M_fX8_take {l : Launch} {D : va_G} {cy : ClassId} {α : Nat → Nat} {n : Nat} {σ : zSg} {d : Nat} (hd : 2 ≤ d) {o0 : Nat} (ho0 : o0 < zN) (hd0 : zkd o0 = 8) {o1 : Nat} (ho1 : o1 < zN) (hd1 : zkd o1 = 8) {h : zH} {g : zH} (hF : fX8_take o0 o1 h = some g) : zMet l yX8_take cX8_take 2 none (zrm d) D cy α n σ [.ref (α o0), .ref (α o1)] h (none) g := by
  obtain ⟨d, rfl⟩ : ∃ e, d = e + 1 := ⟨d - 1, by omega⟩
  refine z_met (by decide +kernel) (Nat.le_of_ble_eq_true rfl) (fun κ k1 k2 k3 k4 k5 k6 k7 k8 k9 C => ?_)
  subst k1 k3 k4 k5 k6 k7
  exact J_fX8_take C k2 hd ho0 hd0 ho1 hd1 k8 k9 hF
set_option maxRecDepth 20000 in
set_option maxHeartbeats 4000000 in
theorem J_fX10_canStep {κ : zT} (C : zC κ RX10 cX10_canStep 4 (some .boolean)) {d : Nat} (hR : zR κ = zrm (d + 1)) (hd : 5 ≤ d + 1) {o1 : Nat} (ho1 : o1 < zN) (hd1 : zkd o1 = 8) {h : zH} {r : Int} (e1 : zrv κ = some (.int (zi r))) (e2 : zhf κ = h) {a2 : Int} {a3 : Int} (hF : fX10_canStep o1 a2 a3 h = some r) : Z κ h 0 [(0, .ref (zα κ 0)), (1, .ref (zα κ o1)), (2, .int (zi a2)), (3, .int (zi a3))] [] := by
  unfold fX10_canStep at hF
  refine z_aload_n (q := 1) C dX10_canStep_0 1 rfl rfl rfl ?_
  refine z_aload_n (q := 2) C dX10_canStep_1 0 rfl rfl rfl ?_
  refine z_getf (q := 5) C clX10 (zon C zo_0) kd_0 (k := 1) (by decide) q_272 rfl (zfv_r kd_0 rfl fr_0_1) dX10_canStep_2 rfl ?_
  refine z_aload_n (q := 6) C dX10_canStep_5 0 rfl rfl rfl ?_
  refine z_getf (q := 9) C clX10 (zon C zo_0) kd_0 (k := 5) (by decide) q_276 rfl (zfv_r kd_0 rfl fr_0_5) dX10_canStep_6 rfl ?_
  refine z_iload_n (q := 10) C dX10_canStep_9 2 rfl rfl rfl ?_
  refine z_iload_n (q := 11) C dX10_canStep_10 3 rfl rfl rfl ?_
  refine z_iconst (q := 12) C dX10_canStep_11 rfl ?_
  refine z_callV (q := 15) (o := 6) (av := [.int (zi a2), .int (zi a3), .int (zi 0)]) (rest := [.ref (zα κ 2), .ref (zα κ o1)]) (stk2 := [.int (zi (fX2_part a2 a3 0 h)), .ref (zα κ 2), .ref (zα κ o1)]) C hR clX2 (zon C zo_6) kd_6 (M_fX2_part (zlv hd rfl) rfl) mY_X2_part q_850 (Nat.le_of_ble_eq_true rfl) dX10_canStep_12 rfl rfl rfl ?_
  refine z_aload_n (q := 16) C dX10_canStep_15 0 rfl rfl rfl ?_
  refine z_getf (q := 19) C clX10 (zon C zo_0) kd_0 (k := 5) (by decide) q_276 rfl (zfv_r kd_0 rfl fr_0_5) dX10_canStep_16 rfl ?_
  refine z_iload_n (q := 20) C dX10_canStep_19 2 rfl rfl rfl ?_
  refine z_iload_n (q := 21) C dX10_canStep_20 3 rfl rfl rfl ?_
  refine z_iconst (q := 22) C dX10_canStep_21 rfl ?_
  refine z_callV (q := 25) (o := 6) (av := [.int (zi a2), .int (zi a3), .int (zi 1)]) (rest := [.int (zi (fX2_part a2 a3 0 h)), .ref (zα κ 2), .ref (zα κ o1)]) (stk2 := [.int (zi (fX2_part a2 a3 1 h)), .int (zi (fX2_part a2 a3 0 h)), .ref (zα κ 2), .ref (zα κ o1)]) C hR clX2 (zon C zo_6) kd_6 (M_fX2_part (zlv hd rfl) rfl) mY_X2_part q_850 (Nat.le_of_ble_eq_true rfl) dX10_canStep_22 rfl rfl rfl ?_
  refine z_aload_n (q := 26) C dX10_canStep_25 0 rfl rfl rfl ?_
  refine z_getf (q := 29) C clX10 (zon C zo_0) kd_0 (k := 5) (by decide) q_276 rfl (zfv_r kd_0 rfl fr_0_5) dX10_canStep_26 rfl ?_
  refine z_iload_n (q := 30) C dX10_canStep_29 2 rfl rfl rfl ?_
  refine z_iload_n (q := 31) C dX10_canStep_30 3 rfl rfl rfl ?_
  refine z_iconst (q := 32) C dX10_canStep_31 rfl ?_
  refine z_callV (q := 35) (o := 6) (av := [.int (zi a2), .int (zi a3), .int (zi 2)]) (rest := [.int (zi (fX2_part a2 a3 1 h)), .int (zi (fX2_part a2 a3 0 h)), .ref (zα κ 2), .ref (zα κ o1)]) (stk2 := [.int (zi (fX2_part a2 a3 2 h)), .int (zi (fX2_part a2 a3 1 h)), .int (zi (fX2_part a2 a3 0 h)), .ref (zα κ 2), .ref (zα κ o1)]) C hR clX2 (zon C zo_6) kd_6 (M_fX2_part (zlv hd rfl) rfl) mY_X2_part q_850 (Nat.le_of_ble_eq_true rfl) dX10_canStep_32 rfl rfl rfl ?_
  obtain ⟨v1, ev1, hF⟩ := zlet_e hF
  refine z_callV (q := 38) (o := o1) (av := [.ref (zα κ 2), .int (zi (fX2_part a2 a3 0 h)), .int (zi (fX2_part a2 a3 1 h)), .int (zi (fX2_part a2 a3 2 h))]) (rest := []) (stk2 := [.int (zi v1)]) C hR clX8 (zon C ho1) hd1 (M_fX8_allows (zlv hd rfl) ho1 hd1 zo_2 kd_2 ev1.symm) mY_X8_allows q_672 (Nat.le_of_ble_eq_true rfl) dX10_canStep_35 rfl rfl rfl ?_
  obtain ⟨g2, hF⟩ := zif_none hF
  have hF := Option.some.inj hF
  subst hF
  exact z_zret C (zb01 g2) e1 e2 dX10_canStep_38
set_option maxRecDepth 20000 in
set_option maxHeartbeats 4000000 in
theorem M_fX10_canStep {l : Launch} {D : va_G} {cy : ClassId} {α : Nat → Nat} {n : Nat} {σ : zSg} {d : Nat} (hd : 5 ≤ d) {o1 : Nat} (ho1 : o1 < zN) (hd1 : zkd o1 = 8) {a2 : Int} {a3 : Int} {h : zH} {r : Int} (hF : fX10_canStep o1 a2 a3 h = some r) : zMet l yX10_canStep cX10_canStep 4 (some .boolean) (zrm d) D cy α n σ [.ref (α 0), .ref (α o1), .int (zi a2), .int (zi a3)] h (some (.int (zi r))) h := by
  obtain ⟨d, rfl⟩ : ∃ e, d = e + 1 := ⟨d - 1, by omega⟩
  refine z_met (by decide +kernel) (Nat.le_of_ble_eq_true rfl) (fun κ k1 k2 k3 k4 k5 k6 k7 k8 k9 C => ?_)
  subst k1 k3 k4 k5 k6 k7
  exact J_fX10_canStep C k2 hd ho1 hd1 k8 k9 hF
set_option maxRecDepth 20000 in
set_option maxHeartbeats 4000000 in
theorem J_fX10_takeStep {κ : zT} (C : zC κ RX10 cX10_takeStep 5 none) {d : Nat} (hR : zR κ = zrm (d + 1)) (hd : 7 ≤ d + 1) {N : Nat} {o1 : Nat} (ho1 : o1 < zN) (hd1 : zkd o1 = 8) {r : zH} (e1 : zrv κ = none) (e2 : zhf κ = r) {a2 : Int} {a3 : Int} {h : zH} (hF : fX10_takeStep N o1 a2 a3 h = some r) : Z κ h 0 [(0, .ref (zα κ 0)), (1, .ref (zα κ o1)), (2, .int (zi a2)), (3, .int (zi a3))] [] := by
  unfold fX10_takeStep at hF
  refine z_aload_n (q := 1) C dX10_takeStep_0 0 rfl rfl rfl ?_
  refine z_getf (q := 4) C clX10 (zon C zo_0) kd_0 (k := 5) (by decide) q_276 rfl (zfv_r kd_0 rfl fr_0_5) dX10_takeStep_1 rfl ?_
  refine z_iload_n (q := 5) C dX10_takeStep_4 2 rfl rfl rfl ?_
  refine z_iload_n (q := 6) C dX10_takeStep_5 3 rfl rfl rfl ?_
  refine z_iconst (q := 7) C dX10_takeStep_6 rfl ?_
  refine z_callV (q := 10) (o := 6) (av := [.int (zi a2), .int (zi a3), .int (zi 0)]) (rest := []) (stk2 := [.int (zi (fX2_part a2 a3 0 h))]) C hR clX2 (zon C zo_6) kd_6 (M_fX2_part (zlv hd rfl) rfl) mY_X2_part q_850 (Nat.le_of_ble_eq_true rfl) dX10_takeStep_7 rfl rfl rfl ?_
  obtain ⟨v1, ev1, hF⟩ := zlet_e hF
  refine z_istoreE (q := 12) C ev1 dX10_takeStep_10 (by decide) rfl rfl ?_
  refine z_iload (q := 14) C dX10_takeStep_12 0 rfl rfl ?_
  refine z_if_ne (tgt := 48) (q := 17) C dX10_takeStep_14 (by decide) rfl (fun c2 => ?_) (fun c2 => ?_)
  · have hF := (if_neg c2).symm.trans hF
    refine z_iload (q := 50) C dX10_takeStep_48 0 rfl rfl ?_
    refine z_iconst (q := 51) C dX10_takeStep_50 rfl ?_
    refine z_icmp_ne (tgt := 72) (q := 54) C dX10_takeStep_51 (by decide) rfl (fun c4 => ?_) (fun c4 => ?_)
    · have hF := (if_neg c4).symm.trans hF
      refine z_aload_n (q := 73) C dX10_takeStep_72 2 rfl rfl rfl ?_
      refine z_aload_n (q := 74) C dX10_takeStep_73 1 rfl rfl rfl ?_
      refine z_getf (q := 77) C clX10 (zon C zo_0) kd_0 (k := 1) (by decide) q_272 rfl (zfv_r kd_0 rfl fr_0_1) dX10_takeStep_74 rfl ?_
      refine z_aload_n (q := 78) C dX10_takeStep_77 1 rfl rfl rfl ?_
      refine z_getf (q := 81) C clX10 (zon C zo_0) kd_0 (k := 4) (by decide) q_275 rfl (zfv_r kd_0 rfl fr_0_4) dX10_takeStep_78 rfl ?_
      refine z_iconst (q := 82) C dX10_takeStep_81 rfl ?_
      obtain ⟨h7, eh7, hF⟩ := zb_e hF
      refine z_callV (q := 85) (o := o1) (av := [.ref (zα κ 2), .ref (zα κ 5), .int (zi 0)]) (rest := []) (stk2 := []) C hR clX8 (zon C ho1) hd1 (M_fX8_pass (zlv hd rfl) ho1 hd1 zo_2 kd_2 eh7) mY_X8_pass q_718 (Nat.le_of_ble_eq_true rfl) dX10_takeStep_82 rfl rfl rfl ?_
      have hF := Option.some.inj hF
      subst hF
      exact z_vret C e1 e2 dX10_takeStep_85
    · have hF := (if_pos c4).symm.trans hF
      refine z_aload_n (q := 55) C dX10_takeStep_54 2 rfl rfl rfl ?_
      refine z_aload_n (q := 56) C dX10_takeStep_55 1 rfl rfl rfl ?_
      refine z_getf (q := 59) C clX10 (zon C zo_0) kd_0 (k := 5) (by decide) q_276 rfl (zfv_r kd_0 rfl fr_0_5) dX10_takeStep_56 rfl ?_
      refine z_iload_n (q := 60) C dX10_takeStep_59 3 rfl rfl rfl ?_
      refine z_iload_n (q := 61) C dX10_takeStep_60 4 rfl rfl rfl ?_
      refine z_iconst (q := 62) C dX10_takeStep_61 rfl ?_
      refine z_callV (q := 65) (o := 6) (av := [.int (zi a2), .int (zi a3), .int (zi 1)]) (rest := [.ref (zα κ o1)]) (stk2 := [.int (zi (fX2_part a2 a3 1 h)), .ref (zα κ o1)]) C hR clX2 (zon C zo_6) kd_6 (M_fX2_part (zlv hd rfl) rfl) mY_X2_part q_850 (Nat.le_of_ble_eq_true rfl) dX10_takeStep_62 rfl rfl rfl ?_
      obtain ⟨v6, h5, ev6, hF⟩ := z2_e hF
      refine z_callV (q := 68) (o := o1) (av := [.int (zi (fX2_part a2 a3 1 h))]) (rest := []) (stk2 := [.int (zi v6)]) C hR clX8 (zon C ho1) hd1 (M_fX8_leave (zlv hd rfl) ho1 hd1 ev6) mY_X8_leave q_705 (Nat.le_of_ble_eq_true rfl) dX10_takeStep_65 rfl rfl rfl ?_
      refine z_pop (q := 69) C dX10_takeStep_68 rfl rfl ?_
      refine z_goto (q := 85) C dX10_takeStep_69 (by decide) ?_
      have hF := Option.some.inj hF
      subst hF
      exact z_vret C e1 e2 dX10_takeStep_85
  · have hF := (if_pos c2).symm.trans hF
    refine z_aload_n (q := 18) C dX10_takeStep_17 2 rfl rfl rfl ?_
    refine z_aload_n (q := 19) C dX10_takeStep_18 1 rfl rfl rfl ?_
    refine z_getf (q := 22) C clX10 (zon C zo_0) kd_0 (k := 1) (by decide) q_272 rfl (zfv_r kd_0 rfl fr_0_1) dX10_takeStep_19 rfl ?_
    refine z_aload_n (q := 23) C dX10_takeStep_22 1 rfl rfl rfl ?_
    refine z_getf (q := 26) C clX10 (zon C zo_0) kd_0 (k := 5) (by decide) q_276 rfl (zfv_r kd_0 rfl fr_0_5) dX10_takeStep_23 rfl ?_
    refine z_iload_n (q := 27) C dX10_takeStep_26 3 rfl rfl rfl ?_
    refine z_iload_n (q := 28) C dX10_takeStep_27 4 rfl rfl rfl ?_
    refine z_iconst (q := 29) C dX10_takeStep_28 rfl ?_
    refine z_callV (q := 32) (o := 6) (av := [.int (zi a2), .int (zi a3), .int (zi 1)]) (rest := [.ref (zα κ 2), .ref (zα κ o1)]) (stk2 := [.int (zi (fX2_part a2 a3 1 h)), .ref (zα κ 2), .ref (zα κ o1)]) C hR clX2 (zon C zo_6) kd_6 (M_fX2_part (zlv hd rfl) rfl) mY_X2_part q_850 (Nat.le_of_ble_eq_true rfl) dX10_takeStep_29 rfl rfl rfl ?_
    refine z_aload_n (q := 33) C dX10_takeStep_32 1 rfl rfl rfl ?_
    refine z_getf (q := 36) C clX10 (zon C zo_0) kd_0 (k := 5) (by decide) q_276 rfl (zfv_r kd_0 rfl fr_0_5) dX10_takeStep_33 rfl ?_
    refine z_iload_n (q := 37) C dX10_takeStep_36 3 rfl rfl rfl ?_
    refine z_iload_n (q := 38) C dX10_takeStep_37 4 rfl rfl rfl ?_
    refine z_iconst (q := 39) C dX10_takeStep_38 rfl ?_
    refine z_callV (q := 42) (o := 6) (av := [.int (zi a2), .int (zi a3), .int (zi 2)]) (rest := [.int (zi (fX2_part a2 a3 1 h)), .ref (zα κ 2), .ref (zα κ o1)]) (stk2 := [.int (zi (fX2_part a2 a3 2 h)), .int (zi (fX2_part a2 a3 1 h)), .ref (zα κ 2), .ref (zα κ o1)]) C hR clX2 (zon C zo_6) kd_6 (M_fX2_part (zlv hd rfl) rfl) mY_X2_part q_850 (Nat.le_of_ble_eq_true rfl) dX10_takeStep_39 rfl rfl rfl ?_
    obtain ⟨h3, eh3, hF⟩ := zlet_e hF
    refine z_callV (q := 45) (o := o1) (av := [.ref (zα κ 2), .int (zi (fX2_part a2 a3 1 h)), .int (zi (fX2_part a2 a3 2 h))]) (rest := []) (stk2 := []) C hR clX8 (zon C ho1) hd1 (M_fX8_enqueue (zlv hd rfl) ho1 hd1 zo_2 kd_2 eh3.symm) mY_X8_enqueue q_695 (Nat.le_of_ble_eq_true rfl) dX10_takeStep_42 rfl rfl rfl ?_
    refine z_goto (q := 85) C dX10_takeStep_45 (by decide) ?_
    have hF := Option.some.inj hF
    subst hF
    exact z_vret C e1 e2 dX10_takeStep_85
set_option maxRecDepth 20000 in
set_option maxHeartbeats 4000000 in
theorem M_fX10_takeStep {l : Launch} {D : va_G} {cy : ClassId} {α : Nat → Nat} {n : Nat} {σ : zSg} {d : Nat} (hd : 7 ≤ d) {N : Nat} {o1 : Nat} (ho1 : o1 < zN) (hd1 : zkd o1 = 8) {a2 : Int} {a3 : Int} {h : zH} {g : zH} (hF : fX10_takeStep N o1 a2 a3 h = some g) : zMet l yX10_takeStep cX10_takeStep 5 none (zrm d) D cy α n σ [.ref (α 0), .ref (α o1), .int (zi a2), .int (zi a3)] h (none) g := by
  obtain ⟨d, rfl⟩ : ∃ e, d = e + 1 := ⟨d - 1, by omega⟩
  refine z_met (by decide +kernel) (Nat.le_of_ble_eq_true rfl) (fun κ k1 k2 k3 k4 k5 k6 k7 k8 k9 C => ?_)
  subst k1 k3 k4 k5 k6 k7
  exact J_fX10_takeStep C k2 hd ho1 hd1 k8 k9 hF
set_option maxRecDepth 20000 in
set_option maxHeartbeats 4000000 in
theorem J_fX10_run_c34b {κ : zT} (C : zC κ RX10 cX10_run 3 (some .int)) {d : Nat} (hR : zR κ = zrm (d + 1)) (hd : 8 ≤ d + 1) {N : Nat} {r : Int × zH} (e1 : zrv κ = some (.int (zi r.1))) (e2 : zhf κ = r.2) {K34 : Int → Int → zH → Option (Int × zH)} (hK34 : ∀ (l1 : Int) (l2 : Int) (h : zH), K34 l1 l2 h = some r → Z κ h 34 [(0, .ref (zα κ 0)), (1, .int (zi l1)), (2, .int (zi l2))] []) (l1 : Int) (l2 : Int) (h : zH) (hF : fX10_run_c34b N K34 l1 l2 h = some r) : Z κ h 34 [(0, .ref (zα κ 0)), (1, .int (zi l1)), (2, .int (zi l2))] [] := by
  unfold fX10_run_c34b at hF
  refine z_iload_n (q := 35) C dX10_run_34 2 rfl rfl rfl ?_
  refine z_aload_n (q := 36) C dX10_run_35 0 rfl rfl rfl ?_
  refine z_getf (q := 39) C clX10 (zon C zo_0) kd_0 (k := 5) (by decide) q_276 rfl (zfv_r kd_0 rfl fr_0_5) dX10_run_36 rfl ?_
  refine z_iload_n (q := 40) C dX10_run_39 1 rfl rfl rfl ?_
  refine z_callV (q := 43) (o := 6) (av := [.int (zi l1)]) (rest := [.int (zi l2)]) (stk2 := [.int (zi (fX2_length l1 h)), .int (zi l2)]) C hR clX2 (zon C zo_6) kd_6 (M_fX2_length (zlv hd rfl) rfl) mY_X2_length q_873 (Nat.le_of_ble_eq_true rfl) dX10_run_40 rfl rfl rfl ?_
  refine z_icmp_ge (tgt := 77) (q := 46) C dX10_run_43 (by decide) rfl (fun c1 => ?_) (fun c1 => ?_)
  · have hF := (if_pos c1).symm.trans hF
    refine z_iconst (q := 78) C dX10_run_77 rfl ?_
    have hF := Option.some.inj hF
    subst hF
    exact z_iret C e1 e2 dX10_run_78
  · have hF := (if_neg c1).symm.trans hF
    refine z_aload_n (q := 47) C dX10_run_46 0 rfl rfl rfl ?_
    refine z_aload_n (q := 48) C dX10_run_47 0 rfl rfl rfl ?_
    refine z_getf (q := 51) C clX10 (zon C zo_0) kd_0 (k := 7) (by decide) q_278 rfl (zfv_r kd_0 rfl fr_0_7) dX10_run_48 rfl ?_
    refine z_iload_n (q := 52) C dX10_run_51 1 rfl rfl rfl ?_
    refine z_iload_n (q := 53) C dX10_run_52 2 rfl rfl rfl ?_
    obtain ⟨v2, ev2, hF⟩ := zb_e hF
    refine z_callV (q := 56) (o := 0) (av := [.ref (zα κ 8), .int (zi l1), .int (zi l2)]) (rest := []) (stk2 := [.int (zi v2)]) C hR clX10 (zon C zo_0) kd_0 (M_fX10_canStep (zlv hd rfl) zo_8 kd_8 ev2) mY_X10_canStep q_874 (Nat.le_of_ble_eq_true rfl) dX10_run_53 rfl rfl rfl ?_
    refine z_if_ne (tgt := 61) (q := 59) C dX10_run_56 (by decide) rfl (fun c3 => ?_) (fun c3 => ?_)
    · have hF := (if_neg c3).symm.trans hF
      refine z_aload_n (q := 62) C dX10_run_61 0 rfl rfl rfl ?_
      refine z_aload_n (q := 63) C dX10_run_62 0 rfl rfl rfl ?_
      refine z_getf (q := 66) C clX10 (zon C zo_0) kd_0 (k := 7) (by decide) q_278 rfl (zfv_r kd_0 rfl fr_0_7) dX10_run_63 rfl ?_
      refine z_iload_n (q := 67) C dX10_run_66 1 rfl rfl rfl ?_
      refine z_iload_n (q := 68) C dX10_run_67 2 rfl rfl rfl ?_
      obtain ⟨h4, eh4, hF⟩ := zb_e hF
      refine z_callV (q := 71) (o := 0) (av := [.ref (zα κ 8), .int (zi l1), .int (zi l2)]) (rest := []) (stk2 := []) C hR clX10 (zon C zo_0) kd_0 (M_fX10_takeStep (zlv hd rfl) zo_8 kd_8 eh4) mY_X10_takeStep q_878 (Nat.le_of_ble_eq_true rfl) dX10_run_68 rfl rfl rfl ?_
      refine z_iinc (q := 74) (x := l2) C dX10_run_71 (j := 2) rfl (by decide) rfl rfl ?_
      refine z_goto (q := 34) C dX10_run_74 (by decide) ?_
      exact z_sub (hK34 _ _ _ hF) [1, 2, 0] rfl
    · have hF := (if_pos c3).symm.trans hF
      refine z_iload_n (q := 60) C dX10_run_59 2 rfl rfl rfl ?_
      have hF := Option.some.inj hF
      subst hF
      exact z_iret C e1 e2 dX10_run_60
set_option maxRecDepth 20000 in
set_option maxHeartbeats 4000000 in
theorem J_fX10_run_c34 {κ : zT} (C : zC κ RX10 cX10_run 3 (some .int)) {d : Nat} (hR : zR κ = zrm (d + 1)) (hd : 8 ≤ d + 1) {N : Nat} {r : Int × zH} (e1 : zrv κ = some (.int (zi r.1))) (e2 : zhf κ = r.2) : ∀ (k : Nat) (l1 : Int) (l2 : Int) (h : zH), fX10_run_c34 N k l1 l2 h = some r → Z κ h 34 [(0, .ref (zα κ 0)), (1, .int (zi l1)), (2, .int (zi l2))] [] := by
  intro k
  induction k with
  | zero => intro l1 l2 h hF; cases hF
  | succ k ih => intro l1 l2 h hF; exact J_fX10_run_c34b C hR hd e1 e2 ih l1 l2 h hF
set_option maxRecDepth 20000 in
set_option maxHeartbeats 4000000 in
theorem J_fX10_run {κ : zT} (C : zC κ RX10 cX10_run 3 (some .int)) {d : Nat} (hR : zR κ = zrm (d + 1)) (hd : 8 ≤ d + 1) {N : Nat} {r : Int × zH} (e1 : zrv κ = some (.int (zi r.1))) (e2 : zhf κ = r.2) {a1 : Int} {h : zH} (hF : fX10_run N a1 h = some r) : Z κ h 0 [(0, .ref (zα κ 0)), (1, .int (zi a1))] [] := by
  unfold fX10_run at hF
  refine z_aload_n (q := 1) C dX10_run_0 0 rfl rfl rfl ?_
  refine z_callV (q := 4) (o := 0) (av := []) (rest := []) (stk2 := [.int (zi (fX10_hasHill h))]) C hR clX10 (zon C zo_0) kd_0 (M_fX10_hasHill (zlv hd rfl) rfl) mY_X10_hasHill q_625 (Nat.le_of_ble_eq_true rfl) dX10_run_1 rfl rfl rfl ?_
  refine z_if_eq (tgt := 18) (q := 7) C dX10_run_4 (by decide) rfl (fun c1 => ?_) (fun c1 => ?_)
  · have hF := (if_pos c1).symm.trans hF
    refine z_ldc (q := 20) C kc_RX10_221 dX10_run_18 rfl ?_
    have hF := Option.some.inj hF
    subst hF
    exact z_iret C e1 e2 dX10_run_20
  · have hF := (if_neg c1).symm.trans hF
    refine z_aload_n (q := 8) C dX10_run_7 0 rfl rfl rfl ?_
    refine z_getf (q := 11) C clX10 (zon C zo_0) kd_0 (k := 5) (by decide) q_276 rfl (zfv_r kd_0 rfl fr_0_5) dX10_run_8 rfl ?_
    refine z_iload_n (q := 12) C dX10_run_11 1 rfl rfl rfl ?_
    refine z_callV (q := 15) (o := 6) (av := [.int (zi a1)]) (rest := []) (stk2 := [.int (zi (fX2_has a1 h))]) C hR clX2 (zon C zo_6) kd_6 (M_fX2_has (zlv hd rfl) rfl) mY_X2_has q_866 (Nat.le_of_ble_eq_true rfl) dX10_run_12 rfl rfl rfl ?_
    refine z_if_ne (tgt := 21) (q := 18) C dX10_run_15 (by decide) rfl (fun c2 => ?_) (fun c2 => ?_)
    · have hF := (if_neg c2).symm.trans hF
      refine z_aload_n (q := 22) C dX10_run_21 0 rfl rfl rfl ?_
      refine z_getf (q := 25) C clX10 (zon C zo_0) kd_0 (k := 7) (by decide) q_278 rfl (zfv_r kd_0 rfl fr_0_7) dX10_run_22 rfl ?_
      refine z_aload_n (q := 26) C dX10_run_25 0 rfl rfl rfl ?_
      refine z_getf (q := 29) C clX10 (zon C zo_0) kd_0 (k := 6) (by decide) q_277 rfl (zfv_r kd_0 rfl fr_0_6) dX10_run_26 rfl ?_
      obtain ⟨h3, eh3, hF⟩ := zb_e hF
      refine z_callV (q := 32) (o := 8) (av := [.ref (zα κ 7)]) (rest := []) (stk2 := []) C hR clX8 (zon C zo_8) kd_8 (M_fX8_take (zlv hd rfl) zo_8 kd_8 zo_7 kd_7 eh3) mY_X8_take q_868 (Nat.le_of_ble_eq_true rfl) dX10_run_29 rfl rfl rfl ?_
      refine z_iconst (q := 33) C dX10_run_32 rfl ?_
      refine z_istore_n (q := 34) C dX10_run_33 (by decide) rfl rfl rfl ?_
      exact z_sub (J_fX10_run_c34 C hR hd e1 e2 N _ _ _ hF) [1, 2, 0] rfl
    · have hF := (if_pos c2).symm.trans hF
      refine z_ldc (q := 20) C kc_RX10_221 dX10_run_18 rfl ?_
      have hF := Option.some.inj hF
      subst hF
      exact z_iret C e1 e2 dX10_run_20
set_option maxRecDepth 20000 in
set_option maxHeartbeats 4000000 in
theorem M_fX10_run {l : Launch} {D : va_G} {cy : ClassId} {α : Nat → Nat} {n : Nat} {σ : zSg} {d : Nat} (hd : 8 ≤ d) {N : Nat} {a1 : Int} {h : zH} {r : Int} {g : zH} (hF : fX10_run N a1 h = some (r, g)) : zMet l yX10_run cX10_run 3 (some .int) (zrm d) D cy α n σ [.ref (α 0), .int (zi a1)] h (some (.int (zi r))) g := by
  obtain ⟨d, rfl⟩ : ∃ e, d = e + 1 := ⟨d - 1, by omega⟩
  refine z_met (by decide +kernel) (Nat.le_of_ble_eq_true rfl) (fun κ k1 k2 k3 k4 k5 k6 k7 k8 k9 C => ?_)
  subst k1 k3 k4 k5 k6 k7
  exact J_fX10_run C k2 hd k8 k9 hF
set_option maxRecDepth 20000 in
set_option maxHeartbeats 4000000 in
theorem J_fX10_perform_c22b {κ : zT} (C : zC κ RX10 cX10_perform 3 (some .int)) {d : Nat} (hR : zR κ = zrm (d + 1)) (hd : 8 ≤ d + 1) {N : Nat} {r : Int × zH} (e1 : zrv κ = some (.int (zi r.1))) (e2 : zhf κ = r.2) {K22 : Int → Int → zH → Option (Int × zH)} (hK22 : ∀ (l1 : Int) (l2 : Int) (h : zH), K22 l1 l2 h = some r → Z κ h 22 [(0, .ref (zα κ 0)), (1, .int (zi l1)), (2, .int (zi l2))] []) (l1 : Int) (l2 : Int) (h : zH) (hF : fX10_perform_c22b N K22 l1 l2 h = some r) : Z κ h 22 [(0, .ref (zα κ 0)), (1, .int (zi l1)), (2, .int (zi l2))] [] := by
  unfold fX10_perform_c22b at hF
  refine z_iload_n (q := 23) C dX10_perform_22 2 rfl rfl rfl ?_
  refine z_aload_n (q := 24) C dX10_perform_23 0 rfl rfl rfl ?_
  refine z_getf (q := 27) C clX10 (zon C zo_0) kd_0 (k := 5) (by decide) q_276 rfl (zfv_r kd_0 rfl fr_0_5) dX10_perform_24 rfl ?_
  refine z_iload_n (q := 28) C dX10_perform_27 1 rfl rfl rfl ?_
  refine z_callV (q := 31) (o := 6) (av := [.int (zi l1)]) (rest := [.int (zi l2)]) (stk2 := [.int (zi (fX2_length l1 h)), .int (zi l2)]) C hR clX2 (zon C zo_6) kd_6 (M_fX2_length (zlv hd rfl) rfl) mY_X2_length q_873 (Nat.le_of_ble_eq_true rfl) dX10_perform_28 rfl rfl rfl ?_
  refine z_icmp_ge (tgt := 76) (q := 34) C dX10_perform_31 (by decide) rfl (fun c1 => ?_) (fun c1 => ?_)
  · have hF := (if_pos c1).symm.trans hF
    refine z_aload_n (q := 77) C dX10_perform_76 0 rfl rfl rfl ?_
    refine z_getf (q := 80) C clX10 (zon C zo_0) kd_0 (k := 5) (by decide) q_276 rfl (zfv_r kd_0 rfl fr_0_5) dX10_perform_77 rfl ?_
    refine z_iload_n (q := 81) C dX10_perform_80 1 rfl rfl rfl ?_
    refine z_callV (q := 84) (o := 6) (av := [.int (zi l1)]) (rest := []) (stk2 := [.int (zi (fX2_length l1 h))]) C hR clX2 (zon C zo_6) kd_6 (M_fX2_length (zlv hd rfl) rfl) mY_X2_length q_873 (Nat.le_of_ble_eq_true rfl) dX10_perform_81 rfl rfl rfl ?_
    have hF := Option.some.inj hF
    subst hF
    exact z_iret C e1 e2 dX10_perform_84
  · have hF := (if_neg c1).symm.trans hF
    refine z_aload_n (q := 35) C dX10_perform_34 0 rfl rfl rfl ?_
    refine z_aload_n (q := 36) C dX10_perform_35 0 rfl rfl rfl ?_
    refine z_getf (q := 39) C clX10 (zon C zo_0) kd_0 (k := 6) (by decide) q_277 rfl (zfv_r kd_0 rfl fr_0_6) dX10_perform_36 rfl ?_
    refine z_iload_n (q := 40) C dX10_perform_39 1 rfl rfl rfl ?_
    refine z_iload_n (q := 41) C dX10_perform_40 2 rfl rfl rfl ?_
    obtain ⟨v2, ev2, hF⟩ := zb_e hF
    refine z_callV (q := 44) (o := 0) (av := [.ref (zα κ 7), .int (zi l1), .int (zi l2)]) (rest := []) (stk2 := [.int (zi v2)]) C hR clX10 (zon C zo_0) kd_0 (M_fX10_canStep (zlv hd rfl) zo_7 kd_7 ev2) mY_X10_canStep q_874 (Nat.le_of_ble_eq_true rfl) dX10_perform_41 rfl rfl rfl ?_
    refine z_if_ne (tgt := 49) (q := 47) C dX10_perform_44 (by decide) rfl (fun c3 => ?_) (fun c3 => ?_)
    · have hF := (if_neg c3).symm.trans hF
      refine z_aload_n (q := 50) C dX10_perform_49 0 rfl rfl rfl ?_
      refine z_getf (q := 53) C clX10 (zon C zo_0) kd_0 (k := 9) (by decide) q_280 rfl (zfv_r kd_0 rfl fr_0_9) dX10_perform_50 rfl ?_
      refine z_aload_n (q := 54) C dX10_perform_53 0 rfl rfl rfl ?_
      refine z_getf (q := 57) C clX10 (zon C zo_0) kd_0 (k := 6) (by decide) q_277 rfl (zfv_r kd_0 rfl fr_0_6) dX10_perform_54 rfl ?_
      obtain ⟨h4, eh4, hF⟩ := zb_e hF
      refine z_callV (q := 60) (o := 10) (av := [.ref (zα κ 7)]) (rest := []) (stk2 := []) C hR clX0 (zon C zo_10) kd_10 (M_fX0_keep (zlv hd rfl) zo_7 kd_7 eh4) mY_X0_keep q_686 (Nat.le_of_ble_eq_true rfl) dX10_perform_57 rfl rfl rfl ?_
      refine z_aload_n (q := 61) C dX10_perform_60 0 rfl rfl rfl ?_
      refine z_aload_n (q := 62) C dX10_perform_61 0 rfl rfl rfl ?_
      refine z_getf (q := 65) C clX10 (zon C zo_0) kd_0 (k := 6) (by decide) q_277 rfl (zfv_r kd_0 rfl fr_0_6) dX10_perform_62 rfl ?_
      refine z_iload_n (q := 66) C dX10_perform_65 1 rfl rfl rfl ?_
      refine z_iload_n (q := 67) C dX10_perform_66 2 rfl rfl rfl ?_
      obtain ⟨h5, eh5, hF⟩ := zb_e hF
      refine z_callV (q := 70) (o := 0) (av := [.ref (zα κ 7), .int (zi l1), .int (zi l2)]) (rest := []) (stk2 := []) C hR clX10 (zon C zo_0) kd_0 (M_fX10_takeStep (zlv hd rfl) zo_7 kd_7 eh5) mY_X10_takeStep q_878 (Nat.le_of_ble_eq_true rfl) dX10_perform_67 rfl rfl rfl ?_
      refine z_iinc (q := 73) (x := l2) C dX10_perform_70 (j := 2) rfl (by decide) rfl rfl ?_
      refine z_goto (q := 22) C dX10_perform_73 (by decide) ?_
      exact z_sub (hK22 _ _ _ hF) [1, 2, 0] rfl
    · have hF := (if_pos c3).symm.trans hF
      refine z_iload_n (q := 48) C dX10_perform_47 2 rfl rfl rfl ?_
      have hF := Option.some.inj hF
      subst hF
      exact z_iret C e1 e2 dX10_perform_48
set_option maxRecDepth 20000 in
set_option maxHeartbeats 4000000 in
theorem J_fX10_perform_c22 {κ : zT} (C : zC κ RX10 cX10_perform 3 (some .int)) {d : Nat} (hR : zR κ = zrm (d + 1)) (hd : 8 ≤ d + 1) {N : Nat} {r : Int × zH} (e1 : zrv κ = some (.int (zi r.1))) (e2 : zhf κ = r.2) : ∀ (k : Nat) (l1 : Int) (l2 : Int) (h : zH), fX10_perform_c22 N k l1 l2 h = some r → Z κ h 22 [(0, .ref (zα κ 0)), (1, .int (zi l1)), (2, .int (zi l2))] [] := by
  intro k
  induction k with
  | zero => intro l1 l2 h hF; cases hF
  | succ k ih => intro l1 l2 h hF; exact J_fX10_perform_c22b C hR hd e1 e2 ih l1 l2 h hF
set_option maxRecDepth 20000 in
set_option maxHeartbeats 4000000 in
theorem J_fX10_perform {κ : zT} (C : zC κ RX10 cX10_perform 3 (some .int)) {d : Nat} (hR : zR κ = zrm (d + 1)) (hd : 8 ≤ d + 1) {N : Nat} {r : Int × zH} (e1 : zrv κ = some (.int (zi r.1))) (e2 : zhf κ = r.2) {a1 : Int} {h : zH} (hF : fX10_perform N a1 h = some r) : Z κ h 0 [(0, .ref (zα κ 0)), (1, .int (zi a1))] [] := by
  unfold fX10_perform at hF
  refine z_aload_n (q := 1) C dX10_perform_0 0 rfl rfl rfl ?_
  refine z_callV (q := 4) (o := 0) (av := []) (rest := []) (stk2 := [.int (zi (fX10_hasHill h))]) C hR clX10 (zon C zo_0) kd_0 (M_fX10_hasHill (zlv hd rfl) rfl) mY_X10_hasHill q_625 (Nat.le_of_ble_eq_true rfl) dX10_perform_1 rfl rfl rfl ?_
  refine z_if_eq (tgt := 18) (q := 7) C dX10_perform_4 (by decide) rfl (fun c1 => ?_) (fun c1 => ?_)
  · have hF := (if_pos c1).symm.trans hF
    refine z_iconst (q := 19) C dX10_perform_18 rfl ?_
    have hF := Option.some.inj hF
    subst hF
    exact z_iret C e1 e2 dX10_perform_19
  · have hF := (if_neg c1).symm.trans hF
    refine z_aload_n (q := 8) C dX10_perform_7 0 rfl rfl rfl ?_
    refine z_getf (q := 11) C clX10 (zon C zo_0) kd_0 (k := 5) (by decide) q_276 rfl (zfv_r kd_0 rfl fr_0_5) dX10_perform_8 rfl ?_
    refine z_iload_n (q := 12) C dX10_perform_11 1 rfl rfl rfl ?_
    refine z_callV (q := 15) (o := 6) (av := [.int (zi a1)]) (rest := []) (stk2 := [.int (zi (fX2_has a1 h))]) C hR clX2 (zon C zo_6) kd_6 (M_fX2_has (zlv hd rfl) rfl) mY_X2_has q_866 (Nat.le_of_ble_eq_true rfl) dX10_perform_12 rfl rfl rfl ?_
    refine z_if_ne (tgt := 20) (q := 18) C dX10_perform_15 (by decide) rfl (fun c2 => ?_) (fun c2 => ?_)
    · have hF := (if_neg c2).symm.trans hF
      refine z_iconst (q := 21) C dX10_perform_20 rfl ?_
      refine z_istore_n (q := 22) C dX10_perform_21 (by decide) rfl rfl rfl ?_
      exact z_sub (J_fX10_perform_c22 C hR hd e1 e2 N _ _ _ hF) [1, 2, 0] rfl
    · have hF := (if_pos c2).symm.trans hF
      refine z_iconst (q := 19) C dX10_perform_18 rfl ?_
      have hF := Option.some.inj hF
      subst hF
      exact z_iret C e1 e2 dX10_perform_19
set_option maxRecDepth 20000 in
set_option maxHeartbeats 4000000 in
theorem M_fX10_perform {l : Launch} {D : va_G} {cy : ClassId} {α : Nat → Nat} {n : Nat} {σ : zSg} {d : Nat} (hd : 8 ≤ d) {N : Nat} {a1 : Int} {h : zH} {r : Int} {g : zH} (hF : fX10_perform N a1 h = some (r, g)) : zMet l yX10_perform cX10_perform 3 (some .int) (zrm d) D cy α n σ [.ref (α 0), .int (zi a1)] h (some (.int (zi r))) g := by
  obtain ⟨d, rfl⟩ : ∃ e, d = e + 1 := ⟨d - 1, by omega⟩
  refine z_met (by decide +kernel) (Nat.le_of_ble_eq_true rfl) (fun κ k1 k2 k3 k4 k5 k6 k7 k8 k9 C => ?_)
  subst k1 k3 k4 k5 k6 k7
  exact J_fX10_perform C k2 hd k8 k9 hF
set_option maxRecDepth 20000 in
set_option maxHeartbeats 4000000 in
theorem J_fX10_ahead_c48b {κ : zT} (C : zC κ RX10 cX10_ahead 5 (some .int)) {d : Nat} (hR : zR κ = zrm (d + 1)) (hd : 7 ≤ d + 1) {N : Nat} {r : Int × zH} (e1 : zrv κ = some (.int (zi r.1))) (e2 : zhf κ = r.2) {K48 : Int → Int → Int → Int → zH → Option (Int × zH)} (hK48 : ∀ (l1 : Int) (l2 : Int) (l3 : Int) (l4 : Int) (h : zH), K48 l1 l2 l3 l4 h = some r → Z κ h 48 [(0, .ref (zα κ 0)), (1, .int (zi l1)), (2, .int (zi l2)), (3, .int (zi l3)), (4, .int (zi l4))] []) (l1 : Int) (l2 : Int) (l3 : Int) (l4 : Int) (h : zH) (hF : fX10_ahead_c48b N K48 l1 l2 l3 l4 h = some r) : Z κ h 48 [(0, .ref (zα κ 0)), (1, .int (zi l1)), (2, .int (zi l2)), (3, .int (zi l3)), (4, .int (zi l4))] [] := by
  unfold fX10_ahead_c48b at hF
  refine z_iload (q := 50) C dX10_ahead_48 4 rfl rfl ?_
  refine z_iload_n (q := 51) C dX10_ahead_50 2 rfl rfl rfl ?_
  refine z_icmp_ge (tgt := 76) (q := 54) C dX10_ahead_51 (by decide) rfl (fun c1 => ?_) (fun c1 => ?_)
  · have hF := (if_pos c1).symm.trans hF
    refine z_aload_n (q := 77) C dX10_ahead_76 0 rfl rfl rfl ?_
    refine z_getf (q := 80) C clX10 (zon C zo_0) kd_0 (k := 7) (by decide) q_278 rfl (zfv_r kd_0 rfl fr_0_7) dX10_ahead_77 rfl ?_
    refine z_iload_n (q := 81) C dX10_ahead_80 3 rfl rfl rfl ?_
    refine z_if_ne (tgt := 88) (q := 84) C dX10_ahead_81 (by decide) rfl (fun c2 => ?_) (fun c2 => ?_)
    · have hF := (if_neg c2).symm.trans hF
      refine z_iconst (q := 89) C dX10_ahead_88 rfl ?_
      refine z_iload_n (q := 90) C dX10_ahead_89 1 rfl rfl rfl ?_
      refine z_callV (q := 93) (o := 8) (av := [.int (zi 3), .int (zi l1)]) (rest := []) (stk2 := [.int (zi (fX8_of 8 3 l1 h))]) C hR clX8 (zon C zo_8) kd_8 (M_fX8_of (zlv hd rfl) zo_8 kd_8 rfl) mY_X8_of q_786 (Nat.le_of_ble_eq_true rfl) dX10_ahead_90 rfl rfl rfl ?_
      have hF := Option.some.inj hF
      subst hF
      exact z_iret C e1 e2 dX10_ahead_93
    · have hF := (if_pos c2).symm.trans hF
      refine z_iconst (q := 85) C dX10_ahead_84 rfl ?_
      refine z_goto (q := 89) C dX10_ahead_85 (by decide) ?_
      refine z_iload_n (q := 90) C dX10_ahead_89 1 rfl rfl rfl ?_
      refine z_callV (q := 93) (o := 8) (av := [.int (zi 0), .int (zi l1)]) (rest := []) (stk2 := [.int (zi (fX8_of 8 0 l1 h))]) C hR clX8 (zon C zo_8) kd_8 (M_fX8_of (zlv hd rfl) zo_8 kd_8 rfl) mY_X8_of q_786 (Nat.le_of_ble_eq_true rfl) dX10_ahead_90 rfl rfl rfl ?_
      have hF := Option.some.inj hF
      subst hF
      exact z_iret C e1 e2 dX10_ahead_93
  · have hF := (if_neg c1).symm.trans hF
    refine z_aload_n (q := 55) C dX10_ahead_54 0 rfl rfl rfl ?_
    refine z_getf (q := 58) C clX10 (zon C zo_0) kd_0 (k := 7) (by decide) q_278 rfl (zfv_r kd_0 rfl fr_0_7) dX10_ahead_55 rfl ?_
    refine z_aload_n (q := 59) C dX10_ahead_58 0 rfl rfl rfl ?_
    refine z_getf (q := 62) C clX10 (zon C zo_0) kd_0 (k := 1) (by decide) q_272 rfl (zfv_r kd_0 rfl fr_0_1) dX10_ahead_59 rfl ?_
    refine z_aload_n (q := 63) C dX10_ahead_62 0 rfl rfl rfl ?_
    refine z_getf (q := 66) C clX10 (zon C zo_0) kd_0 (k := 4) (by decide) q_275 rfl (zfv_r kd_0 rfl fr_0_4) dX10_ahead_63 rfl ?_
    refine z_iconst (q := 67) C dX10_ahead_66 rfl ?_
    obtain ⟨h3, eh3, hF⟩ := zb_e hF
    refine z_callV (q := 70) (o := 8) (av := [.ref (zα κ 2), .ref (zα κ 5), .int (zi 0)]) (rest := []) (stk2 := []) C hR clX8 (zon C zo_8) kd_8 (M_fX8_pass (zlv hd rfl) zo_8 kd_8 zo_2 kd_2 eh3) mY_X8_pass q_718 (Nat.le_of_ble_eq_true rfl) dX10_ahead_67 rfl rfl rfl ?_
    refine z_iinc (q := 73) (x := l4) C dX10_ahead_70 (j := 4) rfl (by decide) rfl rfl ?_
    refine z_goto (q := 48) C dX10_ahead_73 (by decide) ?_
    exact z_sub (hK48 _ _ _ _ _ hF) [1, 2, 3, 4, 0] rfl
set_option maxRecDepth 20000 in
set_option maxHeartbeats 4000000 in
theorem J_fX10_ahead_c48 {κ : zT} (C : zC κ RX10 cX10_ahead 5 (some .int)) {d : Nat} (hR : zR κ = zrm (d + 1)) (hd : 7 ≤ d + 1) {N : Nat} {r : Int × zH} (e1 : zrv κ = some (.int (zi r.1))) (e2 : zhf κ = r.2) : ∀ (k : Nat) (l1 : Int) (l2 : Int) (l3 : Int) (l4 : Int) (h : zH), fX10_ahead_c48 N k l1 l2 l3 l4 h = some r → Z κ h 48 [(0, .ref (zα κ 0)), (1, .int (zi l1)), (2, .int (zi l2)), (3, .int (zi l3)), (4, .int (zi l4))] [] := by
  intro k
  induction k with
  | zero => intro l1 l2 l3 l4 h hF; cases hF
  | succ k ih => intro l1 l2 l3 l4 h hF; exact J_fX10_ahead_c48b C hR hd e1 e2 ih l1 l2 l3 l4 h hF
set_option maxRecDepth 20000 in
set_option maxHeartbeats 4000000 in
theorem J_fX10_ahead {κ : zT} (C : zC κ RX10 cX10_ahead 5 (some .int)) {d : Nat} (hR : zR κ = zrm (d + 1)) (hd : 7 ≤ d + 1) {N : Nat} {r : Int × zH} (e1 : zrv κ = some (.int (zi r.1))) (e2 : zhf κ = r.2) {a1 : Int} {a2 : Int} {a3 : Int} {h : zH} (hF : fX10_ahead N a1 a2 a3 h = some r) : Z κ h 0 [(0, .ref (zα κ 0)), (1, .int (zi a1)), (2, .int (zi a2)), (3, .int (zi a3))] [] := by
  unfold fX10_ahead at hF
  refine z_aload_n (q := 1) C dX10_ahead_0 0 rfl rfl rfl ?_
  refine z_getf (q := 4) C clX10 (zon C zo_0) kd_0 (k := 1) (by decide) q_272 rfl (zfv_r kd_0 rfl fr_0_1) dX10_ahead_1 rfl ?_
  refine z_iconst (q := 5) C dX10_ahead_4 rfl ?_
  refine z_iload_n (q := 6) C dX10_ahead_5 1 rfl rfl rfl ?_
  refine z_callV (q := 9) (o := 2) (av := [.int (zi 1), .int (zi a1)]) (rest := []) (stk2 := [.int (zi (fX1_has 2 1 a1 h))]) C hR clX1 (zon C zo_2) kd_2 (M_fX1_has (zlv hd rfl) zo_2 kd_2 rfl) mY_X1_has q_634 (Nat.le_of_ble_eq_true rfl) dX10_ahead_6 rfl rfl rfl ?_
  refine z_if_eq (tgt := 32) (q := 12) C dX10_ahead_9 (by decide) rfl (fun c1 => ?_) (fun c1 => ?_)
  · have hF := (if_pos c1).symm.trans hF
    refine z_iconst (q := 33) C dX10_ahead_32 rfl ?_
    have hF := Option.some.inj hF
    subst hF
    exact z_iret C e1 e2 dX10_ahead_33
  · have hF := (if_neg c1).symm.trans hF
    refine z_iload_n (q := 13) C dX10_ahead_12 2 rfl rfl rfl ?_
    refine z_if_lt (tgt := 32) (q := 16) C dX10_ahead_13 (by decide) rfl (fun c2 => ?_) (fun c2 => ?_)
    · have hF := (if_pos c2).symm.trans hF
      refine z_iconst (q := 33) C dX10_ahead_32 rfl ?_
      have hF := Option.some.inj hF
      subst hF
      exact z_iret C e1 e2 dX10_ahead_33
    · have hF := (if_neg c2).symm.trans hF
      refine z_iload_n (q := 17) C dX10_ahead_16 2 rfl rfl rfl ?_
      refine z_sipush (q := 20) C dX10_ahead_17 sp_240 rfl ?_
      refine z_icmp_gt (tgt := 32) (q := 23) C dX10_ahead_20 (by decide) rfl (fun c3 => ?_) (fun c3 => ?_)
      · have hF := (if_pos c3).symm.trans hF
        refine z_iconst (q := 33) C dX10_ahead_32 rfl ?_
        have hF := Option.some.inj hF
        subst hF
        exact z_iret C e1 e2 dX10_ahead_33
      · have hF := (if_neg c3).symm.trans hF
        refine z_iload_n (q := 24) C dX10_ahead_23 3 rfl rfl rfl ?_
        refine z_if_lt (tgt := 32) (q := 27) C dX10_ahead_24 (by decide) rfl (fun c4 => ?_) (fun c4 => ?_)
        · have hF := (if_pos c4).symm.trans hF
          refine z_iconst (q := 33) C dX10_ahead_32 rfl ?_
          have hF := Option.some.inj hF
          subst hF
          exact z_iret C e1 e2 dX10_ahead_33
        · have hF := (if_neg c4).symm.trans hF
          refine z_iload_n (q := 28) C dX10_ahead_27 3 rfl rfl rfl ?_
          refine z_iconst (q := 29) C dX10_ahead_28 rfl ?_
          refine z_icmp_le (tgt := 34) (q := 32) C dX10_ahead_29 (by decide) rfl (fun c5 => ?_) (fun c5 => ?_)
          · have hF := (if_pos c5).symm.trans hF
            refine z_aload_n (q := 35) C dX10_ahead_34 0 rfl rfl rfl ?_
            refine z_getf (q := 38) C clX10 (zon C zo_0) kd_0 (k := 7) (by decide) q_278 rfl (zfv_r kd_0 rfl fr_0_7) dX10_ahead_35 rfl ?_
            refine z_aload_n (q := 39) C dX10_ahead_38 0 rfl rfl rfl ?_
            refine z_getf (q := 42) C clX10 (zon C zo_0) kd_0 (k := 6) (by decide) q_277 rfl (zfv_r kd_0 rfl fr_0_6) dX10_ahead_39 rfl ?_
            obtain ⟨h6, eh6, hF⟩ := zb_e hF
            refine z_callV (q := 45) (o := 8) (av := [.ref (zα κ 7)]) (rest := []) (stk2 := []) C hR clX8 (zon C zo_8) kd_8 (M_fX8_take (zlv hd rfl) zo_8 kd_8 zo_7 kd_7 eh6) mY_X8_take q_868 (Nat.le_of_ble_eq_true rfl) dX10_ahead_42 rfl rfl rfl ?_
            refine z_iconst (q := 46) C dX10_ahead_45 rfl ?_
            refine z_istore (q := 48) C dX10_ahead_46 (by decide) rfl rfl ?_
            exact z_sub (J_fX10_ahead_c48 C hR hd e1 e2 N _ _ _ _ _ hF) [1, 2, 3, 4, 0] rfl
          · have hF := (if_neg c5).symm.trans hF
            refine z_iconst (q := 33) C dX10_ahead_32 rfl ?_
            have hF := Option.some.inj hF
            subst hF
            exact z_iret C e1 e2 dX10_ahead_33
set_option maxRecDepth 20000 in
set_option maxHeartbeats 4000000 in
theorem M_fX10_ahead {l : Launch} {D : va_G} {cy : ClassId} {α : Nat → Nat} {n : Nat} {σ : zSg} {d : Nat} (hd : 7 ≤ d) {N : Nat} {a1 : Int} {a2 : Int} {a3 : Int} {h : zH} {r : Int} {g : zH} (hF : fX10_ahead N a1 a2 a3 h = some (r, g)) : zMet l yX10_ahead cX10_ahead 5 (some .int) (zrm d) D cy α n σ [.ref (α 0), .int (zi a1), .int (zi a2), .int (zi a3)] h (some (.int (zi r))) g := by
  obtain ⟨d, rfl⟩ : ∃ e, d = e + 1 := ⟨d - 1, by omega⟩
  refine z_met (by decide +kernel) (Nat.le_of_ble_eq_true rfl) (fun κ k1 k2 k3 k4 k5 k6 k7 k8 k9 C => ?_)
  subst k1 k3 k4 k5 k6 k7
  exact J_fX10_ahead C k2 hd k8 k9 hF
set_option maxRecDepth 20000 in
set_option maxHeartbeats 4000000 in
theorem J_fX10_needed {κ : zT} (C : zC κ RX10 cX10_needed 2 (some .int)) {d : Nat} (hR : zR κ = zrm (d + 1)) (hd : 4 ≤ d + 1) {N : Nat} {h : zH} {r : Int} (e1 : zrv κ = some (.int (zi r))) (e2 : zhf κ = h) {a1 : Int} (hF : fX10_needed N a1 h = some r) : Z κ h 0 [(0, .ref (zα κ 0)), (1, .int (zi a1))] [] := by
  unfold fX10_needed at hF
  refine z_aload_n (q := 1) C dX10_needed_0 0 rfl rfl rfl ?_
  refine z_getf (q := 4) C clX10 (zon C zo_0) kd_0 (k := 1) (by decide) q_272 rfl (zfv_r kd_0 rfl fr_0_1) dX10_needed_1 rfl ?_
  refine z_iconst (q := 5) C dX10_needed_4 rfl ?_
  refine z_iload_n (q := 6) C dX10_needed_5 1 rfl rfl rfl ?_
  refine z_callV (q := 9) (o := 2) (av := [.int (zi 3), .int (zi a1)]) (rest := []) (stk2 := [.int (zi (fX1_has 2 3 a1 h))]) C hR clX1 (zon C zo_2) kd_2 (M_fX1_has (zlv hd rfl) zo_2 kd_2 rfl) mY_X1_has q_634 (Nat.le_of_ble_eq_true rfl) dX10_needed_6 rfl rfl rfl ?_
  refine z_if_eq (tgt := 26) (q := 12) C dX10_needed_9 (by decide) rfl (fun c1 => ?_) (fun c1 => ?_)
  · have hF := (if_pos c1).symm.trans hF
    refine z_iconst (q := 27) C dX10_needed_26 rfl ?_
    have hF := Option.some.inj hF
    subst hF
    exact z_iret C e1 e2 dX10_needed_27
  · have hF := (if_neg c1).symm.trans hF
    refine z_aload_n (q := 13) C dX10_needed_12 0 rfl rfl rfl ?_
    refine z_getf (q := 16) C clX10 (zon C zo_0) kd_0 (k := 1) (by decide) q_272 rfl (zfv_r kd_0 rfl fr_0_1) dX10_needed_13 rfl ?_
    refine z_iconst (q := 17) C dX10_needed_16 rfl ?_
    refine z_iload_n (q := 18) C dX10_needed_17 1 rfl rfl rfl ?_
    refine z_ishl (q := 19) C dX10_needed_18 rfl ?_
    refine z_iconst (q := 20) C dX10_needed_19 rfl ?_
    obtain ⟨v2, ev2, hF⟩ := zb_e hF
    refine z_callV (q := 23) (o := 2) (av := [.int (zi (zshl 1 a1)), .int (zi 0)]) (rest := []) (stk2 := [.int (zi v2)]) C hR clX1 (zon C zo_2) kd_2 (M_fX1_lacks (zlv hd rfl) zo_2 kd_2 ev2) mY_X1_lacks q_787 (Nat.le_of_ble_eq_true rfl) dX10_needed_20 rfl rfl rfl ?_
    refine z_goto (q := 27) C dX10_needed_23 (by decide) ?_
    have hF := Option.some.inj hF
    subst hF
    exact z_iret C e1 e2 dX10_needed_27
set_option maxRecDepth 20000 in
set_option maxHeartbeats 4000000 in
theorem M_fX10_needed {l : Launch} {D : va_G} {cy : ClassId} {α : Nat → Nat} {n : Nat} {σ : zSg} {d : Nat} (hd : 4 ≤ d) {N : Nat} {a1 : Int} {h : zH} {r : Int} (hF : fX10_needed N a1 h = some r) : zMet l yX10_needed cX10_needed 2 (some .int) (zrm d) D cy α n σ [.ref (α 0), .int (zi a1)] h (some (.int (zi r))) h := by
  obtain ⟨d, rfl⟩ : ∃ e, d = e + 1 := ⟨d - 1, by omega⟩
  refine z_met (by decide +kernel) (Nat.le_of_ble_eq_true rfl) (fun κ k1 k2 k3 k4 k5 k6 k7 k8 k9 C => ?_)
  subst k1 k3 k4 k5 k6 k7
  exact J_fX10_needed C k2 hd k8 k9 hF
set_option maxRecDepth 20000 in
set_option maxHeartbeats 4000000 in
theorem J_fX10_ring_c13b {κ : zT} (C : zC κ RX10 cX10_ring 3 (some .int)) {d : Nat} (hR : zR κ = zrm (d + 1)) (hd : 4 ≤ d + 1) {N : Nat} {h : zH} {r : Int} (e1 : zrv κ = some (.int (zi r))) (e2 : zhf κ = h) {K13 : Int → Int → Option Int} (hK13 : ∀ (l1 : Int) (l2 : Int), K13 l1 l2 = some r → Z κ h 13 [(0, .ref (zα κ 0)), (1, .int (zi l1)), (2, .int (zi l2))] []) (l1 : Int) (l2 : Int) (hF : fX10_ring_c13b N h K13 l1 l2 = some r) : Z κ h 13 [(0, .ref (zα κ 0)), (1, .int (zi l1)), (2, .int (zi l2))] [] := by
  unfold fX10_ring_c13b at hF
  refine z_iload_n (q := 14) C dX10_ring_13 2 rfl rfl rfl ?_
  refine z_aload_n (q := 15) C dX10_ring_14 0 rfl rfl rfl ?_
  refine z_getf (q := 18) C clX10 (zon C zo_0) kd_0 (k := 1) (by decide) q_272 rfl (zfv_r kd_0 rfl fr_0_1) dX10_ring_15 rfl ?_
  refine z_iconst (q := 19) C dX10_ring_18 rfl ?_
  refine z_callV (q := 22) (o := 2) (av := [.int (zi 3)]) (rest := [.int (zi l2)]) (stk2 := [.int (zi (fX1_many 2 3 h)), .int (zi l2)]) C hR clX1 (zon C zo_2) kd_2 (M_fX1_many (zlv hd rfl) zo_2 kd_2 rfl) mY_X1_many q_620 (Nat.le_of_ble_eq_true rfl) dX10_ring_19 rfl rfl rfl ?_
  refine z_icmp_ge (tgt := 54) (q := 25) C dX10_ring_22 (by decide) rfl (fun c1 => ?_) (fun c1 => ?_)
  · have hF := (if_pos c1).symm.trans hF
    refine z_iload_n (q := 55) C dX10_ring_54 1 rfl rfl rfl ?_
    have hF := Option.some.inj hF
    subst hF
    exact z_iret C e1 e2 dX10_ring_55
  · have hF := (if_neg c1).symm.trans hF
    refine z_iload_n (q := 26) C dX10_ring_25 1 rfl rfl rfl ?_
    refine z_aload_n (q := 27) C dX10_ring_26 0 rfl rfl rfl ?_
    refine z_getf (q := 30) C clX10 (zon C zo_0) kd_0 (k := 1) (by decide) q_272 rfl (zfv_r kd_0 rfl fr_0_1) dX10_ring_27 rfl ?_
    refine z_aload_n (q := 31) C dX10_ring_30 0 rfl rfl rfl ?_
    refine z_getf (q := 34) C clX10 (zon C zo_0) kd_0 (k := 1) (by decide) q_272 rfl (zfv_r kd_0 rfl fr_0_1) dX10_ring_31 rfl ?_
    refine z_iload_n (q := 35) C dX10_ring_34 2 rfl rfl rfl ?_
    refine z_callV (q := 38) (o := 2) (av := [.int (zi l2)]) (rest := [.ref (zα κ 2), .int (zi l1)]) (stk2 := [.int (zi (fX1_wants 2 l2 h)), .ref (zα κ 2), .int (zi l1)]) C hR clX1 (zon C zo_2) kd_2 (M_fX1_wants (zlv hd rfl) zo_2 kd_2 rfl) mY_X1_wants q_898 (Nat.le_of_ble_eq_true rfl) dX10_ring_35 rfl rfl rfl ?_
    refine z_iconst (q := 39) C dX10_ring_38 rfl ?_
    obtain ⟨v2, ev2, hF⟩ := zb_e hF
    refine z_callV (q := 42) (o := 2) (av := [.int (zi (fX1_wants 2 l2 h)), .int (zi 0)]) (rest := [.int (zi l1)]) (stk2 := [.int (zi v2), .int (zi l1)]) C hR clX1 (zon C zo_2) kd_2 (M_fX1_lacks (zlv hd rfl) zo_2 kd_2 ev2) mY_X1_lacks q_787 (Nat.le_of_ble_eq_true rfl) dX10_ring_39 rfl rfl rfl ?_
    refine z_iconst (q := 43) C dX10_ring_42 rfl ?_
    refine z_iload_n (q := 44) C dX10_ring_43 2 rfl rfl rfl ?_
    refine z_ishl (q := 45) C dX10_ring_44 rfl ?_
    refine z_iand (q := 46) C dX10_ring_45 rfl ?_
    refine z_ior (q := 47) C dX10_ring_46 rfl ?_
    obtain ⟨v3, ev3, hF⟩ := zlet_e hF
    refine z_istoreE_n (q := 48) C ev3 dX10_ring_47 (by decide) rfl rfl rfl ?_
    refine z_iinc (q := 51) (x := l2) C dX10_ring_48 (j := 2) rfl (by decide) rfl rfl ?_
    refine z_goto (q := 13) C dX10_ring_51 (by decide) ?_
    exact z_sub (hK13 _ _ hF) [2, 1, 0] rfl
set_option maxRecDepth 20000 in
set_option maxHeartbeats 4000000 in
theorem J_fX10_ring_c13 {κ : zT} (C : zC κ RX10 cX10_ring 3 (some .int)) {d : Nat} (hR : zR κ = zrm (d + 1)) (hd : 4 ≤ d + 1) {N : Nat} {h : zH} {r : Int} (e1 : zrv κ = some (.int (zi r))) (e2 : zhf κ = h) : ∀ (k : Nat) (l1 : Int) (l2 : Int), fX10_ring_c13 N h k l1 l2 = some r → Z κ h 13 [(0, .ref (zα κ 0)), (1, .int (zi l1)), (2, .int (zi l2))] [] := by
  intro k
  induction k with
  | zero => intro l1 l2 hF; cases hF
  | succ k ih => intro l1 l2 hF; exact J_fX10_ring_c13b C hR hd e1 e2 ih l1 l2 hF
set_option maxRecDepth 20000 in
set_option maxHeartbeats 4000000 in
theorem J_fX10_ring {κ : zT} (C : zC κ RX10 cX10_ring 3 (some .int)) {d : Nat} (hR : zR κ = zrm (d + 1)) (hd : 4 ≤ d + 1) {N : Nat} {h : zH} {r : Int} (e1 : zrv κ = some (.int (zi r))) (e2 : zhf κ = h) (hF : fX10_ring N h = some r) : Z κ h 0 [(0, .ref (zα κ 0))] [] := by
  unfold fX10_ring at hF
  refine z_aload_n (q := 1) C dX10_ring_0 0 rfl rfl rfl ?_
  refine z_callV (q := 4) (o := 0) (av := []) (rest := []) (stk2 := [.int (zi (fX10_hasHill h))]) C hR clX10 (zon C zo_0) kd_0 (M_fX10_hasHill (zlv hd rfl) rfl) mY_X10_hasHill q_625 (Nat.le_of_ble_eq_true rfl) dX10_ring_1 rfl rfl rfl ?_
  refine z_if_ne (tgt := 9) (q := 7) C dX10_ring_4 (by decide) rfl (fun c1 => ?_) (fun c1 => ?_)
  · have hF := (if_neg c1).symm.trans hF
    refine z_iconst (q := 10) C dX10_ring_9 rfl ?_
    refine z_istore_n (q := 11) C dX10_ring_10 (by decide) rfl rfl rfl ?_
    refine z_iconst (q := 12) C dX10_ring_11 rfl ?_
    refine z_istore_n (q := 13) C dX10_ring_12 (by decide) rfl rfl rfl ?_
    exact z_sub (J_fX10_ring_c13 C hR hd e1 e2 N _ _ hF) [2, 1, 0] rfl
  · have hF := (if_pos c1).symm.trans hF
    refine z_iconst (q := 8) C dX10_ring_7 rfl ?_
    have hF := Option.some.inj hF
    subst hF
    exact z_iret C e1 e2 dX10_ring_8
set_option maxRecDepth 20000 in
set_option maxHeartbeats 4000000 in
theorem M_fX10_ring {l : Launch} {D : va_G} {cy : ClassId} {α : Nat → Nat} {n : Nat} {σ : zSg} {d : Nat} (hd : 4 ≤ d) {N : Nat} {h : zH} {r : Int} (hF : fX10_ring N h = some r) : zMet l yX10_ring cX10_ring 3 (some .int) (zrm d) D cy α n σ [.ref (α 0)] h (some (.int (zi r))) h := by
  obtain ⟨d, rfl⟩ : ∃ e, d = e + 1 := ⟨d - 1, by omega⟩
  refine z_met (by decide +kernel) (Nat.le_of_ble_eq_true rfl) (fun κ k1 k2 k3 k4 k5 k6 k7 k8 k9 C => ?_)
  subst k1 k3 k4 k5 k6 k7
  exact J_fX10_ring C k2 hd k8 k9 hF
set_option maxRecDepth 20000 in
set_option maxHeartbeats 4000000 in
theorem J_fX3_hours {κ : zT} (C : zC κ RX3 cX3_hours 4 (some .int)) {d : Nat} (hR : zR κ = zrm (d + 1)) (hd : 64 ≤ d + 1) {N : Nat} {o1 : Nat} (ho1 : o1 < zN) (hd1 : zkd o1 = 1) {r : Int × zH} (e1 : zrv κ = some (.int (zi r.1))) (e2 : zhf κ = r.2) {a2 : Int} {a3 : Int} {h : zH} (hF : fX3_hours N o1 a2 a3 h = some r) : Z κ h 0 [(0, .ref (zα κ 11)), (1, .ref (zα κ o1)), (2, .int (zi a2)), (3, .int (zi a3))] [] := by
  unfold fX3_hours at hF
  refine z_aload_n (q := 1) C dX3_hours_0 0 rfl rfl rfl ?_
  refine z_getf (q := 4) C clX3 (zon C zo_11) kd_11 (k := 0) (by decide) q_221 rfl (zfv_r kd_11 rfl fr_11_0) dX3_hours_1 rfl ?_
  refine z_aload_n (q := 5) C dX3_hours_4 1 rfl rfl rfl ?_
  refine z_iload_n (q := 6) C dX3_hours_5 2 rfl rfl rfl ?_
  refine z_iload_n (q := 7) C dX3_hours_6 3 rfl rfl rfl ?_
  refine z_iconst (q := 8) C dX3_hours_7 rfl ?_
  obtain ⟨v2, h1, ev2, hF⟩ := z2_e hF
  refine z_callS (q := 11) (av := [.ref (zα κ 43), .ref (zα κ o1), .int (zi a2), .int (zi a3), .int (zi 0)]) (rest := []) (stk2 := [.int (zi v2)]) C hR (M_fX3_fewest (zlv hd rfl) zo_43 kd_43 ho1 hd1 ev2) mY_X3_fewest q_796 (Nat.le_of_ble_eq_true rfl) dX3_hours_8 rfl rfl rfl ?_
  have hF := Option.some.inj hF
  subst hF
  exact z_iret C e1 e2 dX3_hours_11
set_option maxRecDepth 20000 in
set_option maxHeartbeats 4000000 in
theorem M_fX3_hours {l : Launch} {D : va_G} {cy : ClassId} {α : Nat → Nat} {n : Nat} {σ : zSg} {d : Nat} (hd : 64 ≤ d) {N : Nat} {o1 : Nat} (ho1 : o1 < zN) (hd1 : zkd o1 = 1) {a2 : Int} {a3 : Int} {h : zH} {r : Int} {g : zH} (hF : fX3_hours N o1 a2 a3 h = some (r, g)) : zMet l yX3_hours cX3_hours 4 (some .int) (zrm d) D cy α n σ [.ref (α 11), .ref (α o1), .int (zi a2), .int (zi a3)] h (some (.int (zi r))) g := by
  obtain ⟨d, rfl⟩ : ∃ e, d = e + 1 := ⟨d - 1, by omega⟩
  refine z_met (by decide +kernel) (Nat.le_of_ble_eq_true rfl) (fun κ k1 k2 k3 k4 k5 k6 k7 k8 k9 C => ?_)
  subst k1 k3 k4 k5 k6 k7
  exact J_fX3_hours C k2 hd ho1 hd1 k8 k9 hF
set_option maxRecDepth 20000 in
set_option maxHeartbeats 4000000 in
theorem J_fX3_row_c20b {κ : zT} (C : zC κ RX3 cX3_row 9 (some .int)) {d : Nat} (hR : zR κ = zrm (d + 1)) (hd : 65 ≤ d + 1) {N : Nat} {o1 : Nat} (ho1 : o1 < zN) (hd1 : zkd o1 = 1) {r : Int × zH} (e1 : zrv κ = some (.int (zi r.1))) (e2 : zhf κ = r.2) {K20 : Int → Int → Int → Int → zH → Option (Int × zH)} (hK20 : ∀ (l4 : Int) (l5 : Int) (l6 : Int) (l7 : Int) (h : zH), K20 l4 l5 l6 l7 h = some r → Z κ h 20 [(0, .ref (zα κ 11)), (1, .ref (zα κ o1)), (4, .int (zi l4)), (5, .int (zi l5)), (6, .int (zi l6)), (7, .int (zi l7))] []) (l4 : Int) (l5 : Int) (l6 : Int) (l7 : Int) (h : zH) (hF : fX3_row_c20b N o1 K20 l4 l5 l6 l7 h = some r) : Z κ h 20 [(0, .ref (zα κ 11)), (1, .ref (zα κ o1)), (4, .int (zi l4)), (5, .int (zi l5)), (6, .int (zi l6)), (7, .int (zi l7))] [] := by
  unfold fX3_row_c20b at hF
  refine z_iload (q := 22) C dX3_row_20 5 rfl rfl ?_
  refine z_bipush (q := 24) C dX3_row_22 bp_8 rfl ?_
  refine z_icmp_ge (tgt := 94) (q := 27) C dX3_row_24 (by decide) rfl (fun c1 => ?_) (fun c1 => ?_)
  · have hF := (if_pos c1).symm.trans hF
    refine z_iload (q := 96) C dX3_row_94 2 rfl rfl ?_
    have hF := Option.some.inj hF
    subst hF
    exact z_iret C e1 e2 dX3_row_96
  · have hF := (if_neg c1).symm.trans hF
    refine z_iload (q := 29) C dX3_row_27 3 rfl rfl ?_
    refine z_if_eq (tgt := 94) (q := 32) C dX3_row_29 (by decide) rfl (fun c2 => ?_) (fun c2 => ?_)
    · have hF := (if_pos c2).symm.trans hF
      refine z_iload (q := 96) C dX3_row_94 2 rfl rfl ?_
      have hF := Option.some.inj hF
      subst hF
      exact z_iret C e1 e2 dX3_row_96
    · have hF := (if_neg c2).symm.trans hF
      refine z_aload_n (q := 33) C dX3_row_32 0 rfl rfl rfl ?_
      refine z_aload_n (q := 34) C dX3_row_33 1 rfl rfl rfl ?_
      refine z_iload (q := 36) C dX3_row_34 3 rfl rfl ?_
      refine z_iload (q := 38) C dX3_row_36 4 rfl rfl ?_
      obtain ⟨v4, h3, ev4, hF⟩ := z2_e hF
      refine z_callV (q := 41) (o := 11) (av := [.ref (zα κ o1), .int (zi l5), .int (zi l6)]) (rest := []) (stk2 := [.int (zi v4)]) C hR clX3 (zon C zo_11) kd_11 (M_fX3_first (zlv hd rfl) ho1 hd1 ev4) mY_X3_first q_911 (Nat.le_of_ble_eq_true rfl) dX3_row_38 rfl rfl rfl ?_
      refine z_istore (q := 43) C dX3_row_41 (by decide) rfl rfl ?_
      refine z_iload (q := 45) C dX3_row_43 0 rfl rfl ?_
      refine z_iconst (q := 46) C dX3_row_45 rfl ?_
      refine z_icmp_ne (tgt := 51) (q := 49) C dX3_row_46 (by decide) rfl (fun c5 => ?_) (fun c5 => ?_)
      · have hF := (if_neg c5).symm.trans hF
        refine z_iload (q := 53) C dX3_row_51 3 rfl rfl ?_
        refine z_bipush (q := 55) C dX3_row_53 bp_10 rfl ?_
        refine z_imul (q := 56) C dX3_row_55 rfl ?_
        refine z_iload (q := 58) C dX3_row_56 0 rfl rfl ?_
        refine z_iadd (q := 59) C dX3_row_58 rfl ?_
        refine z_istore (q := 61) C dX3_row_59 (by decide) rfl rfl ?_
        refine z_iload (q := 63) C dX3_row_61 5 rfl rfl ?_
        refine z_aload_n (q := 64) C dX3_row_63 3 rfl rfl rfl ?_
        refine z_iload (q := 66) C dX3_row_64 1 rfl rfl ?_
        refine z_iload (q := 68) C dX3_row_66 5 rfl rfl ?_
        obtain ⟨v6, ev6, hF⟩ := zb_e hF
        refine z_callV (q := 71) (o := o1) (av := [.int (zi v4), .int (zi l6)]) (rest := [.int (zi l6)]) (stk2 := [.int (zi v6), .int (zi l6)]) C hR clX1 (zon C ho1) hd1 (M_fX1_span (zlv hd rfl) ho1 hd1 ev6) mY_X1_span q_806 (Nat.le_of_ble_eq_true rfl) dX3_row_68 rfl rfl rfl ?_
        refine z_iadd (q := 72) C dX3_row_71 rfl ?_
        refine z_bipush (q := 74) C dX3_row_72 bp_24 rfl ?_
        refine z_irem (q := 75) C (by decide) dX3_row_74 rfl ?_
        obtain ⟨v7, ev7, hF⟩ := zlet_e hF
        refine z_istoreE (q := 77) C ev7 dX3_row_75 (by decide) rfl rfl ?_
        refine z_iload (q := 79) C dX3_row_77 5 rfl rfl ?_
        refine z_iconst (q := 80) C dX3_row_79 rfl ?_
        refine z_iload (q := 82) C dX3_row_80 2 rfl rfl ?_
        refine z_ishl (q := 83) C dX3_row_82 rfl ?_
        refine z_iconst (q := 84) C dX3_row_83 rfl ?_
        refine z_ixor (q := 85) C dX3_row_84 rfl ?_
        refine z_iand (q := 86) C dX3_row_85 rfl ?_
        obtain ⟨v8, ev8, hF⟩ := zlet_e hF
        refine z_istoreE (q := 88) C ev8 dX3_row_86 (by decide) rfl rfl ?_
        refine z_iinc (q := 91) (x := l7) C dX3_row_88 (j := 6) rfl (by decide) rfl rfl ?_
        refine z_goto (q := 20) C dX3_row_91 (by decide) ?_
        exact z_sub (hK20 _ _ _ _ _ hF) [5, 6, 3, 1, 2, 0] rfl
      · have hF := (if_pos c5).symm.trans hF
        refine z_iconst (q := 50) C dX3_row_49 rfl ?_
        have hF := Option.some.inj hF
        subst hF
        exact z_iret C e1 e2 dX3_row_50
set_option maxRecDepth 20000 in
set_option maxHeartbeats 4000000 in
theorem J_fX3_row_c20 {κ : zT} (C : zC κ RX3 cX3_row 9 (some .int)) {d : Nat} (hR : zR κ = zrm (d + 1)) (hd : 65 ≤ d + 1) {N : Nat} {o1 : Nat} (ho1 : o1 < zN) (hd1 : zkd o1 = 1) {r : Int × zH} (e1 : zrv κ = some (.int (zi r.1))) (e2 : zhf κ = r.2) : ∀ (k : Nat) (l4 : Int) (l5 : Int) (l6 : Int) (l7 : Int) (h : zH), fX3_row_c20 N o1 k l4 l5 l6 l7 h = some r → Z κ h 20 [(0, .ref (zα κ 11)), (1, .ref (zα κ o1)), (4, .int (zi l4)), (5, .int (zi l5)), (6, .int (zi l6)), (7, .int (zi l7))] [] := by
  intro k
  induction k with
  | zero => intro l4 l5 l6 l7 h hF; cases hF
  | succ k ih => intro l4 l5 l6 l7 h hF; exact J_fX3_row_c20b C hR hd ho1 hd1 e1 e2 ih l4 l5 l6 l7 h hF
set_option maxRecDepth 20000 in
set_option maxHeartbeats 4000000 in
theorem J_fX3_row {κ : zT} (C : zC κ RX3 cX3_row 9 (some .int)) {d : Nat} (hR : zR κ = zrm (d + 1)) (hd : 65 ≤ d + 1) {N : Nat} {o1 : Nat} (ho1 : o1 < zN) (hd1 : zkd o1 = 1) {r : Int × zH} (e1 : zrv κ = some (.int (zi r.1))) (e2 : zhf κ = r.2) {a2 : Int} {a3 : Int} {h : zH} (hF : fX3_row N o1 a2 a3 h = some r) : Z κ h 0 [(0, .ref (zα κ 11)), (1, .ref (zα κ o1)), (2, .int (zi a2)), (3, .int (zi a3))] [] := by
  unfold fX3_row at hF
  refine z_iload_n (q := 1) C dX3_row_0 2 rfl rfl rfl ?_
  refine z_if_ne (tgt := 8) (q := 4) C dX3_row_1 (by decide) rfl (fun c1 => ?_) (fun c1 => ?_)
  · have hF := (if_neg c1).symm.trans hF
    refine z_iconst (q := 9) C dX3_row_8 rfl ?_
    refine z_istore (q := 11) C dX3_row_9 (by decide) rfl rfl ?_
    refine z_iload_n (q := 12) C dX3_row_11 3 rfl rfl rfl ?_
    refine z_istore (q := 14) C dX3_row_12 (by decide) rfl rfl ?_
    refine z_iload_n (q := 15) C dX3_row_14 5 rfl rfl rfl ?_
    refine z_istore (q := 17) C dX3_row_15 (by decide) rfl rfl ?_
    refine z_iconst (q := 18) C dX3_row_17 rfl ?_
    refine z_istore (q := 20) C dX3_row_18 (by decide) rfl rfl ?_
    exact z_sub (J_fX3_row_c20 C hR hd ho1 hd1 e1 e2 N _ _ _ _ _ hF) [4, 5, 3, 2, 1, 0] rfl
  · have hF := (if_pos c1).symm.trans hF
    refine z_iconst (q := 5) C dX3_row_4 rfl ?_
    refine z_goto (q := 9) C dX3_row_5 (by decide) ?_
    refine z_istore (q := 11) C dX3_row_9 (by decide) rfl rfl ?_
    refine z_iload_n (q := 12) C dX3_row_11 3 rfl rfl rfl ?_
    refine z_istore (q := 14) C dX3_row_12 (by decide) rfl rfl ?_
    refine z_iload_n (q := 15) C dX3_row_14 5 rfl rfl rfl ?_
    refine z_istore (q := 17) C dX3_row_15 (by decide) rfl rfl ?_
    refine z_iconst (q := 18) C dX3_row_17 rfl ?_
    refine z_istore (q := 20) C dX3_row_18 (by decide) rfl rfl ?_
    exact z_sub (J_fX3_row_c20 C hR hd ho1 hd1 e1 e2 N _ _ _ _ _ hF) [4, 5, 3, 2, 1, 0] rfl
set_option maxRecDepth 20000 in
set_option maxHeartbeats 4000000 in
theorem M_fX3_row {l : Launch} {D : va_G} {cy : ClassId} {α : Nat → Nat} {n : Nat} {σ : zSg} {d : Nat} (hd : 65 ≤ d) {N : Nat} {o1 : Nat} (ho1 : o1 < zN) (hd1 : zkd o1 = 1) {a2 : Int} {a3 : Int} {h : zH} {r : Int} {g : zH} (hF : fX3_row N o1 a2 a3 h = some (r, g)) : zMet l yX3_row cX3_row 9 (some .int) (zrm d) D cy α n σ [.ref (α 11), .ref (α o1), .int (zi a2), .int (zi a3)] h (some (.int (zi r))) g := by
  obtain ⟨d, rfl⟩ : ∃ e, d = e + 1 := ⟨d - 1, by omega⟩
  refine z_met (by decide +kernel) (Nat.le_of_ble_eq_true rfl) (fun κ k1 k2 k3 k4 k5 k6 k7 k8 k9 C => ?_)
  subst k1 k3 k4 k5 k6 k7
  exact J_fX3_row C k2 hd ho1 hd1 k8 k9 hF
set_option maxRecDepth 20000 in
set_option maxHeartbeats 4000000 in
theorem J_fX1_fees_c4b {κ : zT} (C : zC κ RX1 cX1_fees 4 (some .int)) {d : Nat} (hR : zR κ = zrm (d + 1)) (hd : 3 ≤ d + 1) {N : Nat} {o0 : Nat} (ho0 : o0 < zN) (hd0 : zkd o0 = 1) {h : zH} {r : Int} (e1 : zrv κ = some (.int (zi r))) (e2 : zhf κ = h) {K4 : Int → Int → Int → Option Int} (hK4 : ∀ (l1 : Int) (l2 : Int) (l3 : Int), K4 l1 l2 l3 = some r → Z κ h 4 [(0, .ref (zα κ o0)), (1, .int (zi l1)), (2, .int (zi l2)), (3, .int (zi l3))] []) (l1 : Int) (l2 : Int) (l3 : Int) (hF : fX1_fees_c4b N o0 h K4 l1 l2 l3 = some r) : Z κ h 4 [(0, .ref (zα κ o0)), (1, .int (zi l1)), (2, .int (zi l2)), (3, .int (zi l3))] [] := by
  unfold fX1_fees_c4b at hF
  refine z_iload_n (q := 5) C dX1_fees_4 3 rfl rfl rfl ?_
  refine z_aload_n (q := 6) C dX1_fees_5 0 rfl rfl rfl ?_
  refine z_iconst (q := 7) C dX1_fees_6 rfl ?_
  refine z_callV (q := 10) (o := o0) (av := [.int (zi 3)]) (rest := [.int (zi l3)]) (stk2 := [.int (zi (fX1_many o0 3 h)), .int (zi l3)]) C hR clX1 (zon C ho0) hd0 (M_fX1_many (zlv hd rfl) ho0 hd0 rfl) mY_X1_many q_427 (Nat.le_of_ble_eq_true rfl) dX1_fees_7 rfl rfl rfl ?_
  refine z_icmp_ge (tgt := 43) (q := 13) C dX1_fees_10 (by decide) rfl (fun c1 => ?_) (fun c1 => ?_)
  · have hF := (if_pos c1).symm.trans hF
    refine z_iload_n (q := 44) C dX1_fees_43 2 rfl rfl rfl ?_
    have hF := Option.some.inj hF
    subst hF
    exact z_iret C e1 e2 dX1_fees_44
  · have hF := (if_neg c1).symm.trans hF
    refine z_iload_n (q := 14) C dX1_fees_13 1 rfl rfl rfl ?_
    refine z_iload_n (q := 15) C dX1_fees_14 3 rfl rfl rfl ?_
    refine z_callSN (q := 18) (av := [.int (zi l1), .int (zi l3)]) (rest := []) (stk2 := [.int (zi (fX10_isIn l1 l3))]) C hR (M_fX10_isIn (zlv hd rfl) rfl) mY_X10_isIn q_447 (Nat.le_of_ble_eq_true rfl) dX1_fees_15 rfl rfl rfl ?_
    refine z_if_eq (tgt := 37) (q := 21) C dX1_fees_18 (by decide) rfl (fun c2 => ?_) (fun c2 => ?_)
    · have hF := (if_pos c2).symm.trans hF
      refine z_iinc (q := 40) (x := l3) C dX1_fees_37 (j := 3) rfl (by decide) rfl rfl ?_
      refine z_goto (q := 4) C dX1_fees_40 (by decide) ?_
      exact z_sub (hK4 _ _ _ hF) [1, 2, 3, 0] rfl
    · have hF := (if_neg c2).symm.trans hF
      refine z_iload_n (q := 22) C dX1_fees_21 2 rfl rfl rfl ?_
      refine z_aload_n (q := 23) C dX1_fees_22 0 rfl rfl rfl ?_
      refine z_iconst (q := 24) C dX1_fees_23 rfl ?_
      refine z_aload_n (q := 25) C dX1_fees_24 0 rfl rfl rfl ?_
      refine z_iconst (q := 26) C dX1_fees_25 rfl ?_
      refine z_iload_n (q := 27) C dX1_fees_26 3 rfl rfl rfl ?_
      refine z_iconst (q := 28) C dX1_fees_27 rfl ?_
      refine z_callV (q := 31) (o := o0) (av := [.int (zi 3), .int (zi l3), .int (zi 0)]) (rest := [.int (zi 2), .ref (zα κ o0), .int (zi l2)]) (stk2 := [.int (zi (fX1_item o0 3 l3 0 h)), .int (zi 2), .ref (zα κ o0), .int (zi l2)]) C hR clX1 (zon C ho0) hd0 (M_fX1_item (zlv hd rfl) ho0 hd0 rfl) mY_X1_item q_475 (Nat.le_of_ble_eq_true rfl) dX1_fees_28 rfl rfl rfl ?_
      refine z_iconst (q := 32) C dX1_fees_31 rfl ?_
      refine z_callV (q := 35) (o := o0) (av := [.int (zi 2), .int (zi (fX1_item o0 3 l3 0 h)), .int (zi 3)]) (rest := [.int (zi l2)]) (stk2 := [.int (zi (fX1_item o0 2 (fX1_item o0 3 l3 0 h) 3 h)), .int (zi l2)]) C hR clX1 (zon C ho0) hd0 (M_fX1_item (zlv hd rfl) ho0 hd0 rfl) mY_X1_item q_475 (Nat.le_of_ble_eq_true rfl) dX1_fees_32 rfl rfl rfl ?_
      refine z_iadd (q := 36) C dX1_fees_35 rfl ?_
      obtain ⟨v3, ev3, hF⟩ := zlet_e hF
      refine z_istoreE_n (q := 37) C ev3 dX1_fees_36 (by decide) rfl rfl rfl ?_
      refine z_iinc (q := 40) (x := l3) C dX1_fees_37 (j := 3) rfl (by decide) rfl rfl ?_
      refine z_goto (q := 4) C dX1_fees_40 (by decide) ?_
      exact z_sub (hK4 _ _ _ hF) [2, 3, 1, 0] rfl
set_option maxRecDepth 20000 in
set_option maxHeartbeats 4000000 in
theorem J_fX1_fees_c4 {κ : zT} (C : zC κ RX1 cX1_fees 4 (some .int)) {d : Nat} (hR : zR κ = zrm (d + 1)) (hd : 3 ≤ d + 1) {N : Nat} {o0 : Nat} (ho0 : o0 < zN) (hd0 : zkd o0 = 1) {h : zH} {r : Int} (e1 : zrv κ = some (.int (zi r))) (e2 : zhf κ = h) : ∀ (k : Nat) (l1 : Int) (l2 : Int) (l3 : Int), fX1_fees_c4 N o0 h k l1 l2 l3 = some r → Z κ h 4 [(0, .ref (zα κ o0)), (1, .int (zi l1)), (2, .int (zi l2)), (3, .int (zi l3))] [] := by
  intro k
  induction k with
  | zero => intro l1 l2 l3 hF; cases hF
  | succ k ih => intro l1 l2 l3 hF; exact J_fX1_fees_c4b C hR hd ho0 hd0 e1 e2 ih l1 l2 l3 hF
set_option maxRecDepth 20000 in
set_option maxHeartbeats 4000000 in
theorem J_fX1_fees {κ : zT} (C : zC κ RX1 cX1_fees 4 (some .int)) {d : Nat} (hR : zR κ = zrm (d + 1)) (hd : 3 ≤ d + 1) {N : Nat} {o0 : Nat} (ho0 : o0 < zN) (hd0 : zkd o0 = 1) {h : zH} {r : Int} (e1 : zrv κ = some (.int (zi r))) (e2 : zhf κ = h) {a1 : Int} (hF : fX1_fees N o0 a1 h = some r) : Z κ h 0 [(0, .ref (zα κ o0)), (1, .int (zi a1))] [] := by
  unfold fX1_fees at hF
  refine z_iconst (q := 1) C dX1_fees_0 rfl ?_
  refine z_istore_n (q := 2) C dX1_fees_1 (by decide) rfl rfl rfl ?_
  refine z_iconst (q := 3) C dX1_fees_2 rfl ?_
  refine z_istore_n (q := 4) C dX1_fees_3 (by decide) rfl rfl rfl ?_
  exact z_sub (J_fX1_fees_c4 C hR hd ho0 hd0 e1 e2 N _ _ _ hF) [2, 3, 1, 0] rfl
set_option maxRecDepth 20000 in
set_option maxHeartbeats 4000000 in
theorem M_fX1_fees {l : Launch} {D : va_G} {cy : ClassId} {α : Nat → Nat} {n : Nat} {σ : zSg} {d : Nat} (hd : 3 ≤ d) {N : Nat} {o0 : Nat} (ho0 : o0 < zN) (hd0 : zkd o0 = 1) {a1 : Int} {h : zH} {r : Int} (hF : fX1_fees N o0 a1 h = some r) : zMet l yX1_fees cX1_fees 4 (some .int) (zrm d) D cy α n σ [.ref (α o0), .int (zi a1)] h (some (.int (zi r))) h := by
  obtain ⟨d, rfl⟩ : ∃ e, d = e + 1 := ⟨d - 1, by omega⟩
  refine z_met (by decide +kernel) (Nat.le_of_ble_eq_true rfl) (fun κ k1 k2 k3 k4 k5 k6 k7 k8 k9 C => ?_)
  subst k1 k3 k4 k5 k6 k7
  exact J_fX1_fees C k2 hd ho0 hd0 k8 k9 hF
set_option maxRecDepth 20000 in
set_option maxHeartbeats 4000000 in
theorem J_fX10_soonest {κ : zT} (C : zC κ RX10 cX10_soonest 5 (some .int)) {d : Nat} (hR : zR κ = zrm (d + 1)) (hd : 66 ≤ d + 1) {N : Nat} {r : Int × zH} (e1 : zrv κ = some (.int (zi r.1))) (e2 : zhf κ = r.2) {a1 : Int} {a2 : Int} {h : zH} (hF : fX10_soonest N a1 a2 h = some r) : Z κ h 0 [(0, .ref (zα κ 0)), (1, .int (zi a1)), (2, .int (zi a2))] [] := by
  unfold fX10_soonest at hF
  refine z_aload_n (q := 1) C dX10_soonest_0 0 rfl rfl rfl ?_
  refine z_getf (q := 4) C clX10 (zon C zo_0) kd_0 (k := 1) (by decide) q_272 rfl (zfv_r kd_0 rfl fr_0_1) dX10_soonest_1 rfl ?_
  refine z_iconst (q := 5) C dX10_soonest_4 rfl ?_
  refine z_iload_n (q := 6) C dX10_soonest_5 1 rfl rfl rfl ?_
  refine z_callV (q := 9) (o := 2) (av := [.int (zi 1), .int (zi a1)]) (rest := []) (stk2 := [.int (zi (fX1_has 2 1 a1 h))]) C hR clX1 (zon C zo_2) kd_2 (M_fX1_has (zlv hd rfl) zo_2 kd_2 rfl) mY_X1_has q_634 (Nat.le_of_ble_eq_true rfl) dX10_soonest_6 rfl rfl rfl ?_
  refine z_if_eq (tgt := 21) (q := 12) C dX10_soonest_9 (by decide) rfl (fun c1 => ?_) (fun c1 => ?_)
  · have hF := (if_pos c1).symm.trans hF
    refine z_iconst (q := 22) C dX10_soonest_21 rfl ?_
    have hF := Option.some.inj hF
    subst hF
    exact z_iret C e1 e2 dX10_soonest_22
  · have hF := (if_neg c1).symm.trans hF
    refine z_iload_n (q := 13) C dX10_soonest_12 2 rfl rfl rfl ?_
    refine z_if_lt (tgt := 21) (q := 16) C dX10_soonest_13 (by decide) rfl (fun c2 => ?_) (fun c2 => ?_)
    · have hF := (if_pos c2).symm.trans hF
      refine z_iconst (q := 22) C dX10_soonest_21 rfl ?_
      have hF := Option.some.inj hF
      subst hF
      exact z_iret C e1 e2 dX10_soonest_22
    · have hF := (if_neg c2).symm.trans hF
      refine z_iload_n (q := 17) C dX10_soonest_16 2 rfl rfl rfl ?_
      refine z_iconst (q := 18) C dX10_soonest_17 rfl ?_
      refine z_icmp_le (tgt := 23) (q := 21) C dX10_soonest_18 (by decide) rfl (fun c3 => ?_) (fun c3 => ?_)
      · have hF := (if_pos c3).symm.trans hF
        refine z_aload_n (q := 24) C dX10_soonest_23 0 rfl rfl rfl ?_
        refine z_iload_n (q := 25) C dX10_soonest_24 1 rfl rfl rfl ?_
        refine z_iconst (q := 26) C dX10_soonest_25 rfl ?_
        obtain ⟨v4, ev4, hF⟩ := zb_e hF
        refine z_callV (q := 29) (o := 0) (av := [.int (zi a1), .int (zi 0)]) (rest := []) (stk2 := [.int (zi v4)]) C hR clX10 (zon C zo_0) kd_0 (M_fX10_lacksOf (zlv hd rfl) ev4) mY_X10_lacksOf q_782 (Nat.le_of_ble_eq_true rfl) dX10_soonest_26 rfl rfl rfl ?_
        refine z_istore_n (q := 30) C dX10_soonest_29 (by decide) rfl rfl rfl ?_
        refine z_aload_n (q := 31) C dX10_soonest_30 1 rfl rfl rfl ?_
        refine z_getf (q := 34) C clX10 (zon C zo_0) kd_0 (k := 10) (by decide) q_281 rfl (zfv_r kd_0 rfl fr_0_10) dX10_soonest_31 rfl ?_
        refine z_aload_n (q := 35) C dX10_soonest_34 1 rfl rfl rfl ?_
        refine z_getf (q := 38) C clX10 (zon C zo_0) kd_0 (k := 1) (by decide) q_272 rfl (zfv_r kd_0 rfl fr_0_1) dX10_soonest_35 rfl ?_
        refine z_iload_n (q := 39) C dX10_soonest_38 0 rfl rfl rfl ?_
        refine z_aload_n (q := 40) C dX10_soonest_39 1 rfl rfl rfl ?_
        refine z_getf (q := 43) C clX10 (zon C zo_0) kd_0 (k := 6) (by decide) q_277 rfl (zfv_r kd_0 rfl fr_0_6) dX10_soonest_40 rfl ?_
        refine z_callV (q := 46) (o := 7) (av := []) (rest := [.int (zi v4), .ref (zα κ 2), .ref (zα κ 11)]) (stk2 := [.int (zi (fX8_time 7 h)), .int (zi v4), .ref (zα κ 2), .ref (zα κ 11)]) C hR clX8 (zon C zo_7) kd_7 (M_fX8_time (zlv hd rfl) zo_7 kd_7 rfl) mY_X8_time q_648 (Nat.le_of_ble_eq_true rfl) dX10_soonest_43 rfl rfl rfl ?_
        obtain ⟨v6, h5, ev6, hF⟩ := z2_e hF
        refine z_callV (q := 49) (o := 11) (av := [.ref (zα κ 2), .int (zi v4), .int (zi (fX8_time 7 h))]) (rest := []) (stk2 := [.int (zi v6)]) C hR clX3 (zon C zo_11) kd_11 (M_fX3_hours (zlv hd rfl) zo_2 kd_2 ev6) mY_X3_hours q_903 (Nat.le_of_ble_eq_true rfl) dX10_soonest_46 rfl rfl rfl ?_
        refine z_istore (q := 51) C dX10_soonest_49 (by decide) rfl rfl ?_
        refine z_iload (q := 53) C dX10_soonest_51 0 rfl rfl ?_
        refine z_iconst (q := 54) C dX10_soonest_53 rfl ?_
        refine z_icmp_eq (tgt := 61) (q := 57) C dX10_soonest_54 (by decide) rfl (fun c7 => ?_) (fun c7 => ?_)
        · have hF := (if_pos c7).symm.trans hF
          refine z_iload (q := 63) C dX10_soonest_61 0 rfl rfl ?_
          have hF := Option.some.inj hF
          subst hF
          exact z_iret C e1 e2 dX10_soonest_63
        · have hF := (if_neg c7).symm.trans hF
          refine z_iload_n (q := 58) C dX10_soonest_57 4 rfl rfl rfl ?_
          refine z_if_ne (tgt := 64) (q := 61) C dX10_soonest_58 (by decide) rfl (fun c8 => ?_) (fun c8 => ?_)
          · have hF := (if_neg c8).symm.trans hF
            refine z_iload_n (q := 65) C dX10_soonest_64 4 rfl rfl rfl ?_
            refine z_iconst (q := 66) C dX10_soonest_65 rfl ?_
            refine z_icmp_ne (tgt := 91) (q := 69) C dX10_soonest_66 (by decide) rfl (fun c9 => ?_) (fun c9 => ?_)
            · have hF := (if_neg c9).symm.trans hF
              refine z_aload_n (q := 92) C dX10_soonest_91 2 rfl rfl rfl ?_
              refine z_getf (q := 95) C clX10 (zon C zo_0) kd_0 (k := 1) (by decide) q_272 rfl (zfv_r kd_0 rfl fr_0_1) dX10_soonest_92 rfl ?_
              refine z_iload_n (q := 96) C dX10_soonest_95 1 rfl rfl rfl ?_
              obtain ⟨v12, ev12, hF⟩ := zb_e hF
              refine z_callV (q := 99) (o := 2) (av := [.int (zi v4)]) (rest := []) (stk2 := [.int (zi v12)]) C hR clX1 (zon C zo_2) kd_2 (M_fX1_fees (zlv hd rfl) zo_2 kd_2 ev12) mY_X1_fees q_912 (Nat.le_of_ble_eq_true rfl) dX10_soonest_96 rfl rfl rfl ?_
              have hF := Option.some.inj hF
              subst hF
              exact z_iret C e1 e2 dX10_soonest_99
            · have hF := (if_pos c9).symm.trans hF
              refine z_aload_n (q := 70) C dX10_soonest_69 2 rfl rfl rfl ?_
              refine z_getf (q := 73) C clX10 (zon C zo_0) kd_0 (k := 10) (by decide) q_281 rfl (zfv_r kd_0 rfl fr_0_10) dX10_soonest_70 rfl ?_
              refine z_aload_n (q := 74) C dX10_soonest_73 2 rfl rfl rfl ?_
              refine z_getf (q := 77) C clX10 (zon C zo_0) kd_0 (k := 1) (by decide) q_272 rfl (zfv_r kd_0 rfl fr_0_1) dX10_soonest_74 rfl ?_
              refine z_iload_n (q := 78) C dX10_soonest_77 1 rfl rfl rfl ?_
              refine z_aload_n (q := 79) C dX10_soonest_78 2 rfl rfl rfl ?_
              refine z_getf (q := 82) C clX10 (zon C zo_0) kd_0 (k := 6) (by decide) q_277 rfl (zfv_r kd_0 rfl fr_0_6) dX10_soonest_79 rfl ?_
              refine z_callV (q := 85) (o := 7) (av := []) (rest := [.int (zi v4), .ref (zα κ 2), .ref (zα κ 11)]) (stk2 := [.int (zi (fX8_time 7 h5)), .int (zi v4), .ref (zα κ 2), .ref (zα κ 11)]) C hR clX8 (zon C zo_7) kd_7 (M_fX8_time (zlv hd rfl) zo_7 kd_7 rfl) mY_X8_time q_648 (Nat.le_of_ble_eq_true rfl) dX10_soonest_82 rfl rfl rfl ?_
              obtain ⟨v11, h10, ev11, hF⟩ := z2_e hF
              refine z_callV (q := 88) (o := 11) (av := [.ref (zα κ 2), .int (zi v4), .int (zi (fX8_time 7 h5))]) (rest := []) (stk2 := [.int (zi v11)]) C hR clX3 (zon C zo_11) kd_11 (M_fX3_row (zlv hd rfl) zo_2 kd_2 ev11) mY_X3_row q_907 (Nat.le_of_ble_eq_true rfl) dX10_soonest_85 rfl rfl rfl ?_
              refine z_goto (q := 99) C dX10_soonest_88 (by decide) ?_
              have hF := Option.some.inj hF
              subst hF
              exact z_iret C e1 e2 dX10_soonest_99
          · have hF := (if_pos c8).symm.trans hF
            refine z_iload (q := 63) C dX10_soonest_61 0 rfl rfl ?_
            have hF := Option.some.inj hF
            subst hF
            exact z_iret C e1 e2 dX10_soonest_63
      · have hF := (if_neg c3).symm.trans hF
        refine z_iconst (q := 22) C dX10_soonest_21 rfl ?_
        have hF := Option.some.inj hF
        subst hF
        exact z_iret C e1 e2 dX10_soonest_22
set_option maxRecDepth 20000 in
set_option maxHeartbeats 4000000 in
theorem M_fX10_soonest {l : Launch} {D : va_G} {cy : ClassId} {α : Nat → Nat} {n : Nat} {σ : zSg} {d : Nat} (hd : 66 ≤ d) {N : Nat} {a1 : Int} {a2 : Int} {h : zH} {r : Int} {g : zH} (hF : fX10_soonest N a1 a2 h = some (r, g)) : zMet l yX10_soonest cX10_soonest 5 (some .int) (zrm d) D cy α n σ [.ref (α 0), .int (zi a1), .int (zi a2)] h (some (.int (zi r))) g := by
  obtain ⟨d, rfl⟩ : ∃ e, d = e + 1 := ⟨d - 1, by omega⟩
  refine z_met (by decide +kernel) (Nat.le_of_ble_eq_true rfl) (fun κ k1 k2 k3 k4 k5 k6 k7 k8 k9 C => ?_)
  subst k1 k3 k4 k5 k6 k7
  exact J_fX10_soonest C k2 hd k8 k9 hF
set_option maxRecDepth 20000 in
set_option maxHeartbeats 4000000 in
theorem J_fX10_hasRow {κ : zT} (C : zC κ RX10 cX10_hasRow 3 (some .boolean)) {d : Nat} (hR : zR κ = zrm (d + 1)) (hd : 65 ≤ d + 1) {N : Nat} {r : Int × zH} (e1 : zrv κ = some (.int (zi r.1))) (e2 : zhf κ = r.2) {a1 : Int} {a2 : Int} {h : zH} (hF : fX10_hasRow N a1 a2 h = some r) : Z κ h 0 [(0, .ref (zα κ 0)), (1, .int (zi a1)), (2, .int (zi a2))] [] := by
  unfold fX10_hasRow at hF
  refine z_aload_n (q := 1) C dX10_hasRow_0 0 rfl rfl rfl ?_
  refine z_getf (q := 4) C clX10 (zon C zo_0) kd_0 (k := 10) (by decide) q_281 rfl (zfv_r kd_0 rfl fr_0_10) dX10_hasRow_1 rfl ?_
  refine z_aload_n (q := 5) C dX10_hasRow_4 0 rfl rfl rfl ?_
  refine z_getf (q := 8) C clX10 (zon C zo_0) kd_0 (k := 1) (by decide) q_272 rfl (zfv_r kd_0 rfl fr_0_1) dX10_hasRow_5 rfl ?_
  refine z_aload_n (q := 9) C dX10_hasRow_8 0 rfl rfl rfl ?_
  refine z_iload_n (q := 10) C dX10_hasRow_9 1 rfl rfl rfl ?_
  refine z_iload_n (q := 11) C dX10_hasRow_10 2 rfl rfl rfl ?_
  obtain ⟨v1, ev1, hF⟩ := zb_e hF
  refine z_callV (q := 14) (o := 0) (av := [.int (zi a1), .int (zi a2)]) (rest := [.ref (zα κ 2), .ref (zα κ 11)]) (stk2 := [.int (zi v1), .ref (zα κ 2), .ref (zα κ 11)]) C hR clX10 (zon C zo_0) kd_0 (M_fX10_lacksOf (zlv hd rfl) ev1) mY_X10_lacksOf q_782 (Nat.le_of_ble_eq_true rfl) dX10_hasRow_11 rfl rfl rfl ?_
  refine z_aload_n (q := 15) C dX10_hasRow_14 0 rfl rfl rfl ?_
  refine z_getf (q := 18) C clX10 (zon C zo_0) kd_0 (k := 6) (by decide) q_277 rfl (zfv_r kd_0 rfl fr_0_6) dX10_hasRow_15 rfl ?_
  refine z_callV (q := 21) (o := 7) (av := []) (rest := [.int (zi v1), .ref (zα κ 2), .ref (zα κ 11)]) (stk2 := [.int (zi (fX8_time 7 h)), .int (zi v1), .ref (zα κ 2), .ref (zα κ 11)]) C hR clX8 (zon C zo_7) kd_7 (M_fX8_time (zlv hd rfl) zo_7 kd_7 rfl) mY_X8_time q_648 (Nat.le_of_ble_eq_true rfl) dX10_hasRow_18 rfl rfl rfl ?_
  obtain ⟨v3, h2, ev3, hF⟩ := z2_e hF
  refine z_callV (q := 24) (o := 11) (av := [.ref (zα κ 2), .int (zi v1), .int (zi (fX8_time 7 h))]) (rest := []) (stk2 := [.int (zi v3)]) C hR clX3 (zon C zo_11) kd_11 (M_fX3_hours (zlv hd rfl) zo_2 kd_2 ev3) mY_X3_hours q_903 (Nat.le_of_ble_eq_true rfl) dX10_hasRow_21 rfl rfl rfl ?_
  refine z_iconst (q := 25) C dX10_hasRow_24 rfl ?_
  refine z_icmp_eq (tgt := 32) (q := 28) C dX10_hasRow_25 (by decide) rfl (fun c4 => ?_) (fun c4 => ?_)
  · have hF := (if_pos c4).symm.trans hF
    refine z_iconst (q := 33) C dX10_hasRow_32 rfl ?_
    have hF := Option.some.inj hF
    subst hF
    exact z_zret C (zb01 (Or.inl rfl)) e1 e2 dX10_hasRow_33
  · have hF := (if_neg c4).symm.trans hF
    refine z_iconst (q := 29) C dX10_hasRow_28 rfl ?_
    refine z_goto (q := 33) C dX10_hasRow_29 (by decide) ?_
    have hF := Option.some.inj hF
    subst hF
    exact z_zret C (zb01 (Or.inr rfl)) e1 e2 dX10_hasRow_33
set_option maxRecDepth 20000 in
set_option maxHeartbeats 4000000 in
theorem M_fX10_hasRow {l : Launch} {D : va_G} {cy : ClassId} {α : Nat → Nat} {n : Nat} {σ : zSg} {d : Nat} (hd : 65 ≤ d) {N : Nat} {a1 : Int} {a2 : Int} {h : zH} {r : Int} {g : zH} (hF : fX10_hasRow N a1 a2 h = some (r, g)) : zMet l yX10_hasRow cX10_hasRow 3 (some .boolean) (zrm d) D cy α n σ [.ref (α 0), .int (zi a1), .int (zi a2)] h (some (.int (zi r))) g := by
  obtain ⟨d, rfl⟩ : ∃ e, d = e + 1 := ⟨d - 1, by omega⟩
  refine z_met (by decide +kernel) (Nat.le_of_ble_eq_true rfl) (fun κ k1 k2 k3 k4 k5 k6 k7 k8 k9 C => ?_)
  subst k1 k3 k4 k5 k6 k7
  exact J_fX10_hasRow C k2 hd k8 k9 hF
set_option maxRecDepth 20000 in
set_option maxHeartbeats 4000000 in
theorem J_fX10_waived_c27b {κ : zT} (C : zC κ RX10 cX10_waived 3 (some .int)) {d : Nat} (hR : zR κ = zrm (d + 1)) (hd : 66 ≤ d + 1) {N : Nat} {r : Int × zH} (e1 : zrv κ = some (.int (zi r.1))) (e2 : zhf κ = r.2) {K27 : Int → Int → zH → Option (Int × zH)} (hK27 : ∀ (l1 : Int) (l2 : Int) (h : zH), K27 l1 l2 h = some r → Z κ h 27 [(0, .ref (zα κ 0)), (1, .int (zi l1)), (2, .int (zi l2))] []) (l1 : Int) (l2 : Int) (h : zH) (hF : fX10_waived_c27b N K27 l1 l2 h = some r) : Z κ h 27 [(0, .ref (zα κ 0)), (1, .int (zi l1)), (2, .int (zi l2))] [] := by
  unfold fX10_waived_c27b at hF
  refine z_iload_n (q := 28) C dX10_waived_27 2 rfl rfl rfl ?_
  refine z_aload_n (q := 29) C dX10_waived_28 0 rfl rfl rfl ?_
  refine z_getf (q := 32) C clX10 (zon C zo_0) kd_0 (k := 1) (by decide) q_272 rfl (zfv_r kd_0 rfl fr_0_1) dX10_waived_29 rfl ?_
  refine z_iconst (q := 33) C dX10_waived_32 rfl ?_
  refine z_callV (q := 36) (o := 2) (av := [.int (zi 3)]) (rest := [.int (zi l2)]) (stk2 := [.int (zi (fX1_many 2 3 h)), .int (zi l2)]) C hR clX1 (zon C zo_2) kd_2 (M_fX1_many (zlv hd rfl) zo_2 kd_2 rfl) mY_X1_many q_620 (Nat.le_of_ble_eq_true rfl) dX10_waived_33 rfl rfl rfl ?_
  refine z_icmp_ge (tgt := 60) (q := 39) C dX10_waived_36 (by decide) rfl (fun c1 => ?_) (fun c1 => ?_)
  · have hF := (if_pos c1).symm.trans hF
    refine z_iconst (q := 61) C dX10_waived_60 rfl ?_
    have hF := Option.some.inj hF
    subst hF
    exact z_iret C e1 e2 dX10_waived_61
  · have hF := (if_neg c1).symm.trans hF
    refine z_aload_n (q := 40) C dX10_waived_39 0 rfl rfl rfl ?_
    refine z_iload_n (q := 41) C dX10_waived_40 1 rfl rfl rfl ?_
    refine z_iconst (q := 42) C dX10_waived_41 rfl ?_
    refine z_iload_n (q := 43) C dX10_waived_42 2 rfl rfl rfl ?_
    refine z_ishl (q := 44) C dX10_waived_43 rfl ?_
    obtain ⟨v3, h2, ev3, hF⟩ := z2_e hF
    refine z_callV (q := 47) (o := 0) (av := [.int (zi l1), .int (zi (zshl 1 l2))]) (rest := []) (stk2 := [.int (zi v3)]) C hR clX10 (zon C zo_0) kd_0 (M_fX10_hasRow (zlv hd rfl) ev3) mY_X10_hasRow q_920 (Nat.le_of_ble_eq_true rfl) dX10_waived_44 rfl rfl rfl ?_
    refine z_if_eq (tgt := 54) (q := 50) C dX10_waived_47 (by decide) rfl (fun c4 => ?_) (fun c4 => ?_)
    · have hF := (if_pos c4).symm.trans hF
      refine z_iinc (q := 57) (x := l2) C dX10_waived_54 (j := 2) rfl (by decide) rfl rfl ?_
      refine z_goto (q := 27) C dX10_waived_57 (by decide) ?_
      exact z_sub (hK27 _ _ _ hF) [1, 2, 0] rfl
    · have hF := (if_neg c4).symm.trans hF
      refine z_iconst (q := 51) C dX10_waived_50 rfl ?_
      refine z_iload_n (q := 52) C dX10_waived_51 2 rfl rfl rfl ?_
      refine z_ishl (q := 53) C dX10_waived_52 rfl ?_
      have hF := Option.some.inj hF
      subst hF
      exact z_iret C e1 e2 dX10_waived_53
set_option maxRecDepth 20000 in
set_option maxHeartbeats 4000000 in
theorem J_fX10_waived_c27 {κ : zT} (C : zC κ RX10 cX10_waived 3 (some .int)) {d : Nat} (hR : zR κ = zrm (d + 1)) (hd : 66 ≤ d + 1) {N : Nat} {r : Int × zH} (e1 : zrv κ = some (.int (zi r.1))) (e2 : zhf κ = r.2) : ∀ (k : Nat) (l1 : Int) (l2 : Int) (h : zH), fX10_waived_c27 N k l1 l2 h = some r → Z κ h 27 [(0, .ref (zα κ 0)), (1, .int (zi l1)), (2, .int (zi l2))] [] := by
  intro k
  induction k with
  | zero => intro l1 l2 h hF; cases hF
  | succ k ih => intro l1 l2 h hF; exact J_fX10_waived_c27b C hR hd e1 e2 ih l1 l2 h hF
set_option maxRecDepth 20000 in
set_option maxHeartbeats 4000000 in
theorem J_fX10_waived {κ : zT} (C : zC κ RX10 cX10_waived 3 (some .int)) {d : Nat} (hR : zR κ = zrm (d + 1)) (hd : 66 ≤ d + 1) {N : Nat} {r : Int × zH} (e1 : zrv κ = some (.int (zi r.1))) (e2 : zhf κ = r.2) {a1 : Int} {h : zH} (hF : fX10_waived N a1 h = some r) : Z κ h 0 [(0, .ref (zα κ 0)), (1, .int (zi a1))] [] := by
  unfold fX10_waived at hF
  refine z_aload_n (q := 1) C dX10_waived_0 0 rfl rfl rfl ?_
  refine z_getf (q := 4) C clX10 (zon C zo_0) kd_0 (k := 1) (by decide) q_272 rfl (zfv_r kd_0 rfl fr_0_1) dX10_waived_1 rfl ?_
  refine z_iconst (q := 5) C dX10_waived_4 rfl ?_
  refine z_iload_n (q := 6) C dX10_waived_5 1 rfl rfl rfl ?_
  refine z_callV (q := 9) (o := 2) (av := [.int (zi 1), .int (zi a1)]) (rest := []) (stk2 := [.int (zi (fX1_has 2 1 a1 h))]) C hR clX1 (zon C zo_2) kd_2 (M_fX1_has (zlv hd rfl) zo_2 kd_2 rfl) mY_X1_has q_634 (Nat.le_of_ble_eq_true rfl) dX10_waived_6 rfl rfl rfl ?_
  refine z_if_ne (tgt := 14) (q := 12) C dX10_waived_9 (by decide) rfl (fun c1 => ?_) (fun c1 => ?_)
  · have hF := (if_neg c1).symm.trans hF
    refine z_aload_n (q := 15) C dX10_waived_14 0 rfl rfl rfl ?_
    refine z_iload_n (q := 16) C dX10_waived_15 1 rfl rfl rfl ?_
    refine z_iconst (q := 17) C dX10_waived_16 rfl ?_
    obtain ⟨v3, h2, ev3, hF⟩ := z2_e hF
    refine z_callV (q := 20) (o := 0) (av := [.int (zi a1), .int (zi 0)]) (rest := []) (stk2 := [.int (zi v3)]) C hR clX10 (zon C zo_0) kd_0 (M_fX10_hasRow (zlv hd rfl) ev3) mY_X10_hasRow q_920 (Nat.le_of_ble_eq_true rfl) dX10_waived_17 rfl rfl rfl ?_
    refine z_if_eq (tgt := 25) (q := 23) C dX10_waived_20 (by decide) rfl (fun c4 => ?_) (fun c4 => ?_)
    · have hF := (if_pos c4).symm.trans hF
      refine z_iconst (q := 26) C dX10_waived_25 rfl ?_
      refine z_istore_n (q := 27) C dX10_waived_26 (by decide) rfl rfl rfl ?_
      exact z_sub (J_fX10_waived_c27 C hR hd e1 e2 N _ _ _ hF) [1, 2, 0] rfl
    · have hF := (if_neg c4).symm.trans hF
      refine z_iconst (q := 24) C dX10_waived_23 rfl ?_
      have hF := Option.some.inj hF
      subst hF
      exact z_iret C e1 e2 dX10_waived_24
  · have hF := (if_pos c1).symm.trans hF
    refine z_iconst (q := 13) C dX10_waived_12 rfl ?_
    have hF := Option.some.inj hF
    subst hF
    exact z_iret C e1 e2 dX10_waived_13
set_option maxRecDepth 20000 in
set_option maxHeartbeats 4000000 in
theorem M_fX10_waived {l : Launch} {D : va_G} {cy : ClassId} {α : Nat → Nat} {n : Nat} {σ : zSg} {d : Nat} (hd : 66 ≤ d) {N : Nat} {a1 : Int} {h : zH} {r : Int} {g : zH} (hF : fX10_waived N a1 h = some (r, g)) : zMet l yX10_waived cX10_waived 3 (some .int) (zrm d) D cy α n σ [.ref (α 0), .int (zi a1)] h (some (.int (zi r))) g := by
  obtain ⟨d, rfl⟩ : ∃ e, d = e + 1 := ⟨d - 1, by omega⟩
  refine z_met (by decide +kernel) (Nat.le_of_ble_eq_true rfl) (fun κ k1 k2 k3 k4 k5 k6 k7 k8 k9 C => ?_)
  subst k1 k3 k4 k5 k6 k7
  exact J_fX10_waived C k2 hd k8 k9 hF
set_option maxRecDepth 20000 in
set_option maxHeartbeats 4000000 in
theorem J_fX10_earliest_c6b {κ : zT} (C : zC κ RX10 cX10_earliest 5 (some .int)) {d : Nat} (hR : zR κ = zrm (d + 1)) (hd : 65 ≤ d + 1) {N : Nat} {r : Int × zH} (e1 : zrv κ = some (.int (zi r.1))) (e2 : zhf κ = r.2) {K6 : Int → Int → Int → zH → Option (Int × zH)} (hK6 : ∀ (l1 : Int) (l2 : Int) (l3 : Int) (h : zH), K6 l1 l2 l3 h = some r → Z κ h 6 [(0, .ref (zα κ 0)), (1, .int (zi l1)), (2, .int (zi l2)), (3, .int (zi l3))] []) (l1 : Int) (l2 : Int) (l3 : Int) (h : zH) (hF : fX10_earliest_c6b N K6 l1 l2 l3 h = some r) : Z κ h 6 [(0, .ref (zα κ 0)), (1, .int (zi l1)), (2, .int (zi l2)), (3, .int (zi l3))] [] := by
  unfold fX10_earliest_c6b at hF
  refine z_iload_n (q := 7) C dX10_earliest_6 3 rfl rfl rfl ?_
  refine z_aload_n (q := 8) C dX10_earliest_7 0 rfl rfl rfl ?_
  refine z_getf (q := 11) C clX10 (zon C zo_0) kd_0 (k := 1) (by decide) q_272 rfl (zfv_r kd_0 rfl fr_0_1) dX10_earliest_8 rfl ?_
  refine z_iconst (q := 12) C dX10_earliest_11 rfl ?_
  refine z_callV (q := 15) (o := 2) (av := [.int (zi 1)]) (rest := [.int (zi l3)]) (stk2 := [.int (zi (fX1_many 2 1 h)), .int (zi l3)]) C hR clX1 (zon C zo_2) kd_2 (M_fX1_many (zlv hd rfl) zo_2 kd_2 rfl) mY_X1_many q_620 (Nat.le_of_ble_eq_true rfl) dX10_earliest_12 rfl rfl rfl ?_
  refine z_icmp_ge (tgt := 72) (q := 18) C dX10_earliest_15 (by decide) rfl (fun c1 => ?_) (fun c1 => ?_)
  · have hF := (if_pos c1).symm.trans hF
    refine z_iload_n (q := 73) C dX10_earliest_72 1 rfl rfl rfl ?_
    have hF := Option.some.inj hF
    subst hF
    exact z_iret C e1 e2 dX10_earliest_73
  · have hF := (if_neg c1).symm.trans hF
    refine z_aload_n (q := 19) C dX10_earliest_18 0 rfl rfl rfl ?_
    refine z_getf (q := 22) C clX10 (zon C zo_0) kd_0 (k := 10) (by decide) q_281 rfl (zfv_r kd_0 rfl fr_0_10) dX10_earliest_19 rfl ?_
    refine z_aload_n (q := 23) C dX10_earliest_22 0 rfl rfl rfl ?_
    refine z_getf (q := 26) C clX10 (zon C zo_0) kd_0 (k := 1) (by decide) q_272 rfl (zfv_r kd_0 rfl fr_0_1) dX10_earliest_23 rfl ?_
    refine z_aload_n (q := 27) C dX10_earliest_26 0 rfl rfl rfl ?_
    refine z_iload_n (q := 28) C dX10_earliest_27 3 rfl rfl rfl ?_
    refine z_iconst (q := 29) C dX10_earliest_28 rfl ?_
    obtain ⟨v2, ev2, hF⟩ := zb_e hF
    refine z_callV (q := 32) (o := 0) (av := [.int (zi l3), .int (zi 0)]) (rest := [.ref (zα κ 2), .ref (zα κ 11)]) (stk2 := [.int (zi v2), .ref (zα κ 2), .ref (zα κ 11)]) C hR clX10 (zon C zo_0) kd_0 (M_fX10_lacksOf (zlv hd rfl) ev2) mY_X10_lacksOf q_782 (Nat.le_of_ble_eq_true rfl) dX10_earliest_29 rfl rfl rfl ?_
    refine z_aload_n (q := 33) C dX10_earliest_32 0 rfl rfl rfl ?_
    refine z_getf (q := 36) C clX10 (zon C zo_0) kd_0 (k := 6) (by decide) q_277 rfl (zfv_r kd_0 rfl fr_0_6) dX10_earliest_33 rfl ?_
    refine z_callV (q := 39) (o := 7) (av := []) (rest := [.int (zi v2), .ref (zα κ 2), .ref (zα κ 11)]) (stk2 := [.int (zi (fX8_time 7 h)), .int (zi v2), .ref (zα κ 2), .ref (zα κ 11)]) C hR clX8 (zon C zo_7) kd_7 (M_fX8_time (zlv hd rfl) zo_7 kd_7 rfl) mY_X8_time q_648 (Nat.le_of_ble_eq_true rfl) dX10_earliest_36 rfl rfl rfl ?_
    obtain ⟨v4, h3, ev4, hF⟩ := z2_e hF
    refine z_callV (q := 42) (o := 11) (av := [.ref (zα κ 2), .int (zi v2), .int (zi (fX8_time 7 h))]) (rest := []) (stk2 := [.int (zi v4)]) C hR clX3 (zon C zo_11) kd_11 (M_fX3_hours (zlv hd rfl) zo_2 kd_2 ev4) mY_X3_hours q_903 (Nat.le_of_ble_eq_true rfl) dX10_earliest_39 rfl rfl rfl ?_
    refine z_istore (q := 44) C dX10_earliest_42 (by decide) rfl rfl ?_
    refine z_iload (q := 46) C dX10_earliest_44 0 rfl rfl ?_
    refine z_iconst (q := 47) C dX10_earliest_46 rfl ?_
    refine z_icmp_eq (tgt := 66) (q := 50) C dX10_earliest_47 (by decide) rfl (fun c5 => ?_) (fun c5 => ?_)
    · have hF := (if_pos c5).symm.trans hF
      refine z_iinc (q := 69) (x := l3) C dX10_earliest_66 (j := 4) rfl (by decide) rfl rfl ?_
      refine z_goto (q := 6) C dX10_earliest_69 (by decide) ?_
      exact z_sub (hK6 _ _ _ _ hF) [2, 3, 4, 0] rfl
    · have hF := (if_neg c5).symm.trans hF
      refine z_iload_n (q := 51) C dX10_earliest_50 2 rfl rfl rfl ?_
      refine z_iconst (q := 52) C dX10_earliest_51 rfl ?_
      refine z_icmp_eq (tgt := 61) (q := 55) C dX10_earliest_52 (by decide) rfl (fun c6 => ?_) (fun c6 => ?_)
      · have hF := (if_pos c6).symm.trans hF
        refine z_iload_n (q := 62) C dX10_earliest_61 4 rfl rfl rfl ?_
        refine z_istore_n (q := 63) C dX10_earliest_62 (by decide) rfl rfl rfl ?_
        refine z_iload (q := 65) C dX10_earliest_63 1 rfl rfl ?_
        refine z_istore_n (q := 66) C dX10_earliest_65 (by decide) rfl rfl rfl ?_
        refine z_iinc (q := 69) (x := l3) C dX10_earliest_66 (j := 4) rfl (by decide) rfl rfl ?_
        refine z_goto (q := 6) C dX10_earliest_69 (by decide) ?_
        exact z_sub (hK6 _ _ _ _ hF) [4, 2, 1, 0] rfl
      · have hF := (if_neg c6).symm.trans hF
        refine z_iload (q := 57) C dX10_earliest_55 0 rfl rfl ?_
        refine z_iload_n (q := 58) C dX10_earliest_57 3 rfl rfl rfl ?_
        refine z_icmp_ge (tgt := 66) (q := 61) C dX10_earliest_58 (by decide) rfl (fun c7 => ?_) (fun c7 => ?_)
        · have hF := (if_pos c7).symm.trans hF
          refine z_iinc (q := 69) (x := l3) C dX10_earliest_66 (j := 4) rfl (by decide) rfl rfl ?_
          refine z_goto (q := 6) C dX10_earliest_69 (by decide) ?_
          exact z_sub (hK6 _ _ _ _ hF) [2, 3, 4, 0] rfl
        · have hF := (if_neg c7).symm.trans hF
          refine z_iload_n (q := 62) C dX10_earliest_61 4 rfl rfl rfl ?_
          refine z_istore_n (q := 63) C dX10_earliest_62 (by decide) rfl rfl rfl ?_
          refine z_iload (q := 65) C dX10_earliest_63 1 rfl rfl ?_
          refine z_istore_n (q := 66) C dX10_earliest_65 (by decide) rfl rfl rfl ?_
          refine z_iinc (q := 69) (x := l3) C dX10_earliest_66 (j := 4) rfl (by decide) rfl rfl ?_
          refine z_goto (q := 6) C dX10_earliest_69 (by decide) ?_
          exact z_sub (hK6 _ _ _ _ hF) [4, 2, 1, 0] rfl
set_option maxRecDepth 20000 in
set_option maxHeartbeats 4000000 in
theorem J_fX10_earliest_c6 {κ : zT} (C : zC κ RX10 cX10_earliest 5 (some .int)) {d : Nat} (hR : zR κ = zrm (d + 1)) (hd : 65 ≤ d + 1) {N : Nat} {r : Int × zH} (e1 : zrv κ = some (.int (zi r.1))) (e2 : zhf κ = r.2) : ∀ (k : Nat) (l1 : Int) (l2 : Int) (l3 : Int) (h : zH), fX10_earliest_c6 N k l1 l2 l3 h = some r → Z κ h 6 [(0, .ref (zα κ 0)), (1, .int (zi l1)), (2, .int (zi l2)), (3, .int (zi l3))] [] := by
  intro k
  induction k with
  | zero => intro l1 l2 l3 h hF; cases hF
  | succ k ih => intro l1 l2 l3 h hF; exact J_fX10_earliest_c6b C hR hd e1 e2 ih l1 l2 l3 h hF
set_option maxRecDepth 20000 in
set_option maxHeartbeats 4000000 in
theorem J_fX10_earliest {κ : zT} (C : zC κ RX10 cX10_earliest 5 (some .int)) {d : Nat} (hR : zR κ = zrm (d + 1)) (hd : 65 ≤ d + 1) {N : Nat} {r : Int × zH} (e1 : zrv κ = some (.int (zi r.1))) (e2 : zhf κ = r.2) {h : zH} (hF : fX10_earliest N h = some r) : Z κ h 0 [(0, .ref (zα κ 0))] [] := by
  unfold fX10_earliest at hF
  refine z_iconst (q := 1) C dX10_earliest_0 rfl ?_
  refine z_istore_n (q := 2) C dX10_earliest_1 (by decide) rfl rfl rfl ?_
  refine z_iconst (q := 3) C dX10_earliest_2 rfl ?_
  refine z_istore_n (q := 4) C dX10_earliest_3 (by decide) rfl rfl rfl ?_
  refine z_iconst (q := 5) C dX10_earliest_4 rfl ?_
  refine z_istore_n (q := 6) C dX10_earliest_5 (by decide) rfl rfl rfl ?_
  exact z_sub (J_fX10_earliest_c6 C hR hd e1 e2 N _ _ _ _ hF) [3, 2, 1, 0] rfl
set_option maxRecDepth 20000 in
set_option maxHeartbeats 4000000 in
theorem M_fX10_earliest {l : Launch} {D : va_G} {cy : ClassId} {α : Nat → Nat} {n : Nat} {σ : zSg} {d : Nat} (hd : 65 ≤ d) {N : Nat} {h : zH} {r : Int} {g : zH} (hF : fX10_earliest N h = some (r, g)) : zMet l yX10_earliest cX10_earliest 5 (some .int) (zrm d) D cy α n σ [.ref (α 0)] h (some (.int (zi r))) g := by
  obtain ⟨d, rfl⟩ : ∃ e, d = e + 1 := ⟨d - 1, by omega⟩
  refine z_met (by decide +kernel) (Nat.le_of_ble_eq_true rfl) (fun κ k1 k2 k3 k4 k5 k6 k7 k8 k9 C => ?_)
  subst k1 k3 k4 k5 k6 k7
  exact J_fX10_earliest C k2 hd k8 k9 hF
set_option maxRecDepth 20000 in
set_option maxHeartbeats 4000000 in
theorem J_fX6_formsOf_c4b {κ : zT} (C : zC κ RX6 cX6_formsOf 3 (some .int)) {d : Nat} (hR : zR κ = zrm (d + 1)) (hd : 3 ≤ d + 1) {N : Nat} {o0 : Nat} (ho0 : o0 < zN) (hd0 : zkd o0 = 1) {h : zH} {r : Int} (e1 : zrv κ = some (.int (zi r))) (e2 : zhf κ = h) {K4 : Int → Int → Option Int} (hK4 : ∀ (l1 : Int) (l2 : Int), K4 l1 l2 = some r → Z κ h 4 [(0, .ref (zα κ o0)), (1, .int (zi l1)), (2, .int (zi l2))] []) (l1 : Int) (l2 : Int) (hF : fX6_formsOf_c4b N o0 h K4 l1 l2 = some r) : Z κ h 4 [(0, .ref (zα κ o0)), (1, .int (zi l1)), (2, .int (zi l2))] [] := by
  unfold fX6_formsOf_c4b at hF
  refine z_iload_n (q := 5) C dX6_formsOf_4 2 rfl rfl rfl ?_
  refine z_aload_n (q := 6) C dX6_formsOf_5 0 rfl rfl rfl ?_
  refine z_iconst (q := 7) C dX6_formsOf_6 rfl ?_
  refine z_callV (q := 10) (o := o0) (av := [.int (zi 1)]) (rest := [.int (zi l2)]) (stk2 := [.int (zi (fX1_many o0 1 h)), .int (zi l2)]) C hR clX1 (zon C ho0) hd0 (M_fX1_many (zlv hd rfl) ho0 hd0 rfl) mY_X1_many q_939 (Nat.le_of_ble_eq_true rfl) dX6_formsOf_7 rfl rfl rfl ?_
  refine z_icmp_ge (tgt := 31) (q := 13) C dX6_formsOf_10 (by decide) rfl (fun c1 => ?_) (fun c1 => ?_)
  · have hF := (if_pos c1).symm.trans hF
    refine z_iload_n (q := 32) C dX6_formsOf_31 1 rfl rfl rfl ?_
    have hF := Option.some.inj hF
    subst hF
    exact z_iret C e1 e2 dX6_formsOf_32
  · have hF := (if_neg c1).symm.trans hF
    refine z_iload_n (q := 14) C dX6_formsOf_13 1 rfl rfl rfl ?_
    refine z_iconst (q := 15) C dX6_formsOf_14 rfl ?_
    refine z_aload_n (q := 16) C dX6_formsOf_15 0 rfl rfl rfl ?_
    refine z_iconst (q := 17) C dX6_formsOf_16 rfl ?_
    refine z_iload_n (q := 18) C dX6_formsOf_17 2 rfl rfl rfl ?_
    refine z_iconst (q := 19) C dX6_formsOf_18 rfl ?_
    refine z_callV (q := 22) (o := o0) (av := [.int (zi 1), .int (zi l2), .int (zi 0)]) (rest := [.int (zi 1), .int (zi l1)]) (stk2 := [.int (zi (fX1_item o0 1 l2 0 h)), .int (zi 1), .int (zi l1)]) C hR clX1 (zon C ho0) hd0 (M_fX1_item (zlv hd rfl) ho0 hd0 rfl) mY_X1_item q_940 (Nat.le_of_ble_eq_true rfl) dX6_formsOf_19 rfl rfl rfl ?_
    refine z_ishl (q := 23) C dX6_formsOf_22 rfl ?_
    refine z_ior (q := 24) C dX6_formsOf_23 rfl ?_
    obtain ⟨v2, ev2, hF⟩ := zlet_e hF
    refine z_istoreE_n (q := 25) C ev2 dX6_formsOf_24 (by decide) rfl rfl rfl ?_
    refine z_iinc (q := 28) (x := l2) C dX6_formsOf_25 (j := 2) rfl (by decide) rfl rfl ?_
    refine z_goto (q := 4) C dX6_formsOf_28 (by decide) ?_
    exact z_sub (hK4 _ _ hF) [2, 1, 0] rfl
set_option maxRecDepth 20000 in
set_option maxHeartbeats 4000000 in
theorem J_fX6_formsOf_c4 {κ : zT} (C : zC κ RX6 cX6_formsOf 3 (some .int)) {d : Nat} (hR : zR κ = zrm (d + 1)) (hd : 3 ≤ d + 1) {N : Nat} {o0 : Nat} (ho0 : o0 < zN) (hd0 : zkd o0 = 1) {h : zH} {r : Int} (e1 : zrv κ = some (.int (zi r))) (e2 : zhf κ = h) : ∀ (k : Nat) (l1 : Int) (l2 : Int), fX6_formsOf_c4 N o0 h k l1 l2 = some r → Z κ h 4 [(0, .ref (zα κ o0)), (1, .int (zi l1)), (2, .int (zi l2))] [] := by
  intro k
  induction k with
  | zero => intro l1 l2 hF; cases hF
  | succ k ih => intro l1 l2 hF; exact J_fX6_formsOf_c4b C hR hd ho0 hd0 e1 e2 ih l1 l2 hF
set_option maxRecDepth 20000 in
set_option maxHeartbeats 4000000 in
theorem J_fX6_formsOf {κ : zT} (C : zC κ RX6 cX6_formsOf 3 (some .int)) {d : Nat} (hR : zR κ = zrm (d + 1)) (hd : 3 ≤ d + 1) {N : Nat} {o0 : Nat} (ho0 : o0 < zN) (hd0 : zkd o0 = 1) {h : zH} {r : Int} (e1 : zrv κ = some (.int (zi r))) (e2 : zhf κ = h) (hF : fX6_formsOf N o0 h = some r) : Z κ h 0 [(0, .ref (zα κ o0))] [] := by
  unfold fX6_formsOf at hF
  refine z_iconst (q := 1) C dX6_formsOf_0 rfl ?_
  refine z_istore_n (q := 2) C dX6_formsOf_1 (by decide) rfl rfl rfl ?_
  refine z_iconst (q := 3) C dX6_formsOf_2 rfl ?_
  refine z_istore_n (q := 4) C dX6_formsOf_3 (by decide) rfl rfl rfl ?_
  exact z_sub (J_fX6_formsOf_c4 C hR hd ho0 hd0 e1 e2 N _ _ hF) [2, 1, 0] rfl
set_option maxRecDepth 20000 in
set_option maxHeartbeats 4000000 in
theorem M_fX6_formsOf {l : Launch} {D : va_G} {cy : ClassId} {α : Nat → Nat} {n : Nat} {σ : zSg} {d : Nat} (hd : 3 ≤ d) {N : Nat} {o0 : Nat} (ho0 : o0 < zN) (hd0 : zkd o0 = 1) {h : zH} {r : Int} (hF : fX6_formsOf N o0 h = some r) : zMet l yX6_formsOf cX6_formsOf 3 (some .int) (zrm d) D cy α n σ [.ref (α o0)] h (some (.int (zi r))) h := by
  obtain ⟨d, rfl⟩ : ∃ e, d = e + 1 := ⟨d - 1, by omega⟩
  refine z_met (by decide +kernel) (Nat.le_of_ble_eq_true rfl) (fun κ k1 k2 k3 k4 k5 k6 k7 k8 k9 C => ?_)
  subst k1 k3 k4 k5 k6 k7
  exact J_fX6_formsOf C k2 hd ho0 hd0 k8 k9 hF
set_option maxRecDepth 20000 in
set_option maxHeartbeats 4000000 in
theorem J_fX6_choose_c17b {κ : zT} (C : zC κ RX6 cX6_choose 6 (some .boolean)) {d : Nat} (hR : zR κ = zrm (d + 1)) (hd : 4 ≤ d + 1) {N : Nat} {o1 : Nat} (ho1 : o1 < zN) (hd1 : zkd o1 = 1) {r : Int × zH} (e1 : zrv κ = some (.int (zi r.1))) (e2 : zhf κ = r.2) {K17 : Int → Int → Int → Int → zH → Option (Int × zH)} (hK17 : ∀ (l2 : Int) (l3 : Int) (l4 : Int) (l5 : Int) (h : zH), K17 l2 l3 l4 l5 h = some r → Z κ h 17 [(0, .ref (zα κ 12)), (2, .int (zi l2)), (3, .int (zi l3)), (4, .int (zi l4)), (5, .int (zi l5))] []) (l2 : Int) (l3 : Int) (l4 : Int) (l5 : Int) (h : zH) (hF : fX6_choose_c17b N o1 K17 l2 l3 l4 l5 h = some r) : Z κ h 17 [(0, .ref (zα κ 12)), (2, .int (zi l2)), (3, .int (zi l3)), (4, .int (zi l4)), (5, .int (zi l5))] [] := by
  unfold fX6_choose_c17b at hF
  refine z_iload (q := 19) C dX6_choose_17 4 rfl rfl ?_
  refine z_if_lt (tgt := 67) (q := 22) C dX6_choose_19 (by decide) rfl (fun c1 => ?_) (fun c1 => ?_)
  · have hF := (if_pos c1).symm.trans hF
    refine z_iload (q := 69) C dX6_choose_67 3 rfl rfl ?_
    refine z_if_ne (tgt := 76) (q := 72) C dX6_choose_69 (by decide) rfl (fun c2 => ?_) (fun c2 => ?_)
    · have hF := (if_neg c2).symm.trans hF
      refine z_iconst (q := 77) C dX6_choose_76 rfl ?_
      have hF := Option.some.inj hF
      subst hF
      exact z_zret C (zb01 (Or.inl rfl)) e1 e2 dX6_choose_77
    · have hF := (if_pos c2).symm.trans hF
      refine z_iconst (q := 73) C dX6_choose_72 rfl ?_
      refine z_goto (q := 77) C dX6_choose_73 (by decide) ?_
      have hF := Option.some.inj hF
      subst hF
      exact z_zret C (zb01 (Or.inr rfl)) e1 e2 dX6_choose_77
  · have hF := (if_neg c1).symm.trans hF
    refine z_iload_n (q := 23) C dX6_choose_22 1 rfl rfl rfl ?_
    refine z_if_lt (tgt := 38) (q := 26) C dX6_choose_23 (by decide) rfl (fun c3 => ?_) (fun c3 => ?_)
    · have hF := (if_pos c3).symm.trans hF
      refine z_iconst (q := 39) C dX6_choose_38 rfl ?_
      have hF := Option.some.inj hF
      subst hF
      exact z_zret C (zb01 (Or.inl rfl)) e1 e2 dX6_choose_39
    · have hF := (if_neg c3).symm.trans hF
      refine z_iload_n (q := 27) C dX6_choose_26 2 rfl rfl rfl ?_
      refine z_iload (q := 29) C dX6_choose_27 3 rfl rfl ?_
      refine z_bipush (q := 31) C dX6_choose_29 bp_10 rfl ?_
      refine z_irem (q := 32) C (by decide) dX6_choose_31 rfl ?_
      refine z_callSN (q := 35) (av := [.int (zi l3), .int (zi (zrem l4 10))]) (rest := []) (stk2 := [.int (zi (fX10_isIn l3 (zrem l4 10)))]) C hR (M_fX10_isIn (zlv hd rfl) rfl) mY_X10_isIn q_941 (Nat.le_of_ble_eq_true rfl) dX6_choose_32 rfl rfl rfl ?_
      refine z_if_ne (tgt := 40) (q := 38) C dX6_choose_35 (by decide) rfl (fun c4 => ?_) (fun c4 => ?_)
      · have hF := (if_neg c4).symm.trans hF
        refine z_aload_n (q := 41) C dX6_choose_40 0 rfl rfl rfl ?_
        refine z_getf (q := 44) C clX6 (zon C zo_12) kd_12 (k := 0) (by decide) q_231 rfl (zfv_r kd_12 rfl fr_12_0) dX6_choose_41 rfl ?_
        refine z_iload (q := 46) C dX6_choose_44 4 rfl rfl ?_
        refine z_iload (q := 48) C dX6_choose_46 3 rfl rfl ?_
        refine z_bipush (q := 50) C dX6_choose_48 bp_10 rfl ?_
        refine z_irem (q := 51) C (by decide) dX6_choose_50 rfl ?_
        obtain ⟨h5, eh5, hF⟩ := zlet_e hF
        refine z_callSN (q := 54) (av := [.ref (zα κ 44), .int (zi l5), .int (zi (zrem l4 10))]) (rest := []) (stk2 := []) C hR (M_fX10_put (zlv hd rfl) zo_44 kd_44 eh5.symm) mY_X10_put q_942 (Nat.le_of_ble_eq_true rfl) dX6_choose_51 rfl rfl rfl ?_
        refine z_iload (q := 56) C dX6_choose_54 3 rfl rfl ?_
        refine z_bipush (q := 58) C dX6_choose_56 bp_10 rfl ?_
        refine z_idiv (q := 59) C (by decide) dX6_choose_58 rfl ?_
        refine z_istore (q := 61) C dX6_choose_59 (by decide) rfl rfl ?_
        refine z_iinc (q := 64) (x := l5) C dX6_choose_61 (j := 4) rfl (by decide) rfl rfl ?_
        refine z_goto (q := 17) C dX6_choose_64 (by decide) ?_
        exact z_sub (hK17 _ _ _ _ _ hF) [2, 3, 4, 1, 0] rfl
      · have hF := (if_pos c4).symm.trans hF
        refine z_iconst (q := 39) C dX6_choose_38 rfl ?_
        have hF := Option.some.inj hF
        subst hF
        exact z_zret C (zb01 (Or.inl rfl)) e1 e2 dX6_choose_39
set_option maxRecDepth 20000 in
set_option maxHeartbeats 4000000 in
theorem J_fX6_choose_c17 {κ : zT} (C : zC κ RX6 cX6_choose 6 (some .boolean)) {d : Nat} (hR : zR κ = zrm (d + 1)) (hd : 4 ≤ d + 1) {N : Nat} {o1 : Nat} (ho1 : o1 < zN) (hd1 : zkd o1 = 1) {r : Int × zH} (e1 : zrv κ = some (.int (zi r.1))) (e2 : zhf κ = r.2) : ∀ (k : Nat) (l2 : Int) (l3 : Int) (l4 : Int) (l5 : Int) (h : zH), fX6_choose_c17 N o1 k l2 l3 l4 l5 h = some r → Z κ h 17 [(0, .ref (zα κ 12)), (2, .int (zi l2)), (3, .int (zi l3)), (4, .int (zi l4)), (5, .int (zi l5))] [] := by
  intro k
  induction k with
  | zero => intro l2 l3 l4 l5 h hF; cases hF
  | succ k ih => intro l2 l3 l4 l5 h hF; exact J_fX6_choose_c17b C hR hd ho1 hd1 e1 e2 ih l2 l3 l4 l5 h hF
set_option maxRecDepth 20000 in
set_option maxHeartbeats 4000000 in
theorem J_fX6_choose {κ : zT} (C : zC κ RX6 cX6_choose 6 (some .boolean)) {d : Nat} (hR : zR κ = zrm (d + 1)) (hd : 4 ≤ d + 1) {N : Nat} {o1 : Nat} (ho1 : o1 < zN) (hd1 : zkd o1 = 1) {r : Int × zH} (e1 : zrv κ = some (.int (zi r.1))) (e2 : zhf κ = r.2) {a2 : Int} {h : zH} (hF : fX6_choose N o1 a2 h = some r) : Z κ h 0 [(0, .ref (zα κ 12)), (1, .ref (zα κ o1)), (2, .int (zi a2))] [] := by
  unfold fX6_choose at hF
  refine z_aload_n (q := 1) C dX6_choose_0 1 rfl rfl rfl ?_
  obtain ⟨v1, ev1, hF⟩ := zb_e hF
  refine z_callS (q := 4) (av := [.ref (zα κ o1)]) (rest := []) (stk2 := [.int (zi v1)]) C hR (M_fX6_formsOf (zlv hd rfl) ho1 hd1 ev1) mY_X6_formsOf q_936 (Nat.le_of_ble_eq_true rfl) dX6_choose_1 rfl rfl rfl ?_
  refine z_istore_n (q := 5) C dX6_choose_4 (by decide) rfl rfl rfl ?_
  refine z_iload_n (q := 6) C dX6_choose_5 3 rfl rfl rfl ?_
  refine z_istore (q := 8) C dX6_choose_6 (by decide) rfl rfl ?_
  refine z_aload_n (q := 9) C dX6_choose_8 3 rfl rfl rfl ?_
  refine z_iconst (q := 10) C dX6_choose_9 rfl ?_
  refine z_callV (q := 13) (o := o1) (av := [.int (zi 1)]) (rest := []) (stk2 := [.int (zi (fX1_many o1 1 h))]) C hR clX1 (zon C ho1) hd1 (M_fX1_many (zlv hd rfl) ho1 hd1 rfl) mY_X1_many q_939 (Nat.le_of_ble_eq_true rfl) dX6_choose_10 rfl rfl rfl ?_
  refine z_iconst (q := 14) C dX6_choose_13 rfl ?_
  refine z_isub (q := 15) C dX6_choose_14 rfl ?_
  obtain ⟨v2, ev2, hF⟩ := zlet_e hF
  refine z_istoreE (q := 17) C ev2 dX6_choose_15 (by decide) rfl rfl ?_
  exact z_sub (J_fX6_choose_c17 C hR hd ho1 hd1 e1 e2 N _ _ _ _ _ hF) [3, 5, 2, 1, 0] rfl
set_option maxRecDepth 20000 in
set_option maxHeartbeats 4000000 in
theorem M_fX6_choose {l : Launch} {D : va_G} {cy : ClassId} {α : Nat → Nat} {n : Nat} {σ : zSg} {d : Nat} (hd : 4 ≤ d) {N : Nat} {o1 : Nat} (ho1 : o1 < zN) (hd1 : zkd o1 = 1) {a2 : Int} {h : zH} {r : Int} {g : zH} (hF : fX6_choose N o1 a2 h = some (r, g)) : zMet l yX6_choose cX6_choose 6 (some .boolean) (zrm d) D cy α n σ [.ref (α 12), .ref (α o1), .int (zi a2)] h (some (.int (zi r))) g := by
  obtain ⟨d, rfl⟩ : ∃ e, d = e + 1 := ⟨d - 1, by omega⟩
  refine z_met (by decide +kernel) (Nat.le_of_ble_eq_true rfl) (fun κ k1 k2 k3 k4 k5 k6 k7 k8 k9 C => ?_)
  subst k1 k3 k4 k5 k6 k7
  exact J_fX6_choose C k2 hd ho1 hd1 k8 k9 hF
