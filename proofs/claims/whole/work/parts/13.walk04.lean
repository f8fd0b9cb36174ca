set_option maxRecDepth 20000 in
set_option maxHeartbeats 4000000 in
theorem J_fX10_beginHill {κ : zT} (C : zC κ RX10 cX10_beginHill 1 none) {d : Nat} (hR : zR κ = zrm (d + 1)) (hd : 4 ≤ d + 1) {N : Nat} {r : zH} (e1 : zrv κ = none) (e2 : zhf κ = r) {h : zH} (hF : fX10_beginHill N h = some r) : Z κ h 0 [(0, .ref (zα κ 0))] [] := by
  unfold fX10_beginHill at hF
  refine z_aload_n (q := 1) C dX10_beginHill_0 0 rfl rfl rfl ?_
  refine z_getf (q := 4) C clX10 (zon C zo_0) kd_0 (k := 1) (by decide) q_272 rfl (zfv_r kd_0 rfl fr_0_1) dX10_beginHill_1 rfl ?_
  refine z_aload_n (q := 5) C dX10_beginHill_4 0 rfl rfl rfl ?_
  refine z_getf (q := 8) C clX10 (zon C zo_0) kd_0 (k := 2) (by decide) q_273 rfl (zfv_r kd_0 rfl fr_0_2) dX10_beginHill_5 rfl ?_
  obtain ⟨h1, eh1, hF⟩ := zb_e hF
  refine z_callV (q := 11) (o := 2) (av := [.ref (zα κ 3)]) (rest := []) (stk2 := []) C hR clX1 (zon C zo_2) kd_2 (M_fX1_take (zlv hd rfl) zo_2 kd_2 zo_3 kd_3 eh1) mY_X1_take q_586 (Nat.le_of_ble_eq_true rfl) dX10_beginHill_8 rfl rfl rfl ?_
  refine z_aload_n (q := 12) C dX10_beginHill_11 0 rfl rfl rfl ?_
  refine z_getf (q := 15) C clX10 (zon C zo_0) kd_0 (k := 6) (by decide) q_277 rfl (zfv_r kd_0 rfl fr_0_6) dX10_beginHill_12 rfl ?_
  obtain ⟨h2, eh2, hF⟩ := zb_e hF
  refine z_callV (q := 18) (o := 7) (av := []) (rest := []) (stk2 := []) C hR clX8 (zon C zo_7) kd_7 (M_fX8_clear (zlv hd rfl) zo_7 kd_7 eh2) mY_X8_clear q_593 (Nat.le_of_ble_eq_true rfl) dX10_beginHill_15 rfl rfl rfl ?_
  refine z_aload_n (q := 19) C dX10_beginHill_18 0 rfl rfl rfl ?_
  refine z_getf (q := 22) C clX10 (zon C zo_0) kd_0 (k := 9) (by decide) q_280 rfl (zfv_r kd_0 rfl fr_0_9) dX10_beginHill_19 rfl ?_
  obtain ⟨h3, eh3, hF⟩ := zlet_e hF
  refine z_callV (q := 25) (o := 10) (av := []) (rest := []) (stk2 := []) C hR clX0 (zon C zo_10) kd_10 (M_fX0_forget (zlv hd rfl) eh3.symm) mY_X0_forget q_603 (Nat.le_of_ble_eq_true rfl) dX10_beginHill_22 rfl rfl rfl ?_
  refine z_aload_n (q := 26) C dX10_beginHill_25 0 rfl rfl rfl ?_
  refine z_getf (q := 29) C clX10 (zon C zo_0) kd_0 (k := 10) (by decide) q_281 rfl (zfv_r kd_0 rfl fr_0_10) dX10_beginHill_26 rfl ?_
  obtain ⟨h4, eh4, hF⟩ := zb_e hF
  refine z_callV (q := 32) (o := 11) (av := []) (rest := []) (stk2 := []) C hR clX3 (zon C zo_11) kd_11 (M_fX3_forget (zlv hd rfl) eh4) mY_X3_forget q_607 (Nat.le_of_ble_eq_true rfl) dX10_beginHill_29 rfl rfl rfl ?_
  refine z_aload_n (q := 33) C dX10_beginHill_32 0 rfl rfl rfl ?_
  refine z_getf (q := 36) C clX10 (zon C zo_0) kd_0 (k := 11) (by decide) q_282 rfl (zfv_r kd_0 rfl fr_0_11) dX10_beginHill_33 rfl ?_
  obtain ⟨h5, eh5, hF⟩ := zlet_e hF
  refine z_callV (q := 39) (o := 12) (av := []) (rest := []) (stk2 := []) C hR clX6 (zon C zo_12) kd_12 (M_fX6_forget (zlv hd rfl) eh5.symm) mY_X6_forget q_612 (Nat.le_of_ble_eq_true rfl) dX10_beginHill_36 rfl rfl rfl ?_
  refine z_aload_n (q := 40) C dX10_beginHill_39 0 rfl rfl rfl ?_
  refine z_getf (q := 43) C clX10 (zon C zo_0) kd_0 (k := 12) (by decide) q_283 rfl (zfv_r kd_0 rfl fr_0_12) dX10_beginHill_40 rfl ?_
  obtain ⟨h6, eh6, hF⟩ := zlet_e hF
  refine z_callV (q := 46) (o := 13) (av := []) (rest := []) (stk2 := []) C hR clX7 (zon C zo_13) kd_13 (M_fX7_forget (zlv hd rfl) eh6.symm) mY_X7_forget q_616 (Nat.le_of_ble_eq_true rfl) dX10_beginHill_43 rfl rfl rfl ?_
  refine z_aload_n (q := 47) C dX10_beginHill_46 0 rfl rfl rfl ?_
  refine z_iconst (q := 48) C dX10_beginHill_47 rfl ?_
  obtain ⟨h7, eh7, hF⟩ := zlet_e hF
  refine z_putf (q := 51) C clX10 (zon C zo_0) kd_0 (k := 13) (x := 0) (by decide) q_284 rfl rfl (zbn (Or.inl rfl)) (zbf (Or.inl rfl)) (((zfv_i kd_0 rfl)).trans (by rw [if_pos rfl])) dX10_beginHill_48 rfl eh7 ?_
  have hF := Option.some.inj hF
  subst hF
  exact z_vret C e1 e2 dX10_beginHill_51
set_option maxRecDepth 20000 in
set_option maxHeartbeats 4000000 in
theorem M_fX10_beginHill {l : Launch} {D : va_G} {cy : ClassId} {α : Nat → Nat} {n : Nat} {σ : zSg} {d : Nat} (hd : 4 ≤ d) {N : Nat} {h : zH} {g : zH} (hF : fX10_beginHill N h = some g) : zMet l yX10_beginHill cX10_beginHill 1 none (zrm d) D cy α n σ [.ref (α 0)] h (none) g := by
  obtain ⟨d, rfl⟩ : ∃ e, d = e + 1 := ⟨d - 1, by omega⟩
  refine z_met (by decide +kernel) (Nat.le_of_ble_eq_true rfl) (fun κ k1 k2 k3 k4 k5 k6 k7 k8 k9 C => ?_)
  subst k1 k3 k4 k5 k6 k7
  exact J_fX10_beginHill C k2 hd k8 k9 hF
set_option maxRecDepth 20000 in
set_option maxHeartbeats 4000000 in
theorem J_fX10_text_c37 {κ : zT} (C : zC κ RX10 cX10_text 3 (some .int)) {d : Nat} (hR : zR κ = zrm (d + 1)) (hd : 12 ≤ d + 1) {N : Nat} {r : Int × zH} (e1 : zrv κ = some (.int (zi r.1))) (e2 : zhf κ = r.2) (l1 : Int) (s0 : Int) (h : zH) (hF : fX10_text_c37 N l1 s0 h = some r) : Z κ h 37 [(0, .ref (zα κ 0)), (1, .int (zi l1))] [.int (zi s0)] := by
  unfold fX10_text_c37 at hF
  refine z_istore_n (q := 38) C dX10_text_37 (by decide) rfl rfl rfl ?_
  refine z_iload_n (q := 39) C dX10_text_38 0 rfl rfl rfl ?_
  refine z_if_ne (tgt := 51) (q := 42) C dX10_text_39 (by decide) rfl (fun c1 => ?_) (fun c1 => ?_)
  · have hF := (if_neg c1).symm.trans hF
    refine z_iconst (q := 52) C dX10_text_51 rfl ?_
    have hF := Option.some.inj hF
    subst hF
    exact z_iret C e1 e2 dX10_text_52
  · have hF := (if_pos c1).symm.trans hF
    refine z_aload_n (q := 43) C dX10_text_42 1 rfl rfl rfl ?_
    refine z_iload_n (q := 44) C dX10_text_43 2 rfl rfl rfl ?_
    obtain ⟨v3, h2, ev3, hF⟩ := z2_e hF
    refine z_callV (q := 47) (o := 0) (av := [.int (zi l1)]) (rest := []) (stk2 := [.int (zi v3)]) C hR clX10 (zon C zo_0) kd_0 (M_fX10_fault (zlv hd rfl) ev3) mY_X10_fault q_570 (Nat.le_of_ble_eq_true rfl) dX10_text_44 rfl rfl rfl ?_
    refine z_iconst (q := 48) C dX10_text_47 rfl ?_
    refine z_icmp_eq (tgt := 53) (q := 51) C dX10_text_48 (by decide) rfl (fun c4 => ?_) (fun c4 => ?_)
    · have hF := (if_pos c4).symm.trans hF
      refine z_aload_n (q := 54) C dX10_text_53 1 rfl rfl rfl ?_
      refine z_getf (q := 57) C clX10 (zon C zo_0) kd_0 (k := 0) (by decide) q_271 rfl (zfv_r kd_0 rfl fr_0_0) dX10_text_54 rfl ?_
      refine z_iconst (q := 58) C dX10_text_57 rfl ?_
      obtain ⟨h5, eh5, hF⟩ := zlet_e hF
      refine z_putf (q := 61) C clX9 (zon C zo_1) kd_1 (k := 1) (x := 0) (by decide) q_40 rfl rfl rfl rfl (((zfv_i kd_1 rfl)).trans (by rw [if_pos rfl])) dX10_text_58 rfl eh5 ?_
      refine z_iload_n (q := 62) C dX10_text_61 2 rfl rfl rfl ?_
      refine z_iconst (q := 63) C dX10_text_62 rfl ?_
      refine z_icmp_ne (tgt := 78) (q := 66) C dX10_text_63 (by decide) rfl (fun c6 => ?_) (fun c6 => ?_)
      · have hF := (if_neg c6).symm.trans hF
        refine z_iload_n (q := 79) C dX10_text_78 2 rfl rfl rfl ?_
        refine z_iconst (q := 80) C dX10_text_79 rfl ?_
        refine z_icmp_ne (tgt := 91) (q := 83) C dX10_text_80 (by decide) rfl (fun c9 => ?_) (fun c9 => ?_)
        · have hF := (if_neg c9).symm.trans hF
          refine z_aload_n (q := 92) C dX10_text_91 1 rfl rfl rfl ?_
          obtain ⟨h12, eh12, hF⟩ := zb_e hF
          refine z_callV (q := 95) (o := 0) (av := []) (rest := []) (stk2 := []) C hR clX10 (zon C zo_0) kd_0 (M_fX10_beginHill (zlv hd rfl) eh12) mY_X10_beginHill q_582 (Nat.le_of_ble_eq_true rfl) dX10_text_92 rfl rfl rfl ?_
          refine z_aload_n (q := 96) C dX10_text_95 1 rfl rfl rfl ?_
          refine z_getf (q := 99) C clX10 (zon C zo_0) kd_0 (k := 1) (by decide) q_272 rfl (zfv_r kd_0 rfl fr_0_1) dX10_text_96 rfl ?_
          refine z_iconst (q := 100) C dX10_text_99 rfl ?_
          refine z_callV (q := 103) (o := 2) (av := [.int (zi 1)]) (rest := []) (stk2 := [.int (zi (fX1_many 2 1 h12))]) C hR clX1 (zon C zo_2) kd_2 (M_fX1_many (zlv hd rfl) zo_2 kd_2 rfl) mY_X1_many q_620 (Nat.le_of_ble_eq_true rfl) dX10_text_100 rfl rfl rfl ?_
          have hF := Option.some.inj hF
          subst hF
          exact z_iret C e1 e2 dX10_text_103
        · have hF := (if_pos c9).symm.trans hF
          refine z_aload_n (q := 84) C dX10_text_83 1 rfl rfl rfl ?_
          refine z_getf (q := 87) C clX10 (zon C zo_0) kd_0 (k := 5) (by decide) q_276 rfl (zfv_r kd_0 rfl fr_0_5) dX10_text_84 rfl ?_
          obtain ⟨v11, h10, ev11, hF⟩ := z2_e hF
          refine z_callV (q := 90) (o := 6) (av := []) (rest := []) (stk2 := [.int (zi v11)]) C hR clX2 (zon C zo_6) kd_6 (M_fX2_add (zlv hd rfl) ev11) mY_X2_add q_577 (Nat.le_of_ble_eq_true rfl) dX10_text_87 rfl rfl rfl ?_
          have hF := Option.some.inj hF
          subst hF
          exact z_iret C e1 e2 dX10_text_90
      · have hF := (if_pos c6).symm.trans hF
        refine z_aload_n (q := 67) C dX10_text_66 1 rfl rfl rfl ?_
        refine z_getf (q := 70) C clX10 (zon C zo_0) kd_0 (k := 4) (by decide) q_275 rfl (zfv_r kd_0 rfl fr_0_4) dX10_text_67 rfl ?_
        refine z_aload_n (q := 71) C dX10_text_70 1 rfl rfl rfl ?_
        refine z_getf (q := 74) C clX10 (zon C zo_0) kd_0 (k := 3) (by decide) q_274 rfl (zfv_r kd_0 rfl fr_0_3) dX10_text_71 rfl ?_
        obtain ⟨v8, h7, ev8, hF⟩ := z2_e hF
        refine z_callV (q := 77) (o := 5) (av := [.ref (zα κ 4)]) (rest := []) (stk2 := [.int (zi v8)]) C hR clX5 (zon C zo_5) kd_5 (M_fX5_add (zlv hd rfl) ev8) mY_X5_add q_571 (Nat.le_of_ble_eq_true rfl) dX10_text_74 rfl rfl rfl ?_
        have hF := Option.some.inj hF
        subst hF
        exact z_iret C e1 e2 dX10_text_77
    · have hF := (if_neg c4).symm.trans hF
      refine z_iconst (q := 52) C dX10_text_51 rfl ?_
      have hF := Option.some.inj hF
      subst hF
      exact z_iret C e1 e2 dX10_text_52
set_option maxRecDepth 20000 in
set_option maxHeartbeats 4000000 in
theorem J_fX10_text {κ : zT} (C : zC κ RX10 cX10_text 3 (some .int)) {d : Nat} (hR : zR κ = zrm (d + 1)) (hd : 12 ≤ d + 1) {N : Nat} {r : Int × zH} (e1 : zrv κ = some (.int (zi r.1))) (e2 : zhf κ = r.2) {a1 : Int} {h : zH} (hF : fX10_text N a1 h = some r) : Z κ h 0 [(0, .ref (zα κ 0)), (1, .int (zi a1))] [] := by
  unfold fX10_text at hF
  refine z_iload_n (q := 1) C dX10_text_0 1 rfl rfl rfl ?_
  refine z_iconst (q := 2) C dX10_text_1 rfl ?_
  refine z_icmp_ne (tgt := 16) (q := 5) C dX10_text_2 (by decide) rfl (fun c1 => ?_) (fun c1 => ?_)
  · have hF := (if_neg c1).symm.trans hF
    refine z_iload_n (q := 17) C dX10_text_16 1 rfl rfl rfl ?_
    refine z_iconst (q := 18) C dX10_text_17 rfl ?_
    refine z_icmp_ne (tgt := 36) (q := 21) C dX10_text_18 (by decide) rfl (fun c5 => ?_) (fun c5 => ?_)
    · have hF := (if_neg c5).symm.trans hF
      refine z_iconst (q := 37) C dX10_text_36 rfl ?_
      exact z_sub (J_fX10_text_c37 C hR hd e1 e2 _ _ _ hF) [0, 1] rfl
    · have hF := (if_pos c5).symm.trans hF
      refine z_aload_n (q := 22) C dX10_text_21 0 rfl rfl rfl ?_
      refine z_getf (q := 25) C clX10 (zon C zo_0) kd_0 (k := 5) (by decide) q_276 rfl (zfv_r kd_0 rfl fr_0_5) dX10_text_22 rfl ?_
      refine z_getf (q := 28) C clX2 (zon C zo_6) kd_6 (k := 0) (by decide) q_159 rfl (zfv_i kd_6 rfl) dX10_text_25 rfl ?_
      refine z_iconst (q := 29) C dX10_text_28 rfl ?_
      refine z_icmp_ne (tgt := 36) (q := 32) C dX10_text_29 (by decide) rfl (fun c6 => ?_) (fun c6 => ?_)
      · have hF := (if_neg c6).symm.trans hF
        refine z_iconst (q := 37) C dX10_text_36 rfl ?_
        exact z_sub (J_fX10_text_c37 C hR hd e1 e2 _ _ _ hF) [0, 1] rfl
      · have hF := (if_pos c6).symm.trans hF
        refine z_iconst (q := 33) C dX10_text_32 rfl ?_
        refine z_goto (q := 37) C dX10_text_33 (by decide) ?_
        exact z_sub (J_fX10_text_c37 C hR hd e1 e2 _ _ _ hF) [0, 1] rfl
  · have hF := (if_pos c1).symm.trans hF
    refine z_aload_n (q := 6) C dX10_text_5 0 rfl rfl rfl ?_
    refine z_getf (q := 9) C clX10 (zon C zo_0) kd_0 (k := 4) (by decide) q_275 rfl (zfv_r kd_0 rfl fr_0_4) dX10_text_6 rfl ?_
    refine z_getf (q := 12) C clX5 (zon C zo_5) kd_5 (k := 0) (by decide) q_131 rfl (zfv_i kd_5 rfl) dX10_text_9 rfl ?_
    refine z_iconst (q := 13) C dX10_text_12 rfl ?_
    refine z_icmp_eq (tgt := 32) (q := 16) C dX10_text_13 (by decide) rfl (fun c2 => ?_) (fun c2 => ?_)
    · have hF := (if_pos c2).symm.trans hF
      refine z_iconst (q := 33) C dX10_text_32 rfl ?_
      refine z_goto (q := 37) C dX10_text_33 (by decide) ?_
      exact z_sub (J_fX10_text_c37 C hR hd e1 e2 _ _ _ hF) [0, 1] rfl
    · have hF := (if_neg c2).symm.trans hF
      refine z_iload_n (q := 17) C dX10_text_16 1 rfl rfl rfl ?_
      refine z_iconst (q := 18) C dX10_text_17 rfl ?_
      refine z_icmp_ne (tgt := 36) (q := 21) C dX10_text_18 (by decide) rfl (fun c3 => ?_) (fun c3 => ?_)
      · have hF := (if_neg c3).symm.trans hF
        refine z_iconst (q := 37) C dX10_text_36 rfl ?_
        exact z_sub (J_fX10_text_c37 C hR hd e1 e2 _ _ _ hF) [0, 1] rfl
      · have hF := (if_pos c3).symm.trans hF
        refine z_aload_n (q := 22) C dX10_text_21 0 rfl rfl rfl ?_
        refine z_getf (q := 25) C clX10 (zon C zo_0) kd_0 (k := 5) (by decide) q_276 rfl (zfv_r kd_0 rfl fr_0_5) dX10_text_22 rfl ?_
        refine z_getf (q := 28) C clX2 (zon C zo_6) kd_6 (k := 0) (by decide) q_159 rfl (zfv_i kd_6 rfl) dX10_text_25 rfl ?_
        refine z_iconst (q := 29) C dX10_text_28 rfl ?_
        refine z_icmp_ne (tgt := 36) (q := 32) C dX10_text_29 (by decide) rfl (fun c4 => ?_) (fun c4 => ?_)
        · have hF := (if_neg c4).symm.trans hF
          refine z_iconst (q := 37) C dX10_text_36 rfl ?_
          exact z_sub (J_fX10_text_c37 C hR hd e1 e2 _ _ _ hF) [0, 1] rfl
        · have hF := (if_pos c4).symm.trans hF
          refine z_iconst (q := 33) C dX10_text_32 rfl ?_
          refine z_goto (q := 37) C dX10_text_33 (by decide) ?_
          exact z_sub (J_fX10_text_c37 C hR hd e1 e2 _ _ _ hF) [0, 1] rfl
set_option maxRecDepth 20000 in
set_option maxHeartbeats 4000000 in
theorem M_fX10_text {l : Launch} {D : va_G} {cy : ClassId} {α : Nat → Nat} {n : Nat} {σ : zSg} {d : Nat} (hd : 12 ≤ d) {N : Nat} {a1 : Int} {h : zH} {r : Int} {g : zH} (hF : fX10_text N a1 h = some (r, g)) : zMet l yX10_text cX10_text 3 (some .int) (zrm d) D cy α n σ [.ref (α 0), .int (zi a1)] h (some (.int (zi r))) g := by
  obtain ⟨d, rfl⟩ : ∃ e, d = e + 1 := ⟨d - 1, by omega⟩
  refine z_met (by decide +kernel) (Nat.le_of_ble_eq_true rfl) (fun κ k1 k2 k3 k4 k5 k6 k7 k8 k9 C => ?_)
  subst k1 k3 k4 k5 k6 k7
  exact J_fX10_text C k2 hd k8 k9 hF
set_option maxRecDepth 20000 in
set_option maxHeartbeats 4000000 in
theorem J_fX10_hasHill {κ : zT} (C : zC κ RX10 cX10_hasHill 1 (some .boolean)) {d : Nat} (hR : zR κ = zrm (d + 1)) (hd : 3 ≤ d + 1) {h : zH} {r : Int} (e1 : zrv κ = some (.int (zi r))) (e2 : zhf κ = h) (hF : fX10_hasHill h = r) : Z κ h 0 [(0, .ref (zα κ 0))] [] := by
  unfold fX10_hasHill at hF
  refine z_aload_n (q := 1) C dX10_hasHill_0 0 rfl rfl rfl ?_
  refine z_getf (q := 4) C clX10 (zon C zo_0) kd_0 (k := 1) (by decide) q_272 rfl (zfv_r kd_0 rfl fr_0_1) dX10_hasHill_1 rfl ?_
  refine z_iconst (q := 5) C dX10_hasHill_4 rfl ?_
  refine z_callV (q := 8) (o := 2) (av := [.int (zi 1)]) (rest := []) (stk2 := [.int (zi (fX1_many 2 1 h))]) C hR clX1 (zon C zo_2) kd_2 (M_fX1_many (zlv hd rfl) zo_2 kd_2 rfl) mY_X1_many q_620 (Nat.le_of_ble_eq_true rfl) dX10_hasHill_5 rfl rfl rfl ?_
  refine z_if_le (tgt := 15) (q := 11) C dX10_hasHill_8 (by decide) rfl (fun c1 => ?_) (fun c1 => ?_)
  · have hF := (if_pos c1).symm.trans hF
    refine z_iconst (q := 16) C dX10_hasHill_15 rfl ?_
    subst hF
    exact z_zret C (zb01 (Or.inl rfl)) e1 e2 dX10_hasHill_16
  · have hF := (if_neg c1).symm.trans hF
    refine z_iconst (q := 12) C dX10_hasHill_11 rfl ?_
    refine z_goto (q := 16) C dX10_hasHill_12 (by decide) ?_
    subst hF
    exact z_zret C (zb01 (Or.inr rfl)) e1 e2 dX10_hasHill_16
set_option maxRecDepth 20000 in
set_option maxHeartbeats 4000000 in
theorem M_fX10_hasHill {l : Launch} {D : va_G} {cy : ClassId} {α : Nat → Nat} {n : Nat} {σ : zSg} {d : Nat} (hd : 3 ≤ d) {h : zH} {r : Int} (hF : fX10_hasHill h = r) : zMet l yX10_hasHill cX10_hasHill 1 (some .boolean) (zrm d) D cy α n σ [.ref (α 0)] h (some (.int (zi r))) h := by
  obtain ⟨d, rfl⟩ : ∃ e, d = e + 1 := ⟨d - 1, by omega⟩
  refine z_met (by decide +kernel) (Nat.le_of_ble_eq_true rfl) (fun κ k1 k2 k3 k4 k5 k6 k7 k8 k9 C => ?_)
  subst k1 k3 k4 k5 k6 k7
  exact J_fX10_hasHill C k2 hd k8 k9 hF
theorem B_fX10_hasHill {h : zH} : fX10_hasHill h = 0 ∨ fX10_hasHill h = 1 := by
  unfold fX10_hasHill
  try simp only [zlet, zlet2]
  repeat' (first | exact Or.inl rfl | exact Or.inr rfl | apply zite01)
set_option maxRecDepth 20000 in
set_option maxHeartbeats 4000000 in
theorem J_fX10_sun {κ : zT} (C : zC κ RX10 cX10_sun 2 (some .int)) {d : Nat} (hR : zR κ = zrm (d + 1)) (hd : 4 ≤ d + 1) {h : zH} {r : Int} (e1 : zrv κ = some (.int (zi r))) (e2 : zhf κ = h) {a1 : Int} (hF : fX10_sun a1 h = r) : Z κ h 0 [(0, .ref (zα κ 0)), (1, .int (zi a1))] [] := by
  unfold fX10_sun at hF
  refine z_aload_n (q := 1) C dX10_sun_0 0 rfl rfl rfl ?_
  refine z_callV (q := 4) (o := 0) (av := []) (rest := []) (stk2 := [.int (zi (fX10_hasHill h))]) C hR clX10 (zon C zo_0) kd_0 (M_fX10_hasHill (zlv hd rfl) rfl) mY_X10_hasHill q_625 (Nat.le_of_ble_eq_true rfl) dX10_sun_1 rfl rfl rfl ?_
  refine z_if_eq (tgt := 16) (q := 7) C dX10_sun_4 (by decide) rfl (fun c1 => ?_) (fun c1 => ?_)
  · have hF := (if_pos c1).symm.trans hF
    refine z_iconst (q := 17) C dX10_sun_16 rfl ?_
    refine z_goto (q := 30) C dX10_sun_17 (by decide) ?_
    subst hF
    exact z_iret C e1 e2 dX10_sun_30
  · have hF := (if_neg c1).symm.trans hF
    refine z_iload_n (q := 8) C dX10_sun_7 1 rfl rfl rfl ?_
    refine z_if_lt (tgt := 16) (q := 11) C dX10_sun_8 (by decide) rfl (fun c2 => ?_) (fun c2 => ?_)
    · have hF := (if_pos c2).symm.trans hF
      refine z_iconst (q := 17) C dX10_sun_16 rfl ?_
      refine z_goto (q := 30) C dX10_sun_17 (by decide) ?_
      subst hF
      exact z_iret C e1 e2 dX10_sun_30
    · have hF := (if_neg c2).symm.trans hF
      refine z_iload_n (q := 12) C dX10_sun_11 1 rfl rfl rfl ?_
      refine z_iconst (q := 13) C dX10_sun_12 rfl ?_
      refine z_icmp_le (tgt := 20) (q := 16) C dX10_sun_13 (by decide) rfl (fun c3 => ?_) (fun c3 => ?_)
      · have hF := (if_pos c3).symm.trans hF
        refine z_aload_n (q := 21) C dX10_sun_20 0 rfl rfl rfl ?_
        refine z_getf (q := 24) C clX10 (zon C zo_0) kd_0 (k := 1) (by decide) q_272 rfl (zfv_r kd_0 rfl fr_0_1) dX10_sun_21 rfl ?_
        refine z_iconst (q := 25) C dX10_sun_24 rfl ?_
        refine z_iconst (q := 26) C dX10_sun_25 rfl ?_
        refine z_iload_n (q := 27) C dX10_sun_26 1 rfl rfl rfl ?_
        refine z_callV (q := 30) (o := 2) (av := [.int (zi 0), .int (zi 0), .int (zi a1)]) (rest := []) (stk2 := [.int (zi (fX1_item 2 0 0 a1 h))]) C hR clX1 (zon C zo_2) kd_2 (M_fX1_item (zlv hd rfl) zo_2 kd_2 rfl) mY_X1_item q_629 (Nat.le_of_ble_eq_true rfl) dX10_sun_27 rfl rfl rfl ?_
        subst hF
        exact z_iret C e1 e2 dX10_sun_30
      · have hF := (if_neg c3).symm.trans hF
        refine z_iconst (q := 17) C dX10_sun_16 rfl ?_
        refine z_goto (q := 30) C dX10_sun_17 (by decide) ?_
        subst hF
        exact z_iret C e1 e2 dX10_sun_30
set_option maxRecDepth 20000 in
set_option maxHeartbeats 4000000 in
theorem M_fX10_sun {l : Launch} {D : va_G} {cy : ClassId} {α : Nat → Nat} {n : Nat} {σ : zSg} {d : Nat} (hd : 4 ≤ d) {a1 : Int} {h : zH} {r : Int} (hF : fX10_sun a1 h = r) : zMet l yX10_sun cX10_sun 2 (some .int) (zrm d) D cy α n σ [.ref (α 0), .int (zi a1)] h (some (.int (zi r))) h := by
  obtain ⟨d, rfl⟩ : ∃ e, d = e + 1 := ⟨d - 1, by omega⟩
  refine z_met (by decide +kernel) (Nat.le_of_ble_eq_true rfl) (fun κ k1 k2 k3 k4 k5 k6 k7 k8 k9 C => ?_)
  subst k1 k3 k4 k5 k6 k7
  exact J_fX10_sun C k2 hd k8 k9 hF
set_option maxRecDepth 20000 in
set_option maxHeartbeats 4000000 in
theorem J_fX8_of {κ : zT} (C : zC κ RX8 cX8_of 3 (some .int)) {d : Nat} (hR : zR κ = zrm (d + 1)) (hd : 2 ≤ d + 1) {o0 : Nat} (ho0 : o0 < zN) (hd0 : zkd o0 = 8) {h : zH} {r : Int} (e1 : zrv κ = some (.int (zi r))) (e2 : zhf κ = h) {a1 : Int} {a2 : Int} (hF : fX8_of o0 a1 a2 h = r) : Z κ h 0 [(0, .ref (zα κ o0)), (1, .int (zi a1)), (2, .int (zi a2))] [] := by
  unfold fX8_of at hF
  refine z_aload_n (q := 1) C dX8_of_0 0 rfl rfl rfl ?_
  refine z_getf (q := 4) C clX8 (zon C ho0) hd0 (k := 0) (by decide) q_184 rfl (zfv_r hd0 rfl rfl) dX8_of_1 rfl ?_
  refine z_iload_n (q := 5) C dX8_of_4 1 rfl rfl rfl ?_
  refine z_bipush (q := 7) C dX8_of_5 bp_6 rfl ?_
  refine z_imul (q := 8) C dX8_of_7 rfl ?_
  refine z_iload_n (q := 9) C dX8_of_8 2 rfl rfl rfl ?_
  refine z_iadd (q := 10) C dX8_of_9 rfl ?_
  refine z_callSN (q := 13) (av := [.ref (zα κ (zfr o0 0)), .int (zi ((a1 * 6) + a2))]) (rest := []) (stk2 := [.int (zi (fX10_at (zfr o0 0) ((a1 * 6) + a2) h))]) C hR (M_fX10_at (zlv hd rfl) (frl_8_0 ho0 hd0) (frk_8_0 ho0 hd0) rfl) mY_X10_at q_643 (Nat.le_of_ble_eq_true rfl) dX8_of_10 rfl rfl rfl ?_
  subst hF
  exact z_iret C e1 e2 dX8_of_13
set_option maxRecDepth 20000 in
set_option maxHeartbeats 4000000 in
theorem M_fX8_of {l : Launch} {D : va_G} {cy : ClassId} {α : Nat → Nat} {n : Nat} {σ : zSg} {d : Nat} (hd : 2 ≤ d) {o0 : Nat} (ho0 : o0 < zN) (hd0 : zkd o0 = 8) {a1 : Int} {a2 : Int} {h : zH} {r : Int} (hF : fX8_of o0 a1 a2 h = r) : zMet l yX8_of cX8_of 3 (some .int) (zrm d) D cy α n σ [.ref (α o0), .int (zi a1), .int (zi a2)] h (some (.int (zi r))) h := by
  obtain ⟨d, rfl⟩ : ∃ e, d = e + 1 := ⟨d - 1, by omega⟩
  refine z_met (by decide +kernel) (Nat.le_of_ble_eq_true rfl) (fun κ k1 k2 k3 k4 k5 k6 k7 k8 k9 C => ?_)
  subst k1 k3 k4 k5 k6 k7
  exact J_fX8_of C k2 hd ho0 hd0 k8 k9 hF
set_option maxRecDepth 20000 in
set_option maxHeartbeats 4000000 in
theorem J_fX8_backlog_c4b {κ : zT} (C : zC κ RX8 cX8_backlog 4 (some .int)) {d : Nat} (hR : zR κ = zrm (d + 1)) (hd : 3 ≤ d + 1) {N : Nat} {o0 : Nat} (ho0 : o0 < zN) (hd0 : zkd o0 = 8) {h : zH} {r : Int} (e1 : zrv κ = some (.int (zi r))) (e2 : zhf κ = h) {K4 : Int → Int → Int → Option Int} (hK4 : ∀ (l1 : Int) (l2 : Int) (l3 : Int), K4 l1 l2 l3 = some r → Z κ h 4 [(0, .ref (zα κ o0)), (1, .int (zi l1)), (2, .int (zi l2)), (3, .int (zi l3))] []) (l1 : Int) (l2 : Int) (l3 : Int) (hF : fX8_backlog_c4b N o0 h K4 l1 l2 l3 = some r) : Z κ h 4 [(0, .ref (zα κ o0)), (1, .int (zi l1)), (2, .int (zi l2)), (3, .int (zi l3))] [] := by
  unfold fX8_backlog_c4b at hF
  refine z_iload_n (q := 5) C dX8_backlog_4 3 rfl rfl rfl ?_
  refine z_aload_n (q := 6) C dX8_backlog_5 0 rfl rfl rfl ?_
  refine z_getf (q := 9) C clX8 (zon C ho0) hd0 (k := 0) (by decide) q_184 rfl (zfv_r hd0 rfl rfl) dX8_backlog_6 rfl ?_
  refine z_bipush (q := 11) C dX8_backlog_9 bp_49 rfl ?_
  refine z_ialdc (q := 12) (j := 49) C (zon C (frl_8_0 ho0 hd0)) (frk_8_0 ho0 hd0) zwk_49 (by rw [(frn_8_0 ho0 hd0)]; decide) dX8_backlog_11 rfl ?_
  refine z_icmp_ge (tgt := 46) (q := 15) C dX8_backlog_12 (by decide) rfl (fun c1 => ?_) (fun c1 => ?_)
  · have hF := (if_pos c1).symm.trans hF
    refine z_iload_n (q := 47) C dX8_backlog_46 2 rfl rfl rfl ?_
    have hF := Option.some.inj hF
    subst hF
    exact z_iret C e1 e2 dX8_backlog_47
  · have hF := (if_neg c1).symm.trans hF
    refine z_iload_n (q := 16) C dX8_backlog_15 2 rfl rfl rfl ?_
    refine z_aload_n (q := 17) C dX8_backlog_16 0 rfl rfl rfl ?_
    refine z_bipush (q := 19) C dX8_backlog_17 bp_6 rfl ?_
    refine z_aload_n (q := 20) C dX8_backlog_19 0 rfl rfl rfl ?_
    refine z_bipush (q := 22) C dX8_backlog_20 bp_7 rfl ?_
    refine z_iload_n (q := 23) C dX8_backlog_22 3 rfl rfl rfl ?_
    refine z_callV (q := 26) (o := o0) (av := [.int (zi 7), .int (zi l3)]) (rest := [.int (zi 6), .ref (zα κ o0), .int (zi l2)]) (stk2 := [.int (zi (fX8_of o0 7 l3 h)), .int (zi 6), .ref (zα κ o0), .int (zi l2)]) C hR clX8 (zon C ho0) hd0 (M_fX8_of (zlv hd rfl) ho0 hd0 rfl) mY_X8_of q_639 (Nat.le_of_ble_eq_true rfl) dX8_backlog_23 rfl rfl rfl ?_
    refine z_callV (q := 29) (o := o0) (av := [.int (zi 6), .int (zi (fX8_of o0 7 l3 h))]) (rest := [.int (zi l2)]) (stk2 := [.int (zi (fX8_of o0 6 (fX8_of o0 7 l3 h) h)), .int (zi l2)]) C hR clX8 (zon C ho0) hd0 (M_fX8_of (zlv hd rfl) ho0 hd0 rfl) mY_X8_of q_639 (Nat.le_of_ble_eq_true rfl) dX8_backlog_26 rfl rfl rfl ?_
    refine z_iload_n (q := 30) C dX8_backlog_29 1 rfl rfl rfl ?_
    refine z_icmp_ne (tgt := 37) (q := 33) C dX8_backlog_30 (by decide) rfl (fun c2 => ?_) (fun c2 => ?_)
    · have hF := (if_neg c2).symm.trans hF
      refine z_iconst (q := 38) C dX8_backlog_37 rfl ?_
      refine z_iadd (q := 39) C dX8_backlog_38 rfl ?_
      refine z_istore_n (q := 40) C dX8_backlog_39 (by decide) rfl rfl rfl ?_
      refine z_iinc (q := 43) (x := l3) C dX8_backlog_40 (j := 3) rfl (by decide) rfl rfl ?_
      refine z_goto (q := 4) C dX8_backlog_43 (by decide) ?_
      exact z_sub (hK4 _ _ _ hF) [2, 3, 1, 0] rfl
    · have hF := (if_pos c2).symm.trans hF
      refine z_iconst (q := 34) C dX8_backlog_33 rfl ?_
      refine z_goto (q := 38) C dX8_backlog_34 (by decide) ?_
      refine z_iadd (q := 39) C dX8_backlog_38 rfl ?_
      refine z_istore_n (q := 40) C dX8_backlog_39 (by decide) rfl rfl rfl ?_
      refine z_iinc (q := 43) (x := l3) C dX8_backlog_40 (j := 3) rfl (by decide) rfl rfl ?_
      refine z_goto (q := 4) C dX8_backlog_43 (by decide) ?_
      exact z_sub (hK4 _ _ _ hF) [2, 3, 1, 0] rfl
set_option maxRecDepth 20000 in
set_option maxHeartbeats 4000000 in
theorem J_fX8_backlog_c4 {κ : zT} (C : zC κ RX8 cX8_backlog 4 (some .int)) {d : Nat} (hR : zR κ = zrm (d + 1)) (hd : 3 ≤ d + 1) {N : Nat} {o0 : Nat} (ho0 : o0 < zN) (hd0 : zkd o0 = 8) {h : zH} {r : Int} (e1 : zrv κ = some (.int (zi r))) (e2 : zhf κ = h) : ∀ (k : Nat) (l1 : Int) (l2 : Int) (l3 : Int), fX8_backlog_c4 N o0 h k l1 l2 l3 = some r → Z κ h 4 [(0, .ref (zα κ o0)), (1, .int (zi l1)), (2, .int (zi l2)), (3, .int (zi l3))] [] := by
  intro k
  induction k with
  | zero => intro l1 l2 l3 hF; cases hF
  | succ k ih => intro l1 l2 l3 hF; exact J_fX8_backlog_c4b C hR hd ho0 hd0 e1 e2 ih l1 l2 l3 hF
set_option maxRecDepth 20000 in
set_option maxHeartbeats 4000000 in
theorem J_fX8_backlog {κ : zT} (C : zC κ RX8 cX8_backlog 4 (some .int)) {d : Nat} (hR : zR κ = zrm (d + 1)) (hd : 3 ≤ d + 1) {N : Nat} {o0 : Nat} (ho0 : o0 < zN) (hd0 : zkd o0 = 8) {h : zH} {r : Int} (e1 : zrv κ = some (.int (zi r))) (e2 : zhf κ = h) {a1 : Int} (hF : fX8_backlog N o0 a1 h = some r) : Z κ h 0 [(0, .ref (zα κ o0)), (1, .int (zi a1))] [] := by
  unfold fX8_backlog at hF
  refine z_iconst (q := 1) C dX8_backlog_0 rfl ?_
  refine z_istore_n (q := 2) C dX8_backlog_1 (by decide) rfl rfl rfl ?_
  refine z_iconst (q := 3) C dX8_backlog_2 rfl ?_
  refine z_istore_n (q := 4) C dX8_backlog_3 (by decide) rfl rfl rfl ?_
  exact z_sub (J_fX8_backlog_c4 C hR hd ho0 hd0 e1 e2 N _ _ _ hF) [2, 3, 1, 0] rfl
set_option maxRecDepth 20000 in
set_option maxHeartbeats 4000000 in
theorem M_fX8_backlog {l : Launch} {D : va_G} {cy : ClassId} {α : Nat → Nat} {n : Nat} {σ : zSg} {d : Nat} (hd : 3 ≤ d) {N : Nat} {o0 : Nat} (ho0 : o0 < zN) (hd0 : zkd o0 = 8) {a1 : Int} {h : zH} {r : Int} (hF : fX8_backlog N o0 a1 h = some r) : zMet l yX8_backlog cX8_backlog 4 (some .int) (zrm d) D cy α n σ [.ref (α o0), .int (zi a1)] h (some (.int (zi r))) h := by
  obtain ⟨d, rfl⟩ : ∃ e, d = e + 1 := ⟨d - 1, by omega⟩
  refine z_met (by decide +kernel) (Nat.le_of_ble_eq_true rfl) (fun κ k1 k2 k3 k4 k5 k6 k7 k8 k9 C => ?_)
  subst k1 k3 k4 k5 k6 k7
  exact J_fX8_backlog C k2 hd ho0 hd0 k8 k9 hF
set_option maxRecDepth 20000 in
set_option maxHeartbeats 4000000 in
theorem J_fX8_first_c2b {κ : zT} (C : zC κ RX8 cX8_first 4 (some .int)) {d : Nat} (hR : zR κ = zrm (d + 1)) (hd : 3 ≤ d + 1) {N : Nat} {o0 : Nat} (ho0 : o0 < zN) (hd0 : zkd o0 = 8) {h : zH} {r : Int} (e1 : zrv κ = some (.int (zi r))) (e2 : zhf κ = h) {K2 : Int → Int → Option Int} (hK2 : ∀ (l1 : Int) (l2 : Int), K2 l1 l2 = some r → Z κ h 2 [(0, .ref (zα κ o0)), (1, .int (zi l1)), (2, .int (zi l2))] []) (l1 : Int) (l2 : Int) (hF : fX8_first_c2b N o0 h K2 l1 l2 = some r) : Z κ h 2 [(0, .ref (zα κ o0)), (1, .int (zi l1)), (2, .int (zi l2))] [] := by
  unfold fX8_first_c2b at hF
  refine z_iload_n (q := 3) C dX8_first_2 2 rfl rfl rfl ?_
  refine z_aload_n (q := 4) C dX8_first_3 0 rfl rfl rfl ?_
  refine z_getf (q := 7) C clX8 (zon C ho0) hd0 (k := 0) (by decide) q_184 rfl (zfv_r hd0 rfl rfl) dX8_first_4 rfl ?_
  refine z_bipush (q := 9) C dX8_first_7 bp_49 rfl ?_
  refine z_ialdc (q := 10) (j := 49) C (zon C (frl_8_0 ho0 hd0)) (frk_8_0 ho0 hd0) zwk_49 (by rw [(frn_8_0 ho0 hd0)]; decide) dX8_first_9 rfl ?_
  refine z_icmp_ge (tgt := 40) (q := 13) C dX8_first_10 (by decide) rfl (fun c1 => ?_) (fun c1 => ?_)
  · have hF := (if_pos c1).symm.trans hF
    refine z_iconst (q := 41) C dX8_first_40 rfl ?_
    have hF := Option.some.inj hF
    subst hF
    exact z_iret C e1 e2 dX8_first_41
  · have hF := (if_neg c1).symm.trans hF
    refine z_aload_n (q := 14) C dX8_first_13 0 rfl rfl rfl ?_
    refine z_bipush (q := 16) C dX8_first_14 bp_7 rfl ?_
    refine z_iload_n (q := 17) C dX8_first_16 2 rfl rfl rfl ?_
    refine z_callV (q := 20) (o := o0) (av := [.int (zi 7), .int (zi l2)]) (rest := []) (stk2 := [.int (zi (fX8_of o0 7 l2 h))]) C hR clX8 (zon C ho0) hd0 (M_fX8_of (zlv hd rfl) ho0 hd0 rfl) mY_X8_of q_639 (Nat.le_of_ble_eq_true rfl) dX8_first_17 rfl rfl rfl ?_
    obtain ⟨v2, ev2, hF⟩ := zlet_e hF
    refine z_istoreE_n (q := 21) C ev2 dX8_first_20 (by decide) rfl rfl rfl ?_
    refine z_aload_n (q := 22) C dX8_first_21 1 rfl rfl rfl ?_
    refine z_bipush (q := 24) C dX8_first_22 bp_6 rfl ?_
    refine z_iload_n (q := 25) C dX8_first_24 0 rfl rfl rfl ?_
    refine z_callV (q := 28) (o := o0) (av := [.int (zi 6), .int (zi v2)]) (rest := []) (stk2 := [.int (zi (fX8_of o0 6 v2 h))]) C hR clX8 (zon C ho0) hd0 (M_fX8_of (zlv hd rfl) ho0 hd0 rfl) mY_X8_of q_639 (Nat.le_of_ble_eq_true rfl) dX8_first_25 rfl rfl rfl ?_
    refine z_iload_n (q := 29) C dX8_first_28 2 rfl rfl rfl ?_
    refine z_icmp_ne (tgt := 34) (q := 32) C dX8_first_29 (by decide) rfl (fun c3 => ?_) (fun c3 => ?_)
    · have hF := (if_neg c3).symm.trans hF
      refine z_iinc (q := 37) (x := l2) C dX8_first_34 (j := 3) rfl (by decide) rfl rfl ?_
      refine z_goto (q := 2) C dX8_first_37 (by decide) ?_
      exact z_sub (hK2 _ _ hF) [2, 3, 0] rfl
    · have hF := (if_pos c3).symm.trans hF
      refine z_iload_n (q := 33) C dX8_first_32 0 rfl rfl rfl ?_
      have hF := Option.some.inj hF
      subst hF
      exact z_iret C e1 e2 dX8_first_33
set_option maxRecDepth 20000 in
set_option maxHeartbeats 4000000 in
theorem J_fX8_first_c2 {κ : zT} (C : zC κ RX8 cX8_first 4 (some .int)) {d : Nat} (hR : zR κ = zrm (d + 1)) (hd : 3 ≤ d + 1) {N : Nat} {o0 : Nat} (ho0 : o0 < zN) (hd0 : zkd o0 = 8) {h : zH} {r : Int} (e1 : zrv κ = some (.int (zi r))) (e2 : zhf κ = h) : ∀ (k : Nat) (l1 : Int) (l2 : Int), fX8_first_c2 N o0 h k l1 l2 = some r → Z κ h 2 [(0, .ref (zα κ o0)), (1, .int (zi l1)), (2, .int (zi l2))] [] := by
  intro k
  induction k with
  | zero => intro l1 l2 hF; cases hF
  | succ k ih => intro l1 l2 hF; exact J_fX8_first_c2b C hR hd ho0 hd0 e1 e2 ih l1 l2 hF
set_option maxRecDepth 20000 in
set_option maxHeartbeats 4000000 in
theorem J_fX8_first {κ : zT} (C : zC κ RX8 cX8_first 4 (some .int)) {d : Nat} (hR : zR κ = zrm (d + 1)) (hd : 3 ≤ d + 1) {N : Nat} {o0 : Nat} (ho0 : o0 < zN) (hd0 : zkd o0 = 8) {h : zH} {r : Int} (e1 : zrv κ = some (.int (zi r))) (e2 : zhf κ = h) {a1 : Int} (hF : fX8_first N o0 a1 h = some r) : Z κ h 0 [(0, .ref (zα κ o0)), (1, .int (zi a1))] [] := by
  unfold fX8_first at hF
  refine z_iconst (q := 1) C dX8_first_0 rfl ?_
  refine z_istore_n (q := 2) C dX8_first_1 (by decide) rfl rfl rfl ?_
  exact z_sub (J_fX8_first_c2 C hR hd ho0 hd0 e1 e2 N _ _ hF) [1, 2, 0] rfl
set_option maxRecDepth 20000 in
set_option maxHeartbeats 4000000 in
theorem M_fX8_first {l : Launch} {D : va_G} {cy : ClassId} {α : Nat → Nat} {n : Nat} {σ : zSg} {d : Nat} (hd : 3 ≤ d) {N : Nat} {o0 : Nat} (ho0 : o0 < zN) (hd0 : zkd o0 = 8) {a1 : Int} {h : zH} {r : Int} (hF : fX8_first N o0 a1 h = some r) : zMet l yX8_first cX8_first 4 (some .int) (zrm d) D cy α n σ [.ref (α o0), .int (zi a1)] h (some (.int (zi r))) h := by
  obtain ⟨d, rfl⟩ : ∃ e, d = e + 1 := ⟨d - 1, by omega⟩
  refine z_met (by decide +kernel) (Nat.le_of_ble_eq_true rfl) (fun κ k1 k2 k3 k4 k5 k6 k7 k8 k9 C => ?_)
  subst k1 k3 k4 k5 k6 k7
  exact J_fX8_first C k2 hd ho0 hd0 k8 k9 hF
set_option maxRecDepth 20000 in
set_option maxHeartbeats 4000000 in
theorem J_fX8_time {κ : zT} (C : zC κ RX8 cX8_time 1 (some .int)) {d : Nat} (hR : zR κ = zrm (d + 1)) (hd : 1 ≤ d + 1) {o0 : Nat} (ho0 : o0 < zN) (hd0 : zkd o0 = 8) {h : zH} {r : Int} (e1 : zrv κ = some (.int (zi r))) (e2 : zhf κ = h) (hF : fX8_time o0 h = r) : Z κ h 0 [(0, .ref (zα κ o0))] [] := by
  unfold fX8_time at hF
  refine z_aload_n (q := 1) C dX8_time_0 0 rfl rfl rfl ?_
  refine z_getf (q := 4) C clX8 (zon C ho0) hd0 (k := 0) (by decide) q_184 rfl (zfv_r hd0 rfl rfl) dX8_time_1 rfl ?_
  refine z_bipush (q := 6) C dX8_time_4 bp_48 rfl ?_
  refine z_ialdc (q := 7) (j := 48) C (zon C (frl_8_0 ho0 hd0)) (frk_8_0 ho0 hd0) zwk_48 (by rw [(frn_8_0 ho0 hd0)]; decide) dX8_time_6 rfl ?_
  refine z_bipush (q := 9) C dX8_time_7 bp_24 rfl ?_
  refine z_irem (q := 10) C (by decide) dX8_time_9 rfl ?_
  subst hF
  exact z_iret C e1 e2 dX8_time_10
set_option maxRecDepth 20000 in
set_option maxHeartbeats 4000000 in
theorem M_fX8_time {l : Launch} {D : va_G} {cy : ClassId} {α : Nat → Nat} {n : Nat} {σ : zSg} {d : Nat} (hd : 1 ≤ d) {o0 : Nat} (ho0 : o0 < zN) (hd0 : zkd o0 = 8) {h : zH} {r : Int} (hF : fX8_time o0 h = r) : zMet l yX8_time cX8_time 1 (some .int) (zrm d) D cy α n σ [.ref (α o0)] h (some (.int (zi r))) h := by
  obtain ⟨d, rfl⟩ : ∃ e, d = e + 1 := ⟨d - 1, by omega⟩
  refine z_met (by decide +kernel) (Nat.le_of_ble_eq_true rfl) (fun κ k1 k2 k3 k4 k5 k6 k7 k8 k9 C => ?_)
  subst k1 k3 k4 k5 k6 k7
  exact J_fX8_time C k2 hd ho0 hd0 k8 k9 hF
set_option maxRecDepth 20000 in
set_option maxHeartbeats 4000000 in
theorem J_fX1_isOpen {κ : zT} (C : zC κ RX1 cX1_isOpen 3 (some .boolean)) {d : Nat} (hR : zR κ = zrm (d + 1)) (hd : 3 ≤ d + 1) {o0 : Nat} (ho0 : o0 < zN) (hd0 : zkd o0 = 1) {h : zH} {r : Int} (e1 : zrv κ = some (.int (zi r))) (e2 : zhf κ = h) {a1 : Int} {a2 : Int} (hF : fX1_isOpen o0 a1 a2 h = r) : Z κ h 0 [(0, .ref (zα κ o0)), (1, .int (zi a1)), (2, .int (zi a2))] [] := by
  unfold fX1_isOpen at hF
  refine z_iload_n (q := 1) C dX1_isOpen_0 2 rfl rfl rfl ?_
  refine z_aload_n (q := 2) C dX1_isOpen_1 0 rfl rfl rfl ?_
  refine z_iconst (q := 3) C dX1_isOpen_2 rfl ?_
  refine z_iload_n (q := 4) C dX1_isOpen_3 1 rfl rfl rfl ?_
  refine z_iconst (q := 5) C dX1_isOpen_4 rfl ?_
  refine z_callV (q := 8) (o := o0) (av := [.int (zi 2), .int (zi a1), .int (zi 0)]) (rest := [.int (zi a2)]) (stk2 := [.int (zi (fX1_item o0 2 a1 0 h)), .int (zi a2)]) C hR clX1 (zon C ho0) hd0 (M_fX1_item (zlv hd rfl) ho0 hd0 rfl) mY_X1_item q_475 (Nat.le_of_ble_eq_true rfl) dX1_isOpen_5 rfl rfl rfl ?_
  refine z_icmp_lt (tgt := 26) (q := 11) C dX1_isOpen_8 (by decide) rfl (fun c1 => ?_) (fun c1 => ?_)
  · have hF := (if_pos c1).symm.trans hF
    refine z_iconst (q := 27) C dX1_isOpen_26 rfl ?_
    subst hF
    exact z_zret C (zb01 (Or.inl rfl)) e1 e2 dX1_isOpen_27
  · have hF := (if_neg c1).symm.trans hF
    refine z_iload_n (q := 12) C dX1_isOpen_11 2 rfl rfl rfl ?_
    refine z_aload_n (q := 13) C dX1_isOpen_12 0 rfl rfl rfl ?_
    refine z_iconst (q := 14) C dX1_isOpen_13 rfl ?_
    refine z_iload_n (q := 15) C dX1_isOpen_14 1 rfl rfl rfl ?_
    refine z_iconst (q := 16) C dX1_isOpen_15 rfl ?_
    refine z_callV (q := 19) (o := o0) (av := [.int (zi 2), .int (zi a1), .int (zi 1)]) (rest := [.int (zi a2)]) (stk2 := [.int (zi (fX1_item o0 2 a1 1 h)), .int (zi a2)]) C hR clX1 (zon C ho0) hd0 (M_fX1_item (zlv hd rfl) ho0 hd0 rfl) mY_X1_item q_475 (Nat.le_of_ble_eq_true rfl) dX1_isOpen_16 rfl rfl rfl ?_
    refine z_icmp_ge (tgt := 26) (q := 22) C dX1_isOpen_19 (by decide) rfl (fun c2 => ?_) (fun c2 => ?_)
    · have hF := (if_pos c2).symm.trans hF
      refine z_iconst (q := 27) C dX1_isOpen_26 rfl ?_
      subst hF
      exact z_zret C (zb01 (Or.inl rfl)) e1 e2 dX1_isOpen_27
    · have hF := (if_neg c2).symm.trans hF
      refine z_iconst (q := 23) C dX1_isOpen_22 rfl ?_
      refine z_goto (q := 27) C dX1_isOpen_23 (by decide) ?_
      subst hF
      exact z_zret C (zb01 (Or.inr rfl)) e1 e2 dX1_isOpen_27
set_option maxRecDepth 20000 in
set_option maxHeartbeats 4000000 in
theorem M_fX1_isOpen {l : Launch} {D : va_G} {cy : ClassId} {α : Nat → Nat} {n : Nat} {σ : zSg} {d : Nat} (hd : 3 ≤ d) {o0 : Nat} (ho0 : o0 < zN) (hd0 : zkd o0 = 1) {a1 : Int} {a2 : Int} {h : zH} {r : Int} (hF : fX1_isOpen o0 a1 a2 h = r) : zMet l yX1_isOpen cX1_isOpen 3 (some .boolean) (zrm d) D cy α n σ [.ref (α o0), .int (zi a1), .int (zi a2)] h (some (.int (zi r))) h := by
  obtain ⟨d, rfl⟩ : ∃ e, d = e + 1 := ⟨d - 1, by omega⟩
  refine z_met (by decide +kernel) (Nat.le_of_ble_eq_true rfl) (fun κ k1 k2 k3 k4 k5 k6 k7 k8 k9 C => ?_)
  subst k1 k3 k4 k5 k6 k7
  exact J_fX1_isOpen C k2 hd ho0 hd0 k8 k9 hF
theorem B_fX1_isOpen {o0 : Nat} {a1 : Int} {a2 : Int} {h : zH} : fX1_isOpen o0 a1 a2 h = 0 ∨ fX1_isOpen o0 a1 a2 h = 1 := by
  unfold fX1_isOpen
  try simp only [zlet, zlet2]
  repeat' (first | exact Or.inl rfl | exact Or.inr rfl | apply zite01)
set_option maxRecDepth 20000 in
set_option maxHeartbeats 4000000 in
theorem J_fX10_desk {κ : zT} (C : zC κ RX10 cX10_desk 3 (some .int)) {d : Nat} (hR : zR κ = zrm (d + 1)) (hd : 4 ≤ d + 1) {N : Nat} {h : zH} {r : Int} (e1 : zrv κ = some (.int (zi r))) (e2 : zhf κ = h) {a1 : Int} {a2 : Int} (hF : fX10_desk N a1 a2 h = some r) : Z κ h 0 [(0, .ref (zα κ 0)), (1, .int (zi a1)), (2, .int (zi a2))] [] := by
  unfold fX10_desk at hF
  refine z_aload_n (q := 1) C dX10_desk_0 0 rfl rfl rfl ?_
  refine z_getf (q := 4) C clX10 (zon C zo_0) kd_0 (k := 1) (by decide) q_272 rfl (zfv_r kd_0 rfl fr_0_1) dX10_desk_1 rfl ?_
  refine z_iconst (q := 5) C dX10_desk_4 rfl ?_
  refine z_iload_n (q := 6) C dX10_desk_5 1 rfl rfl rfl ?_
  refine z_callV (q := 9) (o := 2) (av := [.int (zi 2), .int (zi a1)]) (rest := []) (stk2 := [.int (zi (fX1_has 2 2 a1 h))]) C hR clX1 (zon C zo_2) kd_2 (M_fX1_has (zlv hd rfl) zo_2 kd_2 rfl) mY_X1_has q_634 (Nat.le_of_ble_eq_true rfl) dX10_desk_6 rfl rfl rfl ?_
  refine z_if_eq (tgt := 16) (q := 12) C dX10_desk_9 (by decide) rfl (fun c1 => ?_) (fun c1 => ?_)
  · have hF := (if_pos c1).symm.trans hF
    refine z_iconst (q := 17) C dX10_desk_16 rfl ?_
    have hF := Option.some.inj hF
    subst hF
    exact z_iret C e1 e2 dX10_desk_17
  · have hF := (if_neg c1).symm.trans hF
    refine z_iload_n (q := 13) C dX10_desk_12 2 rfl rfl rfl ?_
    refine z_if_ge (tgt := 18) (q := 16) C dX10_desk_13 (by decide) rfl (fun c2 => ?_) (fun c2 => ?_)
    · have hF := (if_pos c2).symm.trans hF
      refine z_iload_n (q := 19) C dX10_desk_18 2 rfl rfl rfl ?_
      by_cases c3 : zw a2 = 4
      · have hF := (if_pos c3).symm.trans hF
        refine z_tableIn (off := 25) (tgt := 44) C c3 dX10_desk_19 (by decide) (by decide) (by decide) (by decide) ?_
        refine z_aload_n (q := 45) C dX10_desk_44 0 rfl rfl rfl ?_
        refine z_getf (q := 48) C clX10 (zon C zo_0) kd_0 (k := 6) (by decide) q_277 rfl (zfv_r kd_0 rfl fr_0_6) dX10_desk_45 rfl ?_
        refine z_iload_n (q := 49) C dX10_desk_48 1 rfl rfl rfl ?_
        obtain ⟨v4, ev4, hF⟩ := zb_e hF
        refine z_callV (q := 52) (o := 7) (av := [.int (zi a1)]) (rest := []) (stk2 := [.int (zi v4)]) C hR clX8 (zon C zo_7) kd_7 (M_fX8_backlog (zlv hd rfl) zo_7 kd_7 ev4) mY_X8_backlog q_635 (Nat.le_of_ble_eq_true rfl) dX10_desk_49 rfl rfl rfl ?_
        have hF := Option.some.inj hF
        subst hF
        exact z_iret C e1 e2 dX10_desk_52
      · have hF := (if_neg c3).symm.trans hF
        by_cases c5 : zw a2 = 5
        · have hF := (if_pos c5).symm.trans hF
          refine z_tableIn (off := 34) (tgt := 53) C c5 dX10_desk_19 (by decide) (by decide) (by decide) (by decide) ?_
          refine z_aload_n (q := 54) C dX10_desk_53 0 rfl rfl rfl ?_
          refine z_getf (q := 57) C clX10 (zon C zo_0) kd_0 (k := 6) (by decide) q_277 rfl (zfv_r kd_0 rfl fr_0_6) dX10_desk_54 rfl ?_
          refine z_iload_n (q := 58) C dX10_desk_57 1 rfl rfl rfl ?_
          obtain ⟨v6, ev6, hF⟩ := zb_e hF
          refine z_callV (q := 61) (o := 7) (av := [.int (zi a1)]) (rest := []) (stk2 := [.int (zi v6)]) C hR clX8 (zon C zo_7) kd_7 (M_fX8_first (zlv hd rfl) zo_7 kd_7 ev6) mY_X8_first q_644 (Nat.le_of_ble_eq_true rfl) dX10_desk_58 rfl rfl rfl ?_
          have hF := Option.some.inj hF
          subst hF
          exact z_iret C e1 e2 dX10_desk_61
        · have hF := (if_neg c5).symm.trans hF
          by_cases c7 : zw a2 = 6
          · have hF := (if_pos c7).symm.trans hF
            refine z_tableIn (off := 43) (tgt := 62) C c7 dX10_desk_19 (by decide) (by decide) (by decide) (by decide) ?_
            refine z_aload_n (q := 63) C dX10_desk_62 0 rfl rfl rfl ?_
            refine z_getf (q := 66) C clX10 (zon C zo_0) kd_0 (k := 1) (by decide) q_272 rfl (zfv_r kd_0 rfl fr_0_1) dX10_desk_63 rfl ?_
            refine z_iload_n (q := 67) C dX10_desk_66 1 rfl rfl rfl ?_
            refine z_aload_n (q := 68) C dX10_desk_67 0 rfl rfl rfl ?_
            refine z_getf (q := 71) C clX10 (zon C zo_0) kd_0 (k := 6) (by decide) q_277 rfl (zfv_r kd_0 rfl fr_0_6) dX10_desk_68 rfl ?_
            refine z_callV (q := 74) (o := 7) (av := []) (rest := [.int (zi a1), .ref (zα κ 2)]) (stk2 := [.int (zi (fX8_time 7 h)), .int (zi a1), .ref (zα κ 2)]) C hR clX8 (zon C zo_7) kd_7 (M_fX8_time (zlv hd rfl) zo_7 kd_7 rfl) mY_X8_time q_648 (Nat.le_of_ble_eq_true rfl) dX10_desk_71 rfl rfl rfl ?_
            refine z_callV (q := 77) (o := 2) (av := [.int (zi a1), .int (zi (fX8_time 7 h))]) (rest := []) (stk2 := [.int (zi (fX1_isOpen 2 a1 (fX8_time 7 h) h))]) C hR clX1 (zon C zo_2) kd_2 (M_fX1_isOpen (zlv hd rfl) zo_2 kd_2 rfl) mY_X1_isOpen q_652 (Nat.le_of_ble_eq_true rfl) dX10_desk_74 rfl rfl rfl ?_
            refine z_if_eq (tgt := 84) (q := 80) C dX10_desk_77 (by decide) rfl (fun c8 => ?_) (fun c8 => ?_)
            · have hF := (if_pos c8).symm.trans hF
              refine z_iconst (q := 85) C dX10_desk_84 rfl ?_
              have hF := Option.some.inj hF
              subst hF
              exact z_iret C e1 e2 dX10_desk_85
            · have hF := (if_neg c8).symm.trans hF
              refine z_iconst (q := 81) C dX10_desk_80 rfl ?_
              refine z_goto (q := 85) C dX10_desk_81 (by decide) ?_
              have hF := Option.some.inj hF
              subst hF
              exact z_iret C e1 e2 dX10_desk_85
          · have hF := (if_neg c7).symm.trans hF
            refine z_tableOut (tgt := 86) C dX10_desk_19 (by omega) (by decide) ?_
            refine z_iload_n (q := 87) C dX10_desk_86 2 rfl rfl rfl ?_
            refine z_iconst (q := 88) C dX10_desk_87 rfl ?_
            refine z_icmp_gt (tgt := 104) (q := 91) C dX10_desk_88 (by decide) rfl (fun c9 => ?_) (fun c9 => ?_)
            · have hF := (if_pos c9).symm.trans hF
              refine z_iconst (q := 105) C dX10_desk_104 rfl ?_
              have hF := Option.some.inj hF
              subst hF
              exact z_iret C e1 e2 dX10_desk_105
            · have hF := (if_neg c9).symm.trans hF
              refine z_aload_n (q := 92) C dX10_desk_91 0 rfl rfl rfl ?_
              refine z_getf (q := 95) C clX10 (zon C zo_0) kd_0 (k := 1) (by decide) q_272 rfl (zfv_r kd_0 rfl fr_0_1) dX10_desk_92 rfl ?_
              refine z_iconst (q := 96) C dX10_desk_95 rfl ?_
              refine z_iload_n (q := 97) C dX10_desk_96 1 rfl rfl rfl ?_
              refine z_iload_n (q := 98) C dX10_desk_97 2 rfl rfl rfl ?_
              refine z_callV (q := 101) (o := 2) (av := [.int (zi 2), .int (zi a1), .int (zi a2)]) (rest := []) (stk2 := [.int (zi (fX1_item 2 2 a1 a2 h))]) C hR clX1 (zon C zo_2) kd_2 (M_fX1_item (zlv hd rfl) zo_2 kd_2 rfl) mY_X1_item q_629 (Nat.le_of_ble_eq_true rfl) dX10_desk_98 rfl rfl rfl ?_
              refine z_goto (q := 105) C dX10_desk_101 (by decide) ?_
              have hF := Option.some.inj hF
              subst hF
              exact z_iret C e1 e2 dX10_desk_105
    · have hF := (if_neg c2).symm.trans hF
      refine z_iconst (q := 17) C dX10_desk_16 rfl ?_
      have hF := Option.some.inj hF
      subst hF
      exact z_iret C e1 e2 dX10_desk_17
set_option maxRecDepth 20000 in
set_option maxHeartbeats 4000000 in
theorem M_fX10_desk {l : Launch} {D : va_G} {cy : ClassId} {α : Nat → Nat} {n : Nat} {σ : zSg} {d : Nat} (hd : 4 ≤ d) {N : Nat} {a1 : Int} {a2 : Int} {h : zH} {r : Int} (hF : fX10_desk N a1 a2 h = some r) : zMet l yX10_desk cX10_desk 3 (some .int) (zrm d) D cy α n σ [.ref (α 0), .int (zi a1), .int (zi a2)] h (some (.int (zi r))) h := by
  obtain ⟨d, rfl⟩ : ∃ e, d = e + 1 := ⟨d - 1, by omega⟩
  refine z_met (by decide +kernel) (Nat.le_of_ble_eq_true rfl) (fun κ k1 k2 k3 k4 k5 k6 k7 k8 k9 C => ?_)
  subst k1 k3 k4 k5 k6 k7
  exact J_fX10_desk C k2 hd k8 k9 hF
set_option maxRecDepth 20000 in
set_option maxHeartbeats 4000000 in
theorem J_fX10_paper {κ : zT} (C : zC κ RX10 cX10_paper 4 (some .int)) {d : Nat} (hR : zR κ = zrm (d + 1)) (hd : 4 ≤ d + 1) {h : zH} {r : Int} (e1 : zrv κ = some (.int (zi r))) (e2 : zhf κ = h) {a1 : Int} {a2 : Int} (hF : fX10_paper a1 a2 h = r) : Z κ h 0 [(0, .ref (zα κ 0)), (1, .int (zi a1)), (2, .int (zi a2))] [] := by
  unfold fX10_paper at hF
  refine z_aload_n (q := 1) C dX10_paper_0 0 rfl rfl rfl ?_
  refine z_getf (q := 4) C clX10 (zon C zo_0) kd_0 (k := 1) (by decide) q_272 rfl (zfv_r kd_0 rfl fr_0_1) dX10_paper_1 rfl ?_
  refine z_iconst (q := 5) C dX10_paper_4 rfl ?_
  refine z_iload_n (q := 6) C dX10_paper_5 1 rfl rfl rfl ?_
  refine z_callV (q := 9) (o := 2) (av := [.int (zi 3), .int (zi a1)]) (rest := []) (stk2 := [.int (zi (fX1_has 2 3 a1 h))]) C hR clX1 (zon C zo_2) kd_2 (M_fX1_has (zlv hd rfl) zo_2 kd_2 rfl) mY_X1_has q_634 (Nat.le_of_ble_eq_true rfl) dX10_paper_6 rfl rfl rfl ?_
  refine z_if_eq (tgt := 21) (q := 12) C dX10_paper_9 (by decide) rfl (fun c1 => ?_) (fun c1 => ?_)
  · have hF := (if_pos c1).symm.trans hF
    refine z_iconst (q := 22) C dX10_paper_21 rfl ?_
    subst hF
    exact z_iret C e1 e2 dX10_paper_22
  · have hF := (if_neg c1).symm.trans hF
    refine z_iload_n (q := 13) C dX10_paper_12 2 rfl rfl rfl ?_
    refine z_if_lt (tgt := 21) (q := 16) C dX10_paper_13 (by decide) rfl (fun c2 => ?_) (fun c2 => ?_)
    · have hF := (if_pos c2).symm.trans hF
      refine z_iconst (q := 22) C dX10_paper_21 rfl ?_
      subst hF
      exact z_iret C e1 e2 dX10_paper_22
    · have hF := (if_neg c2).symm.trans hF
      refine z_iload_n (q := 17) C dX10_paper_16 2 rfl rfl rfl ?_
      refine z_iconst (q := 18) C dX10_paper_17 rfl ?_
      refine z_icmp_le (tgt := 23) (q := 21) C dX10_paper_18 (by decide) rfl (fun c3 => ?_) (fun c3 => ?_)
      · have hF := (if_pos c3).symm.trans hF
        refine z_aload_n (q := 24) C dX10_paper_23 0 rfl rfl rfl ?_
        refine z_getf (q := 27) C clX10 (zon C zo_0) kd_0 (k := 1) (by decide) q_272 rfl (zfv_r kd_0 rfl fr_0_1) dX10_paper_24 rfl ?_
        refine z_iconst (q := 28) C dX10_paper_27 rfl ?_
        refine z_iload_n (q := 29) C dX10_paper_28 1 rfl rfl rfl ?_
        refine z_iload_n (q := 30) C dX10_paper_29 2 rfl rfl rfl ?_
        refine z_callV (q := 33) (o := 2) (av := [.int (zi 3), .int (zi a1), .int (zi a2)]) (rest := []) (stk2 := [.int (zi (fX1_item 2 3 a1 a2 h))]) C hR clX1 (zon C zo_2) kd_2 (M_fX1_item (zlv hd rfl) zo_2 kd_2 rfl) mY_X1_item q_629 (Nat.le_of_ble_eq_true rfl) dX10_paper_30 rfl rfl rfl ?_
        obtain ⟨v4, ev4, hF⟩ := zlet_e hF
        refine z_istoreE_n (q := 34) C ev4 dX10_paper_33 (by decide) rfl rfl rfl ?_
        refine z_iload_n (q := 35) C dX10_paper_34 3 rfl rfl rfl ?_
        refine z_if_eq (tgt := 48) (q := 38) C dX10_paper_35 (by decide) rfl (fun c5 => ?_) (fun c5 => ?_)
        · have hF := (if_pos c5).symm.trans hF
          refine z_iload_n (q := 49) C dX10_paper_48 0 rfl rfl rfl ?_
          subst hF
          exact z_iret C e1 e2 dX10_paper_49
        · have hF := (if_neg c5).symm.trans hF
          refine z_iload_n (q := 39) C dX10_paper_38 0 rfl rfl rfl ?_
          refine z_bipush (q := 41) C dX10_paper_39 bp_8 rfl ?_
          refine z_icmp_ne (tgt := 48) (q := 44) C dX10_paper_41 (by decide) rfl (fun c6 => ?_) (fun c6 => ?_)
          · have hF := (if_neg c6).symm.trans hF
            refine z_iload_n (q := 49) C dX10_paper_48 0 rfl rfl rfl ?_
            subst hF
            exact z_iret C e1 e2 dX10_paper_49
          · have hF := (if_pos c6).symm.trans hF
            refine z_iconst (q := 45) C dX10_paper_44 rfl ?_
            refine z_goto (q := 49) C dX10_paper_45 (by decide) ?_
            subst hF
            exact z_iret C e1 e2 dX10_paper_49
      · have hF := (if_neg c3).symm.trans hF
        refine z_iconst (q := 22) C dX10_paper_21 rfl ?_
        subst hF
        exact z_iret C e1 e2 dX10_paper_22
set_option maxRecDepth 20000 in
set_option maxHeartbeats 4000000 in
theorem M_fX10_paper {l : Launch} {D : va_G} {cy : ClassId} {α : Nat → Nat} {n : Nat} {σ : zSg} {d : Nat} (hd : 4 ≤ d) {a1 : Int} {a2 : Int} {h : zH} {r : Int} (hF : fX10_paper a1 a2 h = r) : zMet l yX10_paper cX10_paper 4 (some .int) (zrm d) D cy α n σ [.ref (α 0), .int (zi a1), .int (zi a2)] h (some (.int (zi r))) h := by
  obtain ⟨d, rfl⟩ : ∃ e, d = e + 1 := ⟨d - 1, by omega⟩
  refine z_met (by decide +kernel) (Nat.le_of_ble_eq_true rfl) (fun κ k1 k2 k3 k4 k5 k6 k7 k8 k9 C => ?_)
  subst k1 k3 k4 k5 k6 k7
  exact J_fX10_paper C k2 hd k8 k9 hF
set_option maxRecDepth 20000 in
set_option maxHeartbeats 4000000 in
theorem J_fX10_rule {κ : zT} (C : zC κ RX10 cX10_rule 2 (some .boolean)) {d : Nat} (hR : zR κ = zrm (d + 1)) (hd : 1 ≤ d + 1) {r : Int × zH} (e1 : zrv κ = some (.int (zi r.1))) (e2 : zhf κ = r.2) {a1 : Int} {h : zH} (hF : fX10_rule a1 h = r) : Z κ h 0 [(0, .ref (zα κ 0)), (1, .int (zi a1))] [] := by
  unfold fX10_rule at hF
  refine z_iload_n (q := 1) C dX10_rule_0 1 rfl rfl rfl ?_
  refine z_iconst (q := 2) C dX10_rule_1 rfl ?_
  refine z_icmp_lt (tgt := 16) (q := 5) C dX10_rule_2 (by decide) rfl (fun c1 => ?_) (fun c1 => ?_)
  · have hF := (if_pos c1).symm.trans hF
    refine z_iconst (q := 17) C dX10_rule_16 rfl ?_
    subst hF
    exact z_zret C (zb01 (Or.inl rfl)) e1 e2 dX10_rule_17
  · have hF := (if_neg c1).symm.trans hF
    refine z_iload_n (q := 6) C dX10_rule_5 1 rfl rfl rfl ?_
    refine z_aload_n (q := 7) C dX10_rule_6 0 rfl rfl rfl ?_
    refine z_getf (q := 10) C clX10 (zon C zo_0) kd_0 (k := 4) (by decide) q_275 rfl (zfv_r kd_0 rfl fr_0_4) dX10_rule_7 rfl ?_
    refine z_getf (q := 13) C clX5 (zon C zo_5) kd_5 (k := 0) (by decide) q_131 rfl (zfv_i kd_5 rfl) dX10_rule_10 rfl ?_
    refine z_icmp_lt (tgt := 18) (q := 16) C dX10_rule_13 (by decide) rfl (fun c2 => ?_) (fun c2 => ?_)
    · have hF := (if_pos c2).symm.trans hF
      refine z_aload_n (q := 19) C dX10_rule_18 0 rfl rfl rfl ?_
      refine z_getf (q := 22) C clX10 (zon C zo_0) kd_0 (k := 4) (by decide) q_275 rfl (zfv_r kd_0 rfl fr_0_4) dX10_rule_19 rfl ?_
      refine z_iload_n (q := 23) C dX10_rule_22 1 rfl rfl rfl ?_
      obtain ⟨h3, eh3, hF⟩ := zlet_e hF
      refine z_putf (q := 26) C clX5 (zon C zo_5) kd_5 (k := 1) (x := a1) (by decide) q_133 rfl rfl rfl rfl (((zfv_i kd_5 rfl)).trans (by rw [if_pos rfl])) dX10_rule_23 rfl eh3 ?_
      refine z_iconst (q := 27) C dX10_rule_26 rfl ?_
      subst hF
      exact z_zret C (zb01 (Or.inr rfl)) e1 e2 dX10_rule_27
    · have hF := (if_neg c2).symm.trans hF
      refine z_iconst (q := 17) C dX10_rule_16 rfl ?_
      subst hF
      exact z_zret C (zb01 (Or.inl rfl)) e1 e2 dX10_rule_17
set_option maxRecDepth 20000 in
set_option maxHeartbeats 4000000 in
theorem M_fX10_rule {l : Launch} {D : va_G} {cy : ClassId} {α : Nat → Nat} {n : Nat} {σ : zSg} {d : Nat} (hd : 1 ≤ d) {a1 : Int} {h : zH} {r : Int} {g : zH} (hF : fX10_rule a1 h = (r, g)) : zMet l yX10_rule cX10_rule 2 (some .boolean) (zrm d) D cy α n σ [.ref (α 0), .int (zi a1)] h (some (.int (zi r))) g := by
  obtain ⟨d, rfl⟩ : ∃ e, d = e + 1 := ⟨d - 1, by omega⟩
  refine z_met (by decide +kernel) (Nat.le_of_ble_eq_true rfl) (fun κ k1 k2 k3 k4 k5 k6 k7 k8 k9 C => ?_)
  subst k1 k3 k4 k5 k6 k7
  exact J_fX10_rule C k2 hd k8 k9 hF
set_option maxRecDepth 20000 in
set_option maxHeartbeats 4000000 in
theorem J_fX10_eclipse {κ : zT} (C : zC κ RX10 cX10_eclipse 2 (some .boolean)) {d : Nat} (hR : zR κ = zrm (d + 1)) (hd : 1 ≤ d + 1) {r : Int × zH} (e1 : zrv κ = some (.int (zi r.1))) (e2 : zhf κ = r.2) {a1 : Int} {h : zH} (hF : fX10_eclipse a1 h = r) : Z κ h 0 [(0, .ref (zα κ 0)), (1, .int (zi a1))] [] := by
  unfold fX10_eclipse at hF
  refine z_iload_n (q := 1) C dX10_eclipse_0 1 rfl rfl rfl ?_
  refine z_if_lt (tgt := 18) (q := 4) C dX10_eclipse_1 (by decide) rfl (fun c1 => ?_) (fun c1 => ?_)
  · have hF := (if_pos c1).symm.trans hF
    refine z_iconst (q := 19) C dX10_eclipse_18 rfl ?_
    subst hF
    exact z_zret C (zb01 (Or.inl rfl)) e1 e2 dX10_eclipse_19
  · have hF := (if_neg c1).symm.trans hF
    refine z_iload_n (q := 5) C dX10_eclipse_4 1 rfl rfl rfl ?_
    refine z_bipush (q := 7) C dX10_eclipse_5 bp_99 rfl ?_
    refine z_icmp_gt (tgt := 18) (q := 10) C dX10_eclipse_7 (by decide) rfl (fun c2 => ?_) (fun c2 => ?_)
    · have hF := (if_pos c2).symm.trans hF
      refine z_iconst (q := 19) C dX10_eclipse_18 rfl ?_
      subst hF
      exact z_zret C (zb01 (Or.inl rfl)) e1 e2 dX10_eclipse_19
    · have hF := (if_neg c2).symm.trans hF
      refine z_iload_n (q := 11) C dX10_eclipse_10 1 rfl rfl rfl ?_
      refine z_aload_n (q := 12) C dX10_eclipse_11 0 rfl rfl rfl ?_
      refine z_getf (q := 15) C clX10 (zon C zo_0) kd_0 (k := 14) (by decide) q_285 rfl (zfv_i kd_0 rfl) dX10_eclipse_12 rfl ?_
      refine z_icmp_ne (tgt := 20) (q := 18) C dX10_eclipse_15 (by decide) rfl (fun c3 => ?_) (fun c3 => ?_)
      · have hF := (if_neg c3).symm.trans hF
        refine z_aload_n (q := 21) C dX10_eclipse_20 0 rfl rfl rfl ?_
        refine z_iload_n (q := 22) C dX10_eclipse_21 1 rfl rfl rfl ?_
        obtain ⟨h4, eh4, hF⟩ := zlet_e hF
        refine z_putf (q := 25) C clX10 (zon C zo_0) kd_0 (k := 14) (x := a1) (by decide) q_285 rfl rfl rfl rfl (((zfv_i kd_0 rfl)).trans (by rw [if_pos rfl])) dX10_eclipse_22 rfl eh4 ?_
        refine z_iconst (q := 26) C dX10_eclipse_25 rfl ?_
        subst hF
        exact z_zret C (zb01 (Or.inr rfl)) e1 e2 dX10_eclipse_26
      · have hF := (if_pos c3).symm.trans hF
        refine z_iconst (q := 19) C dX10_eclipse_18 rfl ?_
        subst hF
        exact z_zret C (zb01 (Or.inl rfl)) e1 e2 dX10_eclipse_19
set_option maxRecDepth 20000 in
set_option maxHeartbeats 4000000 in
theorem M_fX10_eclipse {l : Launch} {D : va_G} {cy : ClassId} {α : Nat → Nat} {n : Nat} {σ : zSg} {d : Nat} (hd : 1 ≤ d) {a1 : Int} {h : zH} {r : Int} {g : zH} (hF : fX10_eclipse a1 h = (r, g)) : zMet l yX10_eclipse cX10_eclipse 2 (some .boolean) (zrm d) D cy α n σ [.ref (α 0), .int (zi a1)] h (some (.int (zi r))) g := by
  obtain ⟨d, rfl⟩ : ∃ e, d = e + 1 := ⟨d - 1, by omega⟩
  refine z_met (by decide +kernel) (Nat.le_of_ble_eq_true rfl) (fun κ k1 k2 k3 k4 k5 k6 k7 k8 k9 C => ?_)
  subst k1 k3 k4 k5 k6 k7
  exact J_fX10_eclipse C k2 hd k8 k9 hF
set_option maxRecDepth 20000 in
set_option maxHeartbeats 4000000 in
theorem J_fX8_hour {κ : zT} (C : zC κ RX8 cX8_hour 1 (some .int)) {d : Nat} (hR : zR κ = zrm (d + 1)) (hd : 1 ≤ d + 1) {o0 : Nat} (ho0 : o0 < zN) (hd0 : zkd o0 = 8) {h : zH} {r : Int} (e1 : zrv κ = some (.int (zi r))) (e2 : zhf κ = h) (hF : fX8_hour o0 h = r) : Z κ h 0 [(0, .ref (zα κ o0))] [] := by
  unfold fX8_hour at hF
  refine z_aload_n (q := 1) C dX8_hour_0 0 rfl rfl rfl ?_
  refine z_getf (q := 4) C clX8 (zon C ho0) hd0 (k := 0) (by decide) q_184 rfl (zfv_r hd0 rfl rfl) dX8_hour_1 rfl ?_
  refine z_bipush (q := 6) C dX8_hour_4 bp_48 rfl ?_
  refine z_ialdc (q := 7) (j := 48) C (zon C (frl_8_0 ho0 hd0)) (frk_8_0 ho0 hd0) zwk_48 (by rw [(frn_8_0 ho0 hd0)]; decide) dX8_hour_6 rfl ?_
  subst hF
  exact z_iret C e1 e2 dX8_hour_7
set_option maxRecDepth 20000 in
set_option maxHeartbeats 4000000 in
theorem M_fX8_hour {l : Launch} {D : va_G} {cy : ClassId} {α : Nat → Nat} {n : Nat} {σ : zSg} {d : Nat} (hd : 1 ≤ d) {o0 : Nat} (ho0 : o0 < zN) (hd0 : zkd o0 = 8) {h : zH} {r : Int} (hF : fX8_hour o0 h = r) : zMet l yX8_hour cX8_hour 1 (some .int) (zrm d) D cy α n σ [.ref (α o0)] h (some (.int (zi r))) h := by
  obtain ⟨d, rfl⟩ : ∃ e, d = e + 1 := ⟨d - 1, by omega⟩
  refine z_met (by decide +kernel) (Nat.le_of_ble_eq_true rfl) (fun κ k1 k2 k3 k4 k5 k6 k7 k8 k9 C => ?_)
  subst k1 k3 k4 k5 k6 k7
  exact J_fX8_hour C k2 hd ho0 hd0 k8 k9 hF
set_option maxRecDepth 20000 in
set_option maxHeartbeats 4000000 in
theorem J_fX1_wants {κ : zT} (C : zC κ RX1 cX1_wants 2 (some .int)) {d : Nat} (hR : zR κ = zrm (d + 1)) (hd : 2 ≤ d + 1) {o0 : Nat} (ho0 : o0 < zN) (hd0 : zkd o0 = 1) {h : zH} {r : Int} (e1 : zrv κ = some (.int (zi r))) (e2 : zhf κ = h) {a1 : Int} (hF : fX1_wants o0 a1 h = r) : Z κ h 0 [(0, .ref (zα κ o0)), (1, .int (zi a1))] [] := by
  unfold fX1_wants at hF
  refine z_aload_n (q := 1) C dX1_wants_0 0 rfl rfl rfl ?_
  refine z_getf (q := 4) C clX1 (zon C ho0) hd0 (k := 2) (by decide) q_68 rfl (zfv_r hd0 rfl rfl) dX1_wants_1 rfl ?_
  refine z_iload_n (q := 5) C dX1_wants_4 1 rfl rfl rfl ?_
  refine z_callSN (q := 8) (av := [.ref (zα κ (zfr o0 2)), .int (zi a1)]) (rest := []) (stk2 := [.int (zi (fX10_at (zfr o0 2) a1 h))]) C hR (M_fX10_at (zlv hd rfl) (frl_1_2 ho0 hd0) (frk_1_2 ho0 hd0) rfl) mY_X10_at q_362 (Nat.le_of_ble_eq_true rfl) dX1_wants_5 rfl rfl rfl ?_
  subst hF
  exact z_iret C e1 e2 dX1_wants_8
set_option maxRecDepth 20000 in
set_option maxHeartbeats 4000000 in
theorem M_fX1_wants {l : Launch} {D : va_G} {cy : ClassId} {α : Nat → Nat} {n : Nat} {σ : zSg} {d : Nat} (hd : 2 ≤ d) {o0 : Nat} (ho0 : o0 < zN) (hd0 : zkd o0 = 1) {a1 : Int} {h : zH} {r : Int} (hF : fX1_wants o0 a1 h = r) : zMet l yX1_wants cX1_wants 2 (some .int) (zrm d) D cy α n σ [.ref (α o0), .int (zi a1)] h (some (.int (zi r))) h := by
  obtain ⟨d, rfl⟩ : ∃ e, d = e + 1 := ⟨d - 1, by omega⟩
  refine z_met (by decide +kernel) (Nat.le_of_ble_eq_true rfl) (fun κ k1 k2 k3 k4 k5 k6 k7 k8 k9 C => ?_)
  subst k1 k3 k4 k5 k6 k7
  exact J_fX1_wants C k2 hd ho0 hd0 k8 k9 hF
set_option maxRecDepth 20000 in
set_option maxHeartbeats 4000000 in
theorem J_fX8_allows {κ : zT} (C : zC κ RX8 cX8_allows 6 (some .boolean)) {d : Nat} (hR : zR κ = zrm (d + 1)) (hd : 4 ≤ d + 1) {o0 : Nat} (ho0 : o0 < zN) (hd0 : zkd o0 = 8) {o1 : Nat} (ho1 : o1 < zN) (hd1 : zkd o1 = 1) {h : zH} {r : Int} (e1 : zrv κ = some (.int (zi r))) (e2 : zhf κ = h) {a2 : Int} {a3 : Int} {a4 : Int} (hF : fX8_allows o0 o1 a2 a3 a4 h = r) : Z κ h 0 [(0, .ref (zα κ o0)), (1, .ref (zα κ o1)), (2, .int (zi a2)), (3, .int (zi a3)), (4, .int (zi a4))] [] := by
  unfold fX8_allows at hF
  refine z_iload_n (q := 1) C dX8_allows_0 2 rfl rfl rfl ?_
  refine z_iconst (q := 2) C dX8_allows_1 rfl ?_
  refine z_icmp_ne (tgt := 21) (q := 5) C dX8_allows_2 (by decide) rfl (fun c1 => ?_) (fun c1 => ?_)
  · have hF := (if_neg c1).symm.trans hF
    refine z_aload_n (q := 22) C dX8_allows_21 1 rfl rfl rfl ?_
    refine z_iconst (q := 23) C dX8_allows_22 rfl ?_
    refine z_iload_n (q := 24) C dX8_allows_23 3 rfl rfl rfl ?_
    refine z_callV (q := 27) (o := o1) (av := [.int (zi 1), .int (zi a3)]) (rest := []) (stk2 := [.int (zi (fX1_has o1 1 a3 h))]) C hR clX1 (zon C ho1) hd1 (M_fX1_has (zlv hd rfl) ho1 hd1 rfl) mY_X1_has q_680 (Nat.le_of_ble_eq_true rfl) dX8_allows_24 rfl rfl rfl ?_
    refine z_if_ne (tgt := 32) (q := 30) C dX8_allows_27 (by decide) rfl (fun c3 => ?_) (fun c3 => ?_)
    · have hF := (if_neg c3).symm.trans hF
      refine z_iload_n (q := 33) C dX8_allows_32 2 rfl rfl rfl ?_
      refine z_iconst (q := 34) C dX8_allows_33 rfl ?_
      refine z_icmp_ne (tgt := 53) (q := 37) C dX8_allows_34 (by decide) rfl (fun c4 => ?_) (fun c4 => ?_)
      · have hF := (if_neg c4).symm.trans hF
        refine z_aload_n (q := 54) C dX8_allows_53 0 rfl rfl rfl ?_
        refine z_iconst (q := 55) C dX8_allows_54 rfl ?_
        refine z_iload_n (q := 56) C dX8_allows_55 3 rfl rfl rfl ?_
        refine z_callV (q := 59) (o := o0) (av := [.int (zi 0), .int (zi a3)]) (rest := []) (stk2 := [.int (zi (fX8_of o0 0 a3 h))]) C hR clX8 (zon C ho0) hd0 (M_fX8_of (zlv hd rfl) ho0 hd0 rfl) mY_X8_of q_639 (Nat.le_of_ble_eq_true rfl) dX8_allows_56 rfl rfl rfl ?_
        obtain ⟨v6, ev6, hF⟩ := zlet_e hF
        refine z_istoreE (q := 61) C ev6 dX8_allows_59 (by decide) rfl rfl ?_
        refine z_aload_n (q := 62) C dX8_allows_61 2 rfl rfl rfl ?_
        refine z_iconst (q := 63) C dX8_allows_62 rfl ?_
        refine z_iload (q := 65) C dX8_allows_63 5 rfl rfl ?_
        refine z_callV (q := 68) (o := o1) (av := [.int (zi 3), .int (zi a4)]) (rest := []) (stk2 := [.int (zi (fX1_has o1 3 a4 h))]) C hR clX1 (zon C ho1) hd1 (M_fX1_has (zlv hd rfl) ho1 hd1 rfl) mY_X1_has q_680 (Nat.le_of_ble_eq_true rfl) dX8_allows_65 rfl rfl rfl ?_
        refine z_if_eq (tgt := 109) (q := 71) C dX8_allows_68 (by decide) rfl (fun c7 => ?_) (fun c7 => ?_)
        · have hF := (if_pos c7).symm.trans hF
          refine z_iconst (q := 110) C dX8_allows_109 rfl ?_
          subst hF
          exact z_zret C (zb01 (Or.inl rfl)) e1 e2 dX8_allows_110
        · have hF := (if_neg c7).symm.trans hF
          refine z_aload_n (q := 72) C dX8_allows_71 1 rfl rfl rfl ?_
          refine z_iconst (q := 73) C dX8_allows_72 rfl ?_
          refine z_iload_n (q := 74) C dX8_allows_73 4 rfl rfl rfl ?_
          refine z_callV (q := 77) (o := o0) (av := [.int (zi 1), .int (zi a3)]) (rest := []) (stk2 := [.int (zi (fX8_of o0 1 a3 h))]) C hR clX8 (zon C ho0) hd0 (M_fX8_of (zlv hd rfl) ho0 hd0 rfl) mY_X8_of q_639 (Nat.le_of_ble_eq_true rfl) dX8_allows_74 rfl rfl rfl ?_
          refine z_iconst (q := 78) C dX8_allows_77 rfl ?_
          refine z_icmp_ne (tgt := 109) (q := 81) C dX8_allows_78 (by decide) rfl (fun c8 => ?_) (fun c8 => ?_)
          · have hF := (if_neg c8).symm.trans hF
            refine z_iconst (q := 110) C dX8_allows_109 rfl ?_
            subst hF
            exact z_zret C (zb01 (Or.inl rfl)) e1 e2 dX8_allows_110
          · have hF := (if_pos c8).symm.trans hF
            refine z_iload (q := 83) C dX8_allows_81 0 rfl rfl ?_
            refine z_iload (q := 85) C dX8_allows_83 5 rfl rfl ?_
            refine z_callSN (q := 88) (av := [.int (zi v6), .int (zi a4)]) (rest := []) (stk2 := [.int (zi (fX10_isIn v6 a4))]) C hR (M_fX10_isIn (zlv hd rfl) rfl) mY_X10_isIn q_681 (Nat.le_of_ble_eq_true rfl) dX8_allows_85 rfl rfl rfl ?_
            refine z_if_ne (tgt := 109) (q := 91) C dX8_allows_88 (by decide) rfl (fun c9 => ?_) (fun c9 => ?_)
            · have hF := (if_neg c9).symm.trans hF
              refine z_iconst (q := 110) C dX8_allows_109 rfl ?_
              subst hF
              exact z_zret C (zb01 (Or.inl rfl)) e1 e2 dX8_allows_110
            · have hF := (if_pos c9).symm.trans hF
              refine z_aload_n (q := 92) C dX8_allows_91 2 rfl rfl rfl ?_
              refine z_iload (q := 94) C dX8_allows_92 5 rfl rfl ?_
              refine z_callV (q := 97) (o := o1) (av := [.int (zi a4)]) (rest := []) (stk2 := [.int (zi (fX1_wants o1 a4 h))]) C hR clX1 (zon C ho1) hd1 (M_fX1_wants (zlv hd rfl) ho1 hd1 rfl) mY_X1_wants q_682 (Nat.le_of_ble_eq_true rfl) dX8_allows_94 rfl rfl rfl ?_
              refine z_iload (q := 99) C dX8_allows_97 0 rfl rfl ?_
              refine z_iconst (q := 100) C dX8_allows_99 rfl ?_
              refine z_ixor (q := 101) C dX8_allows_100 rfl ?_
              refine z_iand (q := 102) C dX8_allows_101 rfl ?_
              refine z_if_ne (tgt := 109) (q := 105) C dX8_allows_102 (by decide) rfl (fun c10 => ?_) (fun c10 => ?_)
              · have hF := (if_neg c10).symm.trans hF
                refine z_iconst (q := 110) C dX8_allows_109 rfl ?_
                subst hF
                exact z_zret C (zb01 (Or.inl rfl)) e1 e2 dX8_allows_110
              · have hF := (if_pos c10).symm.trans hF
                refine z_iconst (q := 106) C dX8_allows_105 rfl ?_
                refine z_goto (q := 110) C dX8_allows_106 (by decide) ?_
                subst hF
                exact z_zret C (zb01 (Or.inr rfl)) e1 e2 dX8_allows_110
      · have hF := (if_pos c4).symm.trans hF
        refine z_aload_n (q := 38) C dX8_allows_37 0 rfl rfl rfl ?_
        refine z_iconst (q := 39) C dX8_allows_38 rfl ?_
        refine z_iload_n (q := 40) C dX8_allows_39 3 rfl rfl rfl ?_
        refine z_callV (q := 43) (o := o0) (av := [.int (zi 1), .int (zi a3)]) (rest := []) (stk2 := [.int (zi (fX8_of o0 1 a3 h))]) C hR clX8 (zon C ho0) hd0 (M_fX8_of (zlv hd rfl) ho0 hd0 rfl) mY_X8_of q_639 (Nat.le_of_ble_eq_true rfl) dX8_allows_40 rfl rfl rfl ?_
        refine z_iconst (q := 44) C dX8_allows_43 rfl ?_
        refine z_icmp_eq (tgt := 51) (q := 47) C dX8_allows_44 (by decide) rfl (fun c5 => ?_) (fun c5 => ?_)
        · have hF := (if_pos c5).symm.trans hF
          refine z_iconst (q := 52) C dX8_allows_51 rfl ?_
          subst hF
          exact z_zret C (zb01 (Or.inl rfl)) e1 e2 dX8_allows_52
        · have hF := (if_neg c5).symm.trans hF
          refine z_iconst (q := 48) C dX8_allows_47 rfl ?_
          refine z_goto (q := 52) C dX8_allows_48 (by decide) ?_
          subst hF
          exact z_zret C (zb01 (Or.inr rfl)) e1 e2 dX8_allows_52
    · have hF := (if_pos c3).symm.trans hF
      refine z_iconst (q := 31) C dX8_allows_30 rfl ?_
      subst hF
      exact z_zret C (zb01 (Or.inl rfl)) e1 e2 dX8_allows_31
  · have hF := (if_pos c1).symm.trans hF
    refine z_aload_n (q := 6) C dX8_allows_5 0 rfl rfl rfl ?_
    refine z_callV (q := 9) (o := o0) (av := []) (rest := []) (stk2 := [.int (zi (fX8_hour o0 h))]) C hR clX8 (zon C ho0) hd0 (M_fX8_hour (zlv hd rfl) ho0 hd0 rfl) mY_X8_hour q_676 (Nat.le_of_ble_eq_true rfl) dX8_allows_6 rfl rfl rfl ?_
    refine z_sipush (q := 12) C dX8_allows_9 sp_9999 rfl ?_
    refine z_icmp_ge (tgt := 19) (q := 15) C dX8_allows_12 (by decide) rfl (fun c2 => ?_) (fun c2 => ?_)
    · have hF := (if_pos c2).symm.trans hF
      refine z_iconst (q := 20) C dX8_allows_19 rfl ?_
      subst hF
      exact z_zret C (zb01 (Or.inl rfl)) e1 e2 dX8_allows_20
    · have hF := (if_neg c2).symm.trans hF
      refine z_iconst (q := 16) C dX8_allows_15 rfl ?_
      refine z_goto (q := 20) C dX8_allows_16 (by decide) ?_
      subst hF
      exact z_zret C (zb01 (Or.inr rfl)) e1 e2 dX8_allows_20
set_option maxRecDepth 20000 in
set_option maxHeartbeats 4000000 in
theorem M_fX8_allows {l : Launch} {D : va_G} {cy : ClassId} {α : Nat → Nat} {n : Nat} {σ : zSg} {d : Nat} (hd : 4 ≤ d) {o0 : Nat} (ho0 : o0 < zN) (hd0 : zkd o0 = 8) {o1 : Nat} (ho1 : o1 < zN) (hd1 : zkd o1 = 1) {a2 : Int} {a3 : Int} {a4 : Int} {h : zH} {r : Int} (hF : fX8_allows o0 o1 a2 a3 a4 h = r) : zMet l yX8_allows cX8_allows 6 (some .boolean) (zrm d) D cy α n σ [.ref (α o0), .ref (α o1), .int (zi a2), .int (zi a3), .int (zi a4)] h (some (.int (zi r))) h := by
  obtain ⟨d, rfl⟩ : ∃ e, d = e + 1 := ⟨d - 1, by omega⟩
  refine z_met (by decide +kernel) (Nat.le_of_ble_eq_true rfl) (fun κ k1 k2 k3 k4 k5 k6 k7 k8 k9 C => ?_)
  subst k1 k3 k4 k5 k6 k7
  exact J_fX8_allows C k2 hd ho0 hd0 ho1 hd1 k8 k9 hF
theorem B_fX8_allows {o0 : Nat} {o1 : Nat} {a2 : Int} {a3 : Int} {a4 : Int} {h : zH} : fX8_allows o0 o1 a2 a3 a4 h = 0 ∨ fX8_allows o0 o1 a2 a3 a4 h = 1 := by
  unfold fX8_allows
  try simp only [zlet, zlet2]
  repeat' (first | exact Or.inl rfl | exact Or.inr rfl | exact B_fX1_has | exact B_fX10_isIn | apply zite01)
set_option maxRecDepth 20000 in
set_option maxHeartbeats 4000000 in
theorem J_fJ9_floorMod_7cf53 {κ : zT} (C : zC κ RJ9 cJ9_floorMod_7cf53 3 (some .int)) {d : Nat} (hR : zR κ = zrm (d + 1)) (hd : 1 ≤ d + 1) {h : zH} {r : Int} (e1 : zrv κ = some (.int (zi r))) (e2 : zhf κ = h) {a0 : Int} {a1 : Int} (hF : fJ9_floorMod_7cf53 a0 a1 = some r) : Z κ h 0 [(0, .int (zi a0)), (1, .int (zi a1))] [] := by
  unfold fJ9_floorMod_7cf53 at hF
  refine z_iload_n (q := 1) C dJ9_floorMod_7cf53_0 0 rfl rfl rfl ?_
  refine z_iload_n (q := 2) C dJ9_floorMod_7cf53_1 1 rfl rfl rfl ?_
  obtain ⟨g1, hF⟩ := zif_none hF
  refine z_irem (q := 3) C g1 dJ9_floorMod_7cf53_2 rfl ?_
  refine z_istore_n (q := 4) C dJ9_floorMod_7cf53_3 (by decide) rfl rfl rfl ?_
  refine z_iload_n (q := 5) C dJ9_floorMod_7cf53_4 1 rfl rfl rfl ?_
  refine z_iload_n (q := 6) C dJ9_floorMod_7cf53_5 2 rfl rfl rfl ?_
  refine z_ixor (q := 7) C dJ9_floorMod_7cf53_6 rfl ?_
  refine z_if_ge (tgt := 18) (q := 10) C dJ9_floorMod_7cf53_7 (by decide) rfl (fun c2 => ?_) (fun c2 => ?_)
  · have hF := (if_pos c2).symm.trans hF
    refine z_iload_n (q := 19) C dJ9_floorMod_7cf53_18 0 rfl rfl rfl ?_
    have hF := Option.some.inj hF
    subst hF
    exact z_iret C e1 e2 dJ9_floorMod_7cf53_19
  · have hF := (if_neg c2).symm.trans hF
    refine z_iload_n (q := 11) C dJ9_floorMod_7cf53_10 0 rfl rfl rfl ?_
    refine z_if_eq (tgt := 18) (q := 14) C dJ9_floorMod_7cf53_11 (by decide) rfl (fun c3 => ?_) (fun c3 => ?_)
    · have hF := (if_pos c3).symm.trans hF
      refine z_iload_n (q := 19) C dJ9_floorMod_7cf53_18 0 rfl rfl rfl ?_
      have hF := Option.some.inj hF
      subst hF
      exact z_iret C e1 e2 dJ9_floorMod_7cf53_19
    · have hF := (if_neg c3).symm.trans hF
      refine z_iload_n (q := 15) C dJ9_floorMod_7cf53_14 0 rfl rfl rfl ?_
      refine z_iload_n (q := 16) C dJ9_floorMod_7cf53_15 2 rfl rfl rfl ?_
      refine z_iadd (q := 17) C dJ9_floorMod_7cf53_16 rfl ?_
      have hF := Option.some.inj hF
      subst hF
      exact z_iret C e1 e2 dJ9_floorMod_7cf53_17
set_option maxRecDepth 20000 in
set_option maxHeartbeats 4000000 in
theorem M_fJ9_floorMod_7cf53 {l : Launch} {D : va_G} {cy : ClassId} {α : Nat → Nat} {n : Nat} {σ : zSg} {d : Nat} (hd : 1 ≤ d) {a0 : Int} {a1 : Int} {h : zH} {r : Int} (hF : fJ9_floorMod_7cf53 a0 a1 = some r) : zMet l yJ9_floorMod_7cf53 cJ9_floorMod_7cf53 3 (some .int) (zrm d) D cy α n σ [.int (zi a0), .int (zi a1)] h (some (.int (zi r))) h := by
  obtain ⟨d, rfl⟩ : ∃ e, d = e + 1 := ⟨d - 1, by omega⟩
  refine z_met (by decide +kernel) (Nat.le_of_ble_eq_true rfl) (fun κ k1 k2 k3 k4 k5 k6 k7 k8 k9 C => ?_)
  subst k1 k3 k4 k5 k6 k7
  exact J_fJ9_floorMod_7cf53 C k2 hd k8 k9 hF
set_option maxRecDepth 20000 in
set_option maxHeartbeats 4000000 in
theorem J_fX0_keep {κ : zT} (C : zC κ RX0 cX0_keep 2 none) {d : Nat} (hR : zR κ = zrm (d + 1)) (hd : 2 ≤ d + 1) {o1 : Nat} (ho1 : o1 < zN) (hd1 : zkd o1 = 8) {r : zH} (e1 : zrv κ = none) (e2 : zhf κ = r) {h : zH} (hF : fX0_keep o1 h = some r) : Z κ h 0 [(0, .ref (zα κ 10)), (1, .ref (zα κ o1))] [] := by
  unfold fX0_keep at hF
  refine z_aload_n (q := 1) C dX0_keep_0 0 rfl rfl rfl ?_
  refine z_dup (q := 2) C dX0_keep_1 rfl rfl ?_
  refine z_getf (q := 5) C clX0 (zon C zo_10) kd_10 (k := 2) (by decide) q_207 rfl (zfv_i kd_10 rfl) dX0_keep_2 rfl ?_
  refine z_iconst (q := 6) C dX0_keep_5 rfl ?_
  refine z_iadd (q := 7) C dX0_keep_6 rfl ?_
  obtain ⟨h1, eh1, hF⟩ := zlet_e hF
  refine z_putf (q := 10) C clX0 (zon C zo_10) kd_10 (k := 2) (x := (h 10 2) + 1) (by decide) q_207 rfl rfl rfl rfl (((zfv_i kd_10 rfl)).trans (by rw [if_pos rfl])) dX0_keep_7 rfl eh1 ?_
  refine z_aload_n (q := 11) C dX0_keep_10 1 rfl rfl rfl ?_
  refine z_getN (q := 14) C clX8 (zon C ho1) hd1 (k := 0) (by decide) q_185 rfl (zfv_r hd1 rfl rfl) dX0_keep_11 rfl ?_
  refine z_iconst (q := 15) C dX0_keep_14 rfl ?_
  refine z_aload_n (q := 16) C dX0_keep_15 0 rfl rfl rfl ?_
  refine z_getf (q := 19) C clX0 (zon C zo_10) kd_10 (k := 1) (by decide) q_206 rfl (zfv_r kd_10 rfl fr_10_1) dX0_keep_16 rfl ?_
  refine z_aload_n (q := 20) C dX0_keep_19 0 rfl rfl rfl ?_
  refine z_getf (q := 23) C clX0 (zon C zo_10) kd_10 (k := 2) (by decide) q_207 rfl (zfv_i kd_10 rfl) dX0_keep_20 rfl ?_
  refine z_bipush (q := 25) C dX0_keep_23 bp_40 rfl ?_
  obtain ⟨v2, ev2, hF⟩ := zb_e hF
  refine z_callS (q := 28) (av := [.int (zi (h1 10 2)), .int (zi 40)]) (rest := [.ref (zα κ 42), .int (zi 0), .ref (zα κ (zfr o1 0))]) (stk2 := [.int (zi v2), .ref (zα κ 42), .int (zi 0), .ref (zα κ (zfr o1 0))]) C hR (M_fJ9_floorMod_7cf53 (zlv hd rfl) ev2) mY_J9_floorMod_7cf53 q_690 (Nat.le_of_ble_eq_true rfl) dX0_keep_25 rfl rfl rfl ?_
  refine z_bipush (q := 30) C dX0_keep_28 bp_51 rfl ?_
  refine z_imul (q := 31) C dX0_keep_30 rfl ?_
  refine z_bipush (q := 33) C dX0_keep_31 bp_51 rfl ?_
  obtain ⟨g4, hF⟩ := zif_none hF
  obtain ⟨h3, eh3, hF⟩ := zlet_e hF
  refine z_copy (q := 36) (o := zfr o1 0) (o2 := 42) C hR (zon C (frl_8_0 ho1 hd1)) (frk_8_0 ho1 hd1) (zon C zo_42) kd_42 g4.1 g4.2.1 g4.2.2.1 (by rw [(frn_8_0 ho1 hd1)]; exact g4.2.2.2.1) (by rw [ln_42]; exact g4.2.2.2.2) q_693 (Nat.le_of_ble_eq_true rfl) dX0_keep_33 rfl eh3 ?_
  refine z_aload_n (q := 37) C dX0_keep_36 0 rfl rfl rfl ?_
  refine z_aload_n (q := 38) C dX0_keep_37 0 rfl rfl rfl ?_
  refine z_getf (q := 41) C clX0 (zon C zo_10) kd_10 (k := 0) (by decide) q_204 rfl (zfv_i kd_10 rfl) dX0_keep_38 rfl ?_
  refine z_iconst (q := 42) C dX0_keep_41 rfl ?_
  refine z_iadd (q := 43) C dX0_keep_42 rfl ?_
  refine z_bipush (q := 45) C dX0_keep_43 bp_40 rfl ?_
  refine z_callS (q := 48) (av := [.int (zi ((h3 10 0) + 1)), .int (zi 40)]) (rest := [.ref (zα κ 10)]) (stk2 := [.int (zi (fJ9_min_7cf53 ((h3 10 0) + 1) 40)), .ref (zα κ 10)]) C hR (M_fJ9_min_7cf53 (zlv hd rfl) rfl) mY_J9_min_7cf53 q_694 (Nat.le_of_ble_eq_true rfl) dX0_keep_45 rfl rfl rfl ?_
  obtain ⟨h5, eh5, hF⟩ := zlet_e hF
  refine z_putf (q := 51) C clX0 (zon C zo_10) kd_10 (k := 0) (x := fJ9_min_7cf53 ((h3 10 0) + 1) 40) (by decide) q_204 rfl rfl rfl rfl (((zfv_i kd_10 rfl)).trans (by rw [if_pos rfl])) dX0_keep_48 rfl eh5 ?_
  have hF := Option.some.inj hF
  subst hF
  exact z_vret C e1 e2 dX0_keep_51
set_option maxRecDepth 20000 in
set_option maxHeartbeats 4000000 in
theorem M_fX0_keep {l : Launch} {D : va_G} {cy : ClassId} {α : Nat → Nat} {n : Nat} {σ : zSg} {d : Nat} (hd : 2 ≤ d) {o1 : Nat} (ho1 : o1 < zN) (hd1 : zkd o1 = 8) {h : zH} {g : zH} (hF : fX0_keep o1 h = some g) : zMet l yX0_keep cX0_keep 2 none (zrm d) D cy α n σ [.ref (α 10), .ref (α o1)] h (none) g := by
  obtain ⟨d, rfl⟩ : ∃ e, d = e + 1 := ⟨d - 1, by omega⟩
  refine z_met (by decide +kernel) (Nat.le_of_ble_eq_true rfl) (fun κ k1 k2 k3 k4 k5 k6 k7 k8 k9 C => ?_)
  subst k1 k3 k4 k5 k6 k7
  exact J_fX0_keep C k2 hd ho1 hd1 k8 k9 hF
set_option maxRecDepth 20000 in
set_option maxHeartbeats 4000000 in
theorem J_fX8_enqueue {κ : zT} (C : zC κ RX8 cX8_enqueue 4 none) {d : Nat} (hR : zR κ = zrm (d + 1)) (hd : 3 ≤ d + 1) {o0 : Nat} (ho0 : o0 < zN) (hd0 : zkd o0 = 8) {o1 : Nat} (ho1 : o1 < zN) (hd1 : zkd o1 = 1) {r : zH} (e1 : zrv κ = none) (e2 : zhf κ = r) {a2 : Int} {a3 : Int} {h : zH} (hF : fX8_enqueue o0 o1 a2 a3 h = r) : Z κ h 0 [(0, .ref (zα κ o0)), (1, .ref (zα κ o1)), (2, .int (zi a2)), (3, .int (zi a3))] [] := by
  unfold fX8_enqueue at hF
  refine z_aload_n (q := 1) C dX8_enqueue_0 0 rfl rfl rfl ?_
  refine z_iconst (q := 2) C dX8_enqueue_1 rfl ?_
  refine z_iload_n (q := 3) C dX8_enqueue_2 2 rfl rfl rfl ?_
  refine z_iload_n (q := 4) C dX8_enqueue_3 3 rfl rfl rfl ?_
  obtain ⟨h1, eh1, hF⟩ := zlet_e hF
  refine z_callV (q := 7) (o := o0) (av := [.int (zi 1), .int (zi a2), .int (zi a3)]) (rest := []) (stk2 := []) C hR clX8 (zon C ho0) hd0 (M_fX8_set (zlv hd rfl) ho0 hd0 eh1.symm) mY_X8_set q_598 (Nat.le_of_ble_eq_true rfl) dX8_enqueue_4 rfl rfl rfl ?_
  refine z_aload_n (q := 8) C dX8_enqueue_7 0 rfl rfl rfl ?_
  refine z_bipush (q := 10) C dX8_enqueue_8 bp_6 rfl ?_
  refine z_iload_n (q := 11) C dX8_enqueue_10 2 rfl rfl rfl ?_
  refine z_aload_n (q := 12) C dX8_enqueue_11 1 rfl rfl rfl ?_
  refine z_iconst (q := 13) C dX8_enqueue_12 rfl ?_
  refine z_iload_n (q := 14) C dX8_enqueue_13 3 rfl rfl rfl ?_
  refine z_iconst (q := 15) C dX8_enqueue_14 rfl ?_
  refine z_callV (q := 18) (o := o1) (av := [.int (zi 3), .int (zi a3), .int (zi 0)]) (rest := [.int (zi a2), .int (zi 6), .ref (zα κ o0)]) (stk2 := [.int (zi (fX1_item o1 3 a3 0 h1)), .int (zi a2), .int (zi 6), .ref (zα κ o0)]) C hR clX1 (zon C ho1) hd1 (M_fX1_item (zlv hd rfl) ho1 hd1 rfl) mY_X1_item q_699 (Nat.le_of_ble_eq_true rfl) dX8_enqueue_15 rfl rfl rfl ?_
  obtain ⟨h2, eh2, hF⟩ := zlet_e hF
  refine z_callV (q := 21) (o := o0) (av := [.int (zi 6), .int (zi a2), .int (zi (fX1_item o1 3 a3 0 h1))]) (rest := []) (stk2 := []) C hR clX8 (zon C ho0) hd0 (M_fX8_set (zlv hd rfl) ho0 hd0 eh2.symm) mY_X8_set q_598 (Nat.le_of_ble_eq_true rfl) dX8_enqueue_18 rfl rfl rfl ?_
  refine z_aload_n (q := 22) C dX8_enqueue_21 0 rfl rfl rfl ?_
  refine z_bipush (q := 24) C dX8_enqueue_22 bp_7 rfl ?_
  refine z_aload_n (q := 25) C dX8_enqueue_24 0 rfl rfl rfl ?_
  refine z_getf (q := 28) C clX8 (zon C ho0) hd0 (k := 0) (by decide) q_184 rfl (zfv_r hd0 rfl rfl) dX8_enqueue_25 rfl ?_
  refine z_bipush (q := 30) C dX8_enqueue_28 bp_49 rfl ?_
  refine z_ialdc (q := 31) (j := 49) C (zon C (frl_8_0 ho0 hd0)) (frk_8_0 ho0 hd0) zwk_49 (by rw [(frn_8_0 ho0 hd0)]; decide) dX8_enqueue_30 rfl ?_
  refine z_iload_n (q := 32) C dX8_enqueue_31 2 rfl rfl rfl ?_
  obtain ⟨h3, eh3, hF⟩ := zlet_e hF
  refine z_callV (q := 35) (o := o0) (av := [.int (zi 7), .int (zi (h2 (zfr o0 0) 49)), .int (zi a2)]) (rest := []) (stk2 := []) C hR clX8 (zon C ho0) hd0 (M_fX8_set (zlv hd rfl) ho0 hd0 eh3.symm) mY_X8_set q_598 (Nat.le_of_ble_eq_true rfl) dX8_enqueue_32 rfl rfl rfl ?_
  refine z_aload_n (q := 36) C dX8_enqueue_35 0 rfl rfl rfl ?_
  refine z_getf (q := 39) C clX8 (zon C ho0) hd0 (k := 0) (by decide) q_184 rfl (zfv_r hd0 rfl rfl) dX8_enqueue_36 rfl ?_
  refine z_bipush (q := 41) C dX8_enqueue_39 bp_49 rfl ?_
  refine z_aload_n (q := 42) C dX8_enqueue_41 0 rfl rfl rfl ?_
  refine z_getf (q := 45) C clX8 (zon C ho0) hd0 (k := 0) (by decide) q_184 rfl (zfv_r hd0 rfl rfl) dX8_enqueue_42 rfl ?_
  refine z_bipush (q := 47) C dX8_enqueue_45 bp_49 rfl ?_
  refine z_ialdc (q := 48) (j := 49) C (zon C (frl_8_0 ho0 hd0)) (frk_8_0 ho0 hd0) zwk_49 (by rw [(frn_8_0 ho0 hd0)]; decide) dX8_enqueue_47 rfl ?_
  refine z_iconst (q := 49) C dX8_enqueue_48 rfl ?_
  refine z_iadd (q := 50) C dX8_enqueue_49 rfl ?_
  refine z_bipush (q := 52) C dX8_enqueue_50 bp_6 rfl ?_
  refine z_callS (q := 55) (av := [.int (zi ((h3 (zfr o0 0) 49) + 1)), .int (zi 6)]) (rest := [.int (zi 49), .ref (zα κ (zfr o0 0))]) (stk2 := [.int (zi (fJ9_min_7cf53 ((h3 (zfr o0 0) 49) + 1) 6)), .int (zi 49), .ref (zα κ (zfr o0 0))]) C hR (M_fJ9_min_7cf53 (zlv hd rfl) rfl) mY_J9_min_7cf53 q_700 (Nat.le_of_ble_eq_true rfl) dX8_enqueue_52 rfl rfl rfl ?_
  obtain ⟨h4, eh4, hF⟩ := zlet_e hF
  refine z_iastc (q := 56) (j := 49) C (zon C (frl_8_0 ho0 hd0)) (frk_8_0 ho0 hd0) zwk_49 (by rw [(frn_8_0 ho0 hd0)]; decide) dX8_enqueue_55 rfl eh4 ?_
  subst hF
  exact z_vret C e1 e2 dX8_enqueue_56
set_option maxRecDepth 20000 in
set_option maxHeartbeats 4000000 in
theorem M_fX8_enqueue {l : Launch} {D : va_G} {cy : ClassId} {α : Nat → Nat} {n : Nat} {σ : zSg} {d : Nat} (hd : 3 ≤ d) {o0 : Nat} (ho0 : o0 < zN) (hd0 : zkd o0 = 8) {o1 : Nat} (ho1 : o1 < zN) (hd1 : zkd o1 = 1) {a2 : Int} {a3 : Int} {h : zH} {g : zH} (hF : fX8_enqueue o0 o1 a2 a3 h = g) : zMet l yX8_enqueue cX8_enqueue 4 none (zrm d) D cy α n σ [.ref (α o0), .ref (α o1), .int (zi a2), .int (zi a3)] h (none) g := by
  obtain ⟨d, rfl⟩ : ∃ e, d = e + 1 := ⟨d - 1, by omega⟩
  refine z_met (by decide +kernel) (Nat.le_of_ble_eq_true rfl) (fun κ k1 k2 k3 k4 k5 k6 k7 k8 k9 C => ?_)
  subst k1 k3 k4 k5 k6 k7
  exact J_fX8_enqueue C k2 hd ho0 hd0 ho1 hd1 k8 k9 hF
set_option maxRecDepth 20000 in
set_option maxHeartbeats 4000000 in
theorem J_fX10_file {κ : zT} (C : zC κ RX10 cX10_file 3 (some .int)) {d : Nat} (hR : zR κ = zrm (d + 1)) (hd : 5 ≤ d + 1) {N : Nat} {r : Int × zH} (e1 : zrv κ = some (.int (zi r.1))) (e2 : zhf κ = r.2) {a1 : Int} {a2 : Int} {h : zH} (hF : fX10_file N a1 a2 h = some r) : Z κ h 0 [(0, .ref (zα κ 0)), (1, .int (zi a1)), (2, .int (zi a2))] [] := by
  unfold fX10_file at hF
  refine z_aload_n (q := 1) C dX10_file_0 0 rfl rfl rfl ?_
  refine z_getf (q := 4) C clX10 (zon C zo_0) kd_0 (k := 6) (by decide) q_277 rfl (zfv_r kd_0 rfl fr_0_6) dX10_file_1 rfl ?_
  refine z_aload_n (q := 5) C dX10_file_4 0 rfl rfl rfl ?_
  refine z_getf (q := 8) C clX10 (zon C zo_0) kd_0 (k := 1) (by decide) q_272 rfl (zfv_r kd_0 rfl fr_0_1) dX10_file_5 rfl ?_
  refine z_iconst (q := 9) C dX10_file_8 rfl ?_
  refine z_iload_n (q := 10) C dX10_file_9 1 rfl rfl rfl ?_
  refine z_iload_n (q := 11) C dX10_file_10 2 rfl rfl rfl ?_
  refine z_callV (q := 14) (o := 7) (av := [.ref (zα κ 2), .int (zi 0), .int (zi a1), .int (zi a2)]) (rest := []) (stk2 := [.int (zi (fX8_allows 7 2 0 a1 a2 h))]) C hR clX8 (zon C zo_7) kd_7 (M_fX8_allows (zlv hd rfl) zo_7 kd_7 zo_2 kd_2 rfl) mY_X8_allows q_672 (Nat.le_of_ble_eq_true rfl) dX10_file_11 rfl rfl rfl ?_
  refine z_if_ne (tgt := 19) (q := 17) C dX10_file_14 (by decide) rfl (fun c1 => ?_) (fun c1 => ?_)
  · have hF := (if_neg c1).symm.trans hF
    refine z_aload_n (q := 20) C dX10_file_19 0 rfl rfl rfl ?_
    refine z_getf (q := 23) C clX10 (zon C zo_0) kd_0 (k := 9) (by decide) q_280 rfl (zfv_r kd_0 rfl fr_0_9) dX10_file_20 rfl ?_
    refine z_aload_n (q := 24) C dX10_file_23 0 rfl rfl rfl ?_
    refine z_getf (q := 27) C clX10 (zon C zo_0) kd_0 (k := 6) (by decide) q_277 rfl (zfv_r kd_0 rfl fr_0_6) dX10_file_24 rfl ?_
    obtain ⟨h2, eh2, hF⟩ := zb_e hF
    refine z_callV (q := 30) (o := 10) (av := [.ref (zα κ 7)]) (rest := []) (stk2 := []) C hR clX0 (zon C zo_10) kd_10 (M_fX0_keep (zlv hd rfl) zo_7 kd_7 eh2) mY_X0_keep q_686 (Nat.le_of_ble_eq_true rfl) dX10_file_27 rfl rfl rfl ?_
    refine z_aload_n (q := 31) C dX10_file_30 0 rfl rfl rfl ?_
    refine z_getf (q := 34) C clX10 (zon C zo_0) kd_0 (k := 6) (by decide) q_277 rfl (zfv_r kd_0 rfl fr_0_6) dX10_file_31 rfl ?_
    refine z_aload_n (q := 35) C dX10_file_34 0 rfl rfl rfl ?_
    refine z_getf (q := 38) C clX10 (zon C zo_0) kd_0 (k := 1) (by decide) q_272 rfl (zfv_r kd_0 rfl fr_0_1) dX10_file_35 rfl ?_
    refine z_iload_n (q := 39) C dX10_file_38 1 rfl rfl rfl ?_
    refine z_iload_n (q := 40) C dX10_file_39 2 rfl rfl rfl ?_
    obtain ⟨h3, eh3, hF⟩ := zlet_e hF
    refine z_callV (q := 43) (o := 7) (av := [.ref (zα κ 2), .int (zi a1), .int (zi a2)]) (rest := []) (stk2 := []) C hR clX8 (zon C zo_7) kd_7 (M_fX8_enqueue (zlv hd rfl) zo_7 kd_7 zo_2 kd_2 eh3.symm) mY_X8_enqueue q_695 (Nat.le_of_ble_eq_true rfl) dX10_file_40 rfl rfl rfl ?_
    refine z_aload_n (q := 44) C dX10_file_43 0 rfl rfl rfl ?_
    refine z_getf (q := 47) C clX10 (zon C zo_0) kd_0 (k := 6) (by decide) q_277 rfl (zfv_r kd_0 rfl fr_0_6) dX10_file_44 rfl ?_
    refine z_aload_n (q := 48) C dX10_file_47 0 rfl rfl rfl ?_
    refine z_getf (q := 51) C clX10 (zon C zo_0) kd_0 (k := 1) (by decide) q_272 rfl (zfv_r kd_0 rfl fr_0_1) dX10_file_48 rfl ?_
    refine z_iconst (q := 52) C dX10_file_51 rfl ?_
    refine z_iload_n (q := 53) C dX10_file_52 2 rfl rfl rfl ?_
    refine z_iconst (q := 54) C dX10_file_53 rfl ?_
    refine z_callV (q := 57) (o := 2) (av := [.int (zi 3), .int (zi a2), .int (zi 0)]) (rest := [.ref (zα κ 7)]) (stk2 := [.int (zi (fX1_item 2 3 a2 0 h3)), .ref (zα κ 7)]) C hR clX1 (zon C zo_2) kd_2 (M_fX1_item (zlv hd rfl) zo_2 kd_2 rfl) mY_X1_item q_629 (Nat.le_of_ble_eq_true rfl) dX10_file_54 rfl rfl rfl ?_
    obtain ⟨v4, ev4, hF⟩ := zb_e hF
    refine z_callV (q := 60) (o := 7) (av := [.int (zi (fX1_item 2 3 a2 0 h3))]) (rest := []) (stk2 := [.int (zi v4)]) C hR clX8 (zon C zo_7) kd_7 (M_fX8_backlog (zlv hd rfl) zo_7 kd_7 ev4) mY_X8_backlog q_635 (Nat.le_of_ble_eq_true rfl) dX10_file_57 rfl rfl rfl ?_
    have hF := Option.some.inj hF
    subst hF
    exact z_iret C e1 e2 dX10_file_60
  · have hF := (if_pos c1).symm.trans hF
    refine z_iconst (q := 18) C dX10_file_17 rfl ?_
    have hF := Option.some.inj hF
    subst hF
    exact z_iret C e1 e2 dX10_file_18
set_option maxRecDepth 20000 in
set_option maxHeartbeats 4000000 in
theorem M_fX10_file {l : Launch} {D : va_G} {cy : ClassId} {α : Nat → Nat} {n : Nat} {σ : zSg} {d : Nat} (hd : 5 ≤ d) {N : Nat} {a1 : Int} {a2 : Int} {h : zH} {r : Int} {g : zH} (hF : fX10_file N a1 a2 h = some (r, g)) : zMet l yX10_file cX10_file 3 (some .int) (zrm d) D cy α n σ [.ref (α 0), .int (zi a1), .int (zi a2)] h (some (.int (zi r))) g := by
  obtain ⟨d, rfl⟩ : ∃ e, d = e + 1 := ⟨d - 1, by omega⟩
  refine z_met (by decide +kernel) (Nat.le_of_ble_eq_true rfl) (fun κ k1 k2 k3 k4 k5 k6 k7 k8 k9 C => ?_)
  subst k1 k3 k4 k5 k6 k7
  exact J_fX10_file C k2 hd k8 k9 hF
set_option maxRecDepth 20000 in
set_option maxHeartbeats 4000000 in
theorem J_fX8_leave_c12b {κ : zT} (C : zC κ RX8 cX8_leave 6 (some .int)) {d : Nat} (hR : zR κ = zrm (d + 1)) (hd : 3 ≤ d + 1) {N : Nat} {o0 : Nat} (ho0 : o0 < zN) (hd0 : zkd o0 = 8) {r : Int × zH} (e1 : zrv κ = some (.int (zi r.1))) (e2 : zhf κ = r.2) {K12 : Int → Int → Int → Int → zH → Option (Int × zH)} (hK12 : ∀ (l1 : Int) (l2 : Int) (l3 : Int) (l4 : Int) (h : zH), K12 l1 l2 l3 l4 h = some r → Z κ h 12 [(0, .ref (zα κ o0)), (1, .int (zi l1)), (2, .int (zi l2)), (3, .int (zi l3)), (4, .int (zi l4))] []) (l1 : Int) (l2 : Int) (l3 : Int) (l4 : Int) (h : zH) (hF : fX8_leave_c12b N o0 K12 l1 l2 l3 l4 h = some r) : Z κ h 12 [(0, .ref (zα κ o0)), (1, .int (zi l1)), (2, .int (zi l2)), (3, .int (zi l3)), (4, .int (zi l4))] [] := by
  unfold fX8_leave_c12b at hF
  refine z_iload (q := 14) C dX8_leave_12 4 rfl rfl ?_
  refine z_aload_n (q := 15) C dX8_leave_14 0 rfl rfl rfl ?_
  refine z_getf (q := 18) C clX8 (zon C ho0) hd0 (k := 0) (by decide) q_184 rfl (zfv_r hd0 rfl rfl) dX8_leave_15 rfl ?_
  refine z_bipush (q := 20) C dX8_leave_18 bp_49 rfl ?_
  refine z_ialdc (q := 21) (j := 49) C (zon C (frl_8_0 ho0 hd0)) (frk_8_0 ho0 hd0) zwk_49 (by rw [(frn_8_0 ho0 hd0)]; decide) dX8_leave_20 rfl ?_
  refine z_icmp_ge (tgt := 58) (q := 24) C dX8_leave_21 (by decide) rfl (fun c1 => ?_) (fun c1 => ?_)
  · have hF := (if_pos c1).symm.trans hF
    refine z_aload_n (q := 59) C dX8_leave_58 0 rfl rfl rfl ?_
    refine z_getf (q := 62) C clX8 (zon C ho0) hd0 (k := 0) (by decide) q_184 rfl (zfv_r hd0 rfl rfl) dX8_leave_59 rfl ?_
    refine z_bipush (q := 64) C dX8_leave_62 bp_49 rfl ?_
    refine z_iload_n (q := 65) C dX8_leave_64 3 rfl rfl rfl ?_
    obtain ⟨h2, eh2, hF⟩ := zlet_e hF
    refine z_iastc (q := 66) (j := 49) C (zon C (frl_8_0 ho0 hd0)) (frk_8_0 ho0 hd0) zwk_49 (by rw [(frn_8_0 ho0 hd0)]; decide) dX8_leave_65 rfl eh2 ?_
    refine z_aload_n (q := 67) C dX8_leave_66 0 rfl rfl rfl ?_
    refine z_iconst (q := 68) C dX8_leave_67 rfl ?_
    refine z_iload_n (q := 69) C dX8_leave_68 1 rfl rfl rfl ?_
    refine z_iconst (q := 70) C dX8_leave_69 rfl ?_
    obtain ⟨h3, eh3, hF⟩ := zlet_e hF
    refine z_callV (q := 73) (o := o0) (av := [.int (zi 1), .int (zi l1), .int (zi (-1))]) (rest := []) (stk2 := []) C hR clX8 (zon C ho0) hd0 (M_fX8_set (zlv hd rfl) ho0 hd0 eh3.symm) mY_X8_set q_598 (Nat.le_of_ble_eq_true rfl) dX8_leave_70 rfl rfl rfl ?_
    refine z_aload_n (q := 74) C dX8_leave_73 0 rfl rfl rfl ?_
    refine z_bipush (q := 76) C dX8_leave_74 bp_6 rfl ?_
    refine z_iload_n (q := 77) C dX8_leave_76 1 rfl rfl rfl ?_
    refine z_iconst (q := 78) C dX8_leave_77 rfl ?_
    obtain ⟨h4, eh4, hF⟩ := zlet_e hF
    refine z_callV (q := 81) (o := o0) (av := [.int (zi 6), .int (zi l1), .int (zi (-1))]) (rest := []) (stk2 := []) C hR clX8 (zon C ho0) hd0 (M_fX8_set (zlv hd rfl) ho0 hd0 eh4.symm) mY_X8_set q_598 (Nat.le_of_ble_eq_true rfl) dX8_leave_78 rfl rfl rfl ?_
    refine z_aload_n (q := 82) C dX8_leave_81 0 rfl rfl rfl ?_
    refine z_iconst (q := 83) C dX8_leave_82 rfl ?_
    refine z_iload_n (q := 84) C dX8_leave_83 1 rfl rfl rfl ?_
    refine z_iconst (q := 85) C dX8_leave_84 rfl ?_
    obtain ⟨h5, eh5, hF⟩ := zlet_e hF
    refine z_callV (q := 88) (o := o0) (av := [.int (zi 2), .int (zi l1), .int (zi 0)]) (rest := []) (stk2 := []) C hR clX8 (zon C ho0) hd0 (M_fX8_set (zlv hd rfl) ho0 hd0 eh5.symm) mY_X8_set q_598 (Nat.le_of_ble_eq_true rfl) dX8_leave_85 rfl rfl rfl ?_
    refine z_iload_n (q := 89) C dX8_leave_88 2 rfl rfl rfl ?_
    have hF := Option.some.inj hF
    subst hF
    exact z_iret C e1 e2 dX8_leave_89
  · have hF := (if_neg c1).symm.trans hF
    refine z_aload_n (q := 25) C dX8_leave_24 0 rfl rfl rfl ?_
    refine z_bipush (q := 27) C dX8_leave_25 bp_7 rfl ?_
    refine z_iload (q := 29) C dX8_leave_27 4 rfl rfl ?_
    refine z_callV (q := 32) (o := o0) (av := [.int (zi 7), .int (zi l4)]) (rest := []) (stk2 := [.int (zi (fX8_of o0 7 l4 h))]) C hR clX8 (zon C ho0) hd0 (M_fX8_of (zlv hd rfl) ho0 hd0 rfl) mY_X8_of q_639 (Nat.le_of_ble_eq_true rfl) dX8_leave_29 rfl rfl rfl ?_
    obtain ⟨v6, ev6, hF⟩ := zlet_e hF
    refine z_istoreE (q := 34) C ev6 dX8_leave_32 (by decide) rfl rfl ?_
    refine z_iload (q := 36) C dX8_leave_34 0 rfl rfl ?_
    refine z_iload_n (q := 37) C dX8_leave_36 2 rfl rfl rfl ?_
    refine z_icmp_eq (tgt := 52) (q := 40) C dX8_leave_37 (by decide) rfl (fun c7 => ?_) (fun c7 => ?_)
    · have hF := (if_pos c7).symm.trans hF
      refine z_iinc (q := 55) (x := l4) C dX8_leave_52 (j := 5) rfl (by decide) rfl rfl ?_
      refine z_goto (q := 12) C dX8_leave_55 (by decide) ?_
      exact z_sub (hK12 _ _ _ _ _ hF) [2, 3, 4, 5, 0] rfl
    · have hF := (if_neg c7).symm.trans hF
      refine z_aload_n (q := 41) C dX8_leave_40 1 rfl rfl rfl ?_
      refine z_bipush (q := 43) C dX8_leave_41 bp_7 rfl ?_
      refine z_iload_n (q := 44) C dX8_leave_43 4 rfl rfl rfl ?_
      refine z_iload (q := 46) C dX8_leave_44 0 rfl rfl ?_
      obtain ⟨h8, eh8, hF⟩ := zlet_e hF
      refine z_callV (q := 49) (o := o0) (av := [.int (zi 7), .int (zi l3), .int (zi v6)]) (rest := []) (stk2 := []) C hR clX8 (zon C ho0) hd0 (M_fX8_set (zlv hd rfl) ho0 hd0 eh8.symm) mY_X8_set q_598 (Nat.le_of_ble_eq_true rfl) dX8_leave_46 rfl rfl rfl ?_
      refine z_iinc (q := 52) (x := l3) C dX8_leave_49 (j := 4) rfl (by decide) rfl rfl ?_
      refine z_iinc (q := 55) (x := l4) C dX8_leave_52 (j := 5) rfl (by decide) rfl rfl ?_
      refine z_goto (q := 12) C dX8_leave_55 (by decide) ?_
      exact z_sub (hK12 _ _ _ _ _ hF) [3, 4, 5, 1, 0] rfl
set_option maxRecDepth 20000 in
set_option maxHeartbeats 4000000 in
theorem J_fX8_leave_c12 {κ : zT} (C : zC κ RX8 cX8_leave 6 (some .int)) {d : Nat} (hR : zR κ = zrm (d + 1)) (hd : 3 ≤ d + 1) {N : Nat} {o0 : Nat} (ho0 : o0 < zN) (hd0 : zkd o0 = 8) {r : Int × zH} (e1 : zrv κ = some (.int (zi r.1))) (e2 : zhf κ = r.2) : ∀ (k : Nat) (l1 : Int) (l2 : Int) (l3 : Int) (l4 : Int) (h : zH), fX8_leave_c12 N o0 k l1 l2 l3 l4 h = some r → Z κ h 12 [(0, .ref (zα κ o0)), (1, .int (zi l1)), (2, .int (zi l2)), (3, .int (zi l3)), (4, .int (zi l4))] [] := by
  intro k
  induction k with
  | zero => intro l1 l2 l3 l4 h hF; cases hF
  | succ k ih => intro l1 l2 l3 l4 h hF; exact J_fX8_leave_c12b C hR hd ho0 hd0 e1 e2 ih l1 l2 l3 l4 h hF
set_option maxRecDepth 20000 in
set_option maxHeartbeats 4000000 in
theorem J_fX8_leave {κ : zT} (C : zC κ RX8 cX8_leave 6 (some .int)) {d : Nat} (hR : zR κ = zrm (d + 1)) (hd : 3 ≤ d + 1) {N : Nat} {o0 : Nat} (ho0 : o0 < zN) (hd0 : zkd o0 = 8) {r : Int × zH} (e1 : zrv κ = some (.int (zi r.1))) (e2 : zhf κ = r.2) {a1 : Int} {h : zH} (hF : fX8_leave N o0 a1 h = some r) : Z κ h 0 [(0, .ref (zα κ o0)), (1, .int (zi a1))] [] := by
  unfold fX8_leave at hF
  refine z_aload_n (q := 1) C dX8_leave_0 0 rfl rfl rfl ?_
  refine z_iconst (q := 2) C dX8_leave_1 rfl ?_
  refine z_iload_n (q := 3) C dX8_leave_2 1 rfl rfl rfl ?_
  refine z_callV (q := 6) (o := o0) (av := [.int (zi 1), .int (zi a1)]) (rest := []) (stk2 := [.int (zi (fX8_of o0 1 a1 h))]) C hR clX8 (zon C ho0) hd0 (M_fX8_of (zlv hd rfl) ho0 hd0 rfl) mY_X8_of q_639 (Nat.le_of_ble_eq_true rfl) dX8_leave_3 rfl rfl rfl ?_
  obtain ⟨v1, ev1, hF⟩ := zlet_e hF
  refine z_istoreE_n (q := 7) C ev1 dX8_leave_6 (by decide) rfl rfl rfl ?_
  refine z_iconst (q := 8) C dX8_leave_7 rfl ?_
  refine z_istore_n (q := 9) C dX8_leave_8 (by decide) rfl rfl rfl ?_
  refine z_iconst (q := 10) C dX8_leave_9 rfl ?_
  refine z_istore (q := 12) C dX8_leave_10 (by decide) rfl rfl ?_
  exact z_sub (J_fX8_leave_c12 C hR hd ho0 hd0 e1 e2 N _ _ _ _ _ hF) [3, 4, 2, 1, 0] rfl
set_option maxRecDepth 20000 in
set_option maxHeartbeats 4000000 in
theorem M_fX8_leave {l : Launch} {D : va_G} {cy : ClassId} {α : Nat → Nat} {n : Nat} {σ : zSg} {d : Nat} (hd : 3 ≤ d) {N : Nat} {o0 : Nat} (ho0 : o0 < zN) (hd0 : zkd o0 = 8) {a1 : Int} {h : zH} {r : Int} {g : zH} (hF : fX8_leave N o0 a1 h = some (r, g)) : zMet l yX8_leave cX8_leave 6 (some .int) (zrm d) D cy α n σ [.ref (α o0), .int (zi a1)] h (some (.int (zi r))) g := by
  obtain ⟨d, rfl⟩ : ∃ e, d = e + 1 := ⟨d - 1, by omega⟩
  refine z_met (by decide +kernel) (Nat.le_of_ble_eq_true rfl) (fun κ k1 k2 k3 k4 k5 k6 k7 k8 k9 C => ?_)
  subst k1 k3 k4 k5 k6 k7
  exact J_fX8_leave C k2 hd ho0 hd0 k8 k9 hF
set_option maxRecDepth 20000 in
set_option maxHeartbeats 4000000 in
theorem J_fX10_withdraw {κ : zT} (C : zC κ RX10 cX10_withdraw 2 (some .int)) {d : Nat} (hR : zR κ = zrm (d + 1)) (hd : 5 ≤ d + 1) {N : Nat} {r : Int × zH} (e1 : zrv κ = some (.int (zi r.1))) (e2 : zhf κ = r.2) {a1 : Int} {h : zH} (hF : fX10_withdraw N a1 h = some r) : Z κ h 0 [(0, .ref (zα κ 0)), (1, .int (zi a1))] [] := by
  unfold fX10_withdraw at hF
  refine z_aload_n (q := 1) C dX10_withdraw_0 0 rfl rfl rfl ?_
  refine z_getf (q := 4) C clX10 (zon C zo_0) kd_0 (k := 6) (by decide) q_277 rfl (zfv_r kd_0 rfl fr_0_6) dX10_withdraw_1 rfl ?_
  refine z_aload_n (q := 5) C dX10_withdraw_4 0 rfl rfl rfl ?_
  refine z_getf (q := 8) C clX10 (zon C zo_0) kd_0 (k := 1) (by decide) q_272 rfl (zfv_r kd_0 rfl fr_0_1) dX10_withdraw_5 rfl ?_
  refine z_iconst (q := 9) C dX10_withdraw_8 rfl ?_
  refine z_iload_n (q := 10) C dX10_withdraw_9 1 rfl rfl rfl ?_
  refine z_iconst (q := 11) C dX10_withdraw_10 rfl ?_
  refine z_callV (q := 14) (o := 7) (av := [.ref (zα κ 2), .int (zi 1), .int (zi a1), .int (zi (-1))]) (rest := []) (stk2 := [.int (zi (fX8_allows 7 2 1 a1 (-1) h))]) C hR clX8 (zon C zo_7) kd_7 (M_fX8_allows (zlv hd rfl) zo_7 kd_7 zo_2 kd_2 rfl) mY_X8_allows q_672 (Nat.le_of_ble_eq_true rfl) dX10_withdraw_11 rfl rfl rfl ?_
  refine z_if_ne (tgt := 19) (q := 17) C dX10_withdraw_14 (by decide) rfl (fun c1 => ?_) (fun c1 => ?_)
  · have hF := (if_neg c1).symm.trans hF
    refine z_aload_n (q := 20) C dX10_withdraw_19 0 rfl rfl rfl ?_
    refine z_getf (q := 23) C clX10 (zon C zo_0) kd_0 (k := 9) (by decide) q_280 rfl (zfv_r kd_0 rfl fr_0_9) dX10_withdraw_20 rfl ?_
    refine z_aload_n (q := 24) C dX10_withdraw_23 0 rfl rfl rfl ?_
    refine z_getf (q := 27) C clX10 (zon C zo_0) kd_0 (k := 6) (by decide) q_277 rfl (zfv_r kd_0 rfl fr_0_6) dX10_withdraw_24 rfl ?_
    obtain ⟨h2, eh2, hF⟩ := zb_e hF
    refine z_callV (q := 30) (o := 10) (av := [.ref (zα κ 7)]) (rest := []) (stk2 := []) C hR clX0 (zon C zo_10) kd_10 (M_fX0_keep (zlv hd rfl) zo_7 kd_7 eh2) mY_X0_keep q_686 (Nat.le_of_ble_eq_true rfl) dX10_withdraw_27 rfl rfl rfl ?_
    refine z_aload_n (q := 31) C dX10_withdraw_30 0 rfl rfl rfl ?_
    refine z_getf (q := 34) C clX10 (zon C zo_0) kd_0 (k := 6) (by decide) q_277 rfl (zfv_r kd_0 rfl fr_0_6) dX10_withdraw_31 rfl ?_
    refine z_iload_n (q := 35) C dX10_withdraw_34 1 rfl rfl rfl ?_
    obtain ⟨v4, h3, ev4, hF⟩ := z2_e hF
    refine z_callV (q := 38) (o := 7) (av := [.int (zi a1)]) (rest := []) (stk2 := [.int (zi v4)]) C hR clX8 (zon C zo_7) kd_7 (M_fX8_leave (zlv hd rfl) zo_7 kd_7 ev4) mY_X8_leave q_705 (Nat.le_of_ble_eq_true rfl) dX10_withdraw_35 rfl rfl rfl ?_
    have hF := Option.some.inj hF
    subst hF
    exact z_iret C e1 e2 dX10_withdraw_38
  · have hF := (if_pos c1).symm.trans hF
    refine z_iconst (q := 18) C dX10_withdraw_17 rfl ?_
    have hF := Option.some.inj hF
    subst hF
    exact z_iret C e1 e2 dX10_withdraw_18
set_option maxRecDepth 20000 in
set_option maxHeartbeats 4000000 in
theorem M_fX10_withdraw {l : Launch} {D : va_G} {cy : ClassId} {α : Nat → Nat} {n : Nat} {σ : zSg} {d : Nat} (hd : 5 ≤ d) {N : Nat} {a1 : Int} {h : zH} {r : Int} {g : zH} (hF : fX10_withdraw N a1 h = some (r, g)) : zMet l yX10_withdraw cX10_withdraw 2 (some .int) (zrm d) D cy α n σ [.ref (α 0), .int (zi a1)] h (some (.int (zi r))) g := by
  obtain ⟨d, rfl⟩ : ∃ e, d = e + 1 := ⟨d - 1, by omega⟩
  refine z_met (by decide +kernel) (Nat.le_of_ble_eq_true rfl) (fun κ k1 k2 k3 k4 k5 k6 k7 k8 k9 C => ?_)
  subst k1 k3 k4 k5 k6 k7
  exact J_fX10_withdraw C k2 hd k8 k9 hF
set_option maxRecDepth 20000 in
set_option maxHeartbeats 4000000 in
theorem J_fX10_canPass {κ : zT} (C : zC κ RX10 cX10_canPass 3 (some .boolean)) {d : Nat} (hR : zR κ = zrm (d + 1)) (hd : 4 ≤ d + 1) {h : zH} {r : Int} (e1 : zrv κ = some (.int (zi r))) (e2 : zhf κ = h) {a1 : Int} {a2 : Int} (hF : fX10_canPass a1 a2 h = r) : Z κ h 0 [(0, .ref (zα κ 0)), (1, .int (zi a1)), (2, .int (zi a2))] [] := by
  unfold fX10_canPass at hF
  refine z_aload_n (q := 1) C dX10_canPass_0 0 rfl rfl rfl ?_
  refine z_callV (q := 4) (o := 0) (av := []) (rest := []) (stk2 := [.int (zi (fX10_hasHill h))]) C hR clX10 (zon C zo_0) kd_0 (M_fX10_hasHill (zlv hd rfl) rfl) mY_X10_hasHill q_625 (Nat.le_of_ble_eq_true rfl) dX10_canPass_1 rfl rfl rfl ?_
  refine z_if_eq (tgt := 36) (q := 7) C dX10_canPass_4 (by decide) rfl (fun c1 => ?_) (fun c1 => ?_)
  · have hF := (if_pos c1).symm.trans hF
    refine z_iconst (q := 37) C dX10_canPass_36 rfl ?_
    subst hF
    exact z_zret C (zb01 (Or.inl rfl)) e1 e2 dX10_canPass_37
  · have hF := (if_neg c1).symm.trans hF
    refine z_iload_n (q := 8) C dX10_canPass_7 1 rfl rfl rfl ?_
    refine z_iconst (q := 9) C dX10_canPass_8 rfl ?_
    refine z_icmp_lt (tgt := 36) (q := 12) C dX10_canPass_9 (by decide) rfl (fun c2 => ?_) (fun c2 => ?_)
    · have hF := (if_pos c2).symm.trans hF
      refine z_iconst (q := 37) C dX10_canPass_36 rfl ?_
      subst hF
      exact z_zret C (zb01 (Or.inl rfl)) e1 e2 dX10_canPass_37
    · have hF := (if_neg c2).symm.trans hF
      refine z_iload_n (q := 13) C dX10_canPass_12 1 rfl rfl rfl ?_
      refine z_iload_n (q := 14) C dX10_canPass_13 2 rfl rfl rfl ?_
      refine z_icmp_gt (tgt := 36) (q := 17) C dX10_canPass_14 (by decide) rfl (fun c3 => ?_) (fun c3 => ?_)
      · have hF := (if_pos c3).symm.trans hF
        refine z_iconst (q := 37) C dX10_canPass_36 rfl ?_
        subst hF
        exact z_zret C (zb01 (Or.inl rfl)) e1 e2 dX10_canPass_37
      · have hF := (if_neg c3).symm.trans hF
        refine z_aload_n (q := 18) C dX10_canPass_17 0 rfl rfl rfl ?_
        refine z_getf (q := 21) C clX10 (zon C zo_0) kd_0 (k := 6) (by decide) q_277 rfl (zfv_r kd_0 rfl fr_0_6) dX10_canPass_18 rfl ?_
        refine z_callV (q := 24) (o := 7) (av := []) (rest := []) (stk2 := [.int (zi (fX8_hour 7 h))]) C hR clX8 (zon C zo_7) kd_7 (M_fX8_hour (zlv hd rfl) zo_7 kd_7 rfl) mY_X8_hour q_717 (Nat.le_of_ble_eq_true rfl) dX10_canPass_21 rfl rfl rfl ?_
        refine z_iload_n (q := 25) C dX10_canPass_24 1 rfl rfl rfl ?_
        refine z_iadd (q := 26) C dX10_canPass_25 rfl ?_
        refine z_sipush (q := 29) C dX10_canPass_26 sp_9999 rfl ?_
        refine z_icmp_gt (tgt := 36) (q := 32) C dX10_canPass_29 (by decide) rfl (fun c4 => ?_) (fun c4 => ?_)
        · have hF := (if_pos c4).symm.trans hF
          refine z_iconst (q := 37) C dX10_canPass_36 rfl ?_
          subst hF
          exact z_zret C (zb01 (Or.inl rfl)) e1 e2 dX10_canPass_37
        · have hF := (if_neg c4).symm.trans hF
          refine z_iconst (q := 33) C dX10_canPass_32 rfl ?_
          refine z_goto (q := 37) C dX10_canPass_33 (by decide) ?_
          subst hF
          exact z_zret C (zb01 (Or.inr rfl)) e1 e2 dX10_canPass_37
set_option maxRecDepth 20000 in
set_option maxHeartbeats 4000000 in
theorem M_fX10_canPass {l : Launch} {D : va_G} {cy : ClassId} {α : Nat → Nat} {n : Nat} {σ : zSg} {d : Nat} (hd : 4 ≤ d) {a1 : Int} {a2 : Int} {h : zH} {r : Int} (hF : fX10_canPass a1 a2 h = r) : zMet l yX10_canPass cX10_canPass 3 (some .boolean) (zrm d) D cy α n σ [.ref (α 0), .int (zi a1), .int (zi a2)] h (some (.int (zi r))) h := by
  obtain ⟨d, rfl⟩ : ∃ e, d = e + 1 := ⟨d - 1, by omega⟩
  refine z_met (by decide +kernel) (Nat.le_of_ble_eq_true rfl) (fun κ k1 k2 k3 k4 k5 k6 k7 k8 k9 C => ?_)
  subst k1 k3 k4 k5 k6 k7
  exact J_fX10_canPass C k2 hd k8 k9 hF
theorem B_fX10_canPass {a1 : Int} {a2 : Int} {h : zH} : fX10_canPass a1 a2 h = 0 ∨ fX10_canPass a1 a2 h = 1 := by
  unfold fX10_canPass
  try simp only [zlet, zlet2]
  repeat' (first | exact Or.inl rfl | exact Or.inr rfl | exact B_fX10_hasHill | apply zite01)
