set_option maxRecDepth 20000 in
set_option maxHeartbeats 4000000 in
theorem J_fX10_count {κ : zT} (C : zC κ RX10 cX10_count 2 (some .int)) {d : Nat} (hR : zR κ = zrm (d + 1)) (hd : 3 ≤ d + 1) {h : zH} {r : Int} (e1 : zrv κ = some (.int (zi r))) (e2 : zhf κ = h) {a1 : Int} (hF : fX10_count a1 h = r) : Z κ h 0 [(0, .ref (zα κ 0)), (1, .int (zi a1))] [] := by
  unfold fX10_count at hF
  refine z_iload_n (q := 1) C dX10_count_0 1 rfl rfl rfl ?_
  by_cases c1 : zw a1 = 0
  · have hF := (if_pos c1).symm.trans hF
    refine z_tableIn (off := 63) (tgt := 64) C c1 dX10_count_1 (by decide) (by decide) (by decide) (by decide) ?_
    refine z_aload_n (q := 65) C dX10_count_64 0 rfl rfl rfl ?_
    refine z_getf (q := 68) C clX10 (zon C zo_0) kd_0 (k := 1) (by decide) q_272 rfl (zfv_r kd_0 rfl fr_0_1) dX10_count_65 rfl ?_
    refine z_iconst (q := 69) C dX10_count_68 rfl ?_
    refine z_callV (q := 72) (o := 2) (av := [.int (zi 1)]) (rest := []) (stk2 := [.int (zi (fX1_many 2 1 h))]) C hR clX1 (zon C zo_2) kd_2 (M_fX1_many (zlv hd rfl) zo_2 kd_2 rfl) mY_X1_many q_620 (Nat.le_of_ble_eq_true rfl) dX10_count_69 rfl rfl rfl ?_
    subst hF
    exact z_iret C e1 e2 dX10_count_72
  · have hF := (if_neg c1).symm.trans hF
    by_cases c2 : zw a1 = 1
    · have hF := (if_pos c2).symm.trans hF
      refine z_tableIn (off := 72) (tgt := 73) C c2 dX10_count_1 (by decide) (by decide) (by decide) (by decide) ?_
      refine z_aload_n (q := 74) C dX10_count_73 0 rfl rfl rfl ?_
      refine z_getf (q := 77) C clX10 (zon C zo_0) kd_0 (k := 1) (by decide) q_272 rfl (zfv_r kd_0 rfl fr_0_1) dX10_count_74 rfl ?_
      refine z_iconst (q := 78) C dX10_count_77 rfl ?_
      refine z_callV (q := 81) (o := 2) (av := [.int (zi 2)]) (rest := []) (stk2 := [.int (zi (fX1_many 2 2 h))]) C hR clX1 (zon C zo_2) kd_2 (M_fX1_many (zlv hd rfl) zo_2 kd_2 rfl) mY_X1_many q_620 (Nat.le_of_ble_eq_true rfl) dX10_count_78 rfl rfl rfl ?_
      subst hF
      exact z_iret C e1 e2 dX10_count_81
    · have hF := (if_neg c2).symm.trans hF
      by_cases c3 : zw a1 = 2
      · have hF := (if_pos c3).symm.trans hF
        refine z_tableIn (off := 81) (tgt := 82) C c3 dX10_count_1 (by decide) (by decide) (by decide) (by decide) ?_
        refine z_aload_n (q := 83) C dX10_count_82 0 rfl rfl rfl ?_
        refine z_getf (q := 86) C clX10 (zon C zo_0) kd_0 (k := 1) (by decide) q_272 rfl (zfv_r kd_0 rfl fr_0_1) dX10_count_83 rfl ?_
        refine z_iconst (q := 87) C dX10_count_86 rfl ?_
        refine z_callV (q := 90) (o := 2) (av := [.int (zi 3)]) (rest := []) (stk2 := [.int (zi (fX1_many 2 3 h))]) C hR clX1 (zon C zo_2) kd_2 (M_fX1_many (zlv hd rfl) zo_2 kd_2 rfl) mY_X1_many q_620 (Nat.le_of_ble_eq_true rfl) dX10_count_87 rfl rfl rfl ?_
        subst hF
        exact z_iret C e1 e2 dX10_count_90
      · have hF := (if_neg c3).symm.trans hF
        by_cases c4 : zw a1 = 3
        · have hF := (if_pos c4).symm.trans hF
          refine z_tableIn (off := 90) (tgt := 91) C c4 dX10_count_1 (by decide) (by decide) (by decide) (by decide) ?_
          refine z_aload_n (q := 92) C dX10_count_91 0 rfl rfl rfl ?_
          refine z_getf (q := 95) C clX10 (zon C zo_0) kd_0 (k := 4) (by decide) q_275 rfl (zfv_r kd_0 rfl fr_0_4) dX10_count_92 rfl ?_
          refine z_getf (q := 98) C clX5 (zon C zo_5) kd_5 (k := 0) (by decide) q_131 rfl (zfv_i kd_5 rfl) dX10_count_95 rfl ?_
          subst hF
          exact z_iret C e1 e2 dX10_count_98
        · have hF := (if_neg c4).symm.trans hF
          by_cases c5 : zw a1 = 4
          · have hF := (if_pos c5).symm.trans hF
            refine z_tableIn (off := 98) (tgt := 99) C c5 dX10_count_1 (by decide) (by decide) (by decide) (by decide) ?_
            refine z_aload_n (q := 100) C dX10_count_99 0 rfl rfl rfl ?_
            refine z_getf (q := 103) C clX10 (zon C zo_0) kd_0 (k := 5) (by decide) q_276 rfl (zfv_r kd_0 rfl fr_0_5) dX10_count_100 rfl ?_
            refine z_getf (q := 106) C clX2 (zon C zo_6) kd_6 (k := 0) (by decide) q_159 rfl (zfv_i kd_6 rfl) dX10_count_103 rfl ?_
            subst hF
            exact z_iret C e1 e2 dX10_count_106
          · have hF := (if_neg c5).symm.trans hF
            by_cases c6 : zw a1 = 5
            · have hF := (if_pos c6).symm.trans hF
              refine z_tableIn (off := 106) (tgt := 107) C c6 dX10_count_1 (by decide) (by decide) (by decide) (by decide) ?_
              refine z_aload_n (q := 108) C dX10_count_107 0 rfl rfl rfl ?_
              refine z_getf (q := 111) C clX10 (zon C zo_0) kd_0 (k := 0) (by decide) q_271 rfl (zfv_r kd_0 rfl fr_0_0) dX10_count_108 rfl ?_
              refine z_getf (q := 114) C clX9 (zon C zo_1) kd_1 (k := 1) (by decide) q_40 rfl (zfv_i kd_1 rfl) dX10_count_111 rfl ?_
              subst hF
              exact z_iret C e1 e2 dX10_count_114
            · have hF := (if_neg c6).symm.trans hF
              by_cases c7 : zw a1 = 6
              · have hF := (if_pos c7).symm.trans hF
                refine z_tableIn (off := 114) (tgt := 115) C c7 dX10_count_1 (by decide) (by decide) (by decide) (by decide) ?_
                refine z_aload_n (q := 116) C dX10_count_115 0 rfl rfl rfl ?_
                refine z_getf (q := 119) C clX10 (zon C zo_0) kd_0 (k := 4) (by decide) q_275 rfl (zfv_r kd_0 rfl fr_0_4) dX10_count_116 rfl ?_
                refine z_getf (q := 122) C clX5 (zon C zo_5) kd_5 (k := 1) (by decide) q_133 rfl (zfv_i kd_5 rfl) dX10_count_119 rfl ?_
                subst hF
                exact z_iret C e1 e2 dX10_count_122
              · have hF := (if_neg c7).symm.trans hF
                by_cases c8 : zw a1 = 7
                · have hF := (if_pos c8).symm.trans hF
                  refine z_tableIn (off := 122) (tgt := 123) C c8 dX10_count_1 (by decide) (by decide) (by decide) (by decide) ?_
                  refine z_aload_n (q := 124) C dX10_count_123 0 rfl rfl rfl ?_
                  refine z_getf (q := 127) C clX10 (zon C zo_0) kd_0 (k := 6) (by decide) q_277 rfl (zfv_r kd_0 rfl fr_0_6) dX10_count_124 rfl ?_
                  refine z_callV (q := 130) (o := 7) (av := []) (rest := []) (stk2 := [.int (zi (fX8_hour 7 h))]) C hR clX8 (zon C zo_7) kd_7 (M_fX8_hour (zlv hd rfl) zo_7 kd_7 rfl) mY_X8_hour q_717 (Nat.le_of_ble_eq_true rfl) dX10_count_127 rfl rfl rfl ?_
                  subst hF
                  exact z_iret C e1 e2 dX10_count_130
                · have hF := (if_neg c8).symm.trans hF
                  by_cases c9 : zw a1 = 8
                  · have hF := (if_pos c9).symm.trans hF
                    refine z_tableIn (off := 130) (tgt := 131) C c9 dX10_count_1 (by decide) (by decide) (by decide) (by decide) ?_
                    refine z_aload_n (q := 132) C dX10_count_131 0 rfl rfl rfl ?_
                    refine z_getf (q := 135) C clX10 (zon C zo_0) kd_0 (k := 14) (by decide) q_285 rfl (zfv_i kd_0 rfl) dX10_count_132 rfl ?_
                    subst hF
                    exact z_iret C e1 e2 dX10_count_135
                  · have hF := (if_neg c9).symm.trans hF
                    by_cases c10 : zw a1 = 9
                    · have hF := (if_pos c10).symm.trans hF
                      refine z_tableIn (off := 135) (tgt := 136) C c10 dX10_count_1 (by decide) (by decide) (by decide) (by decide) ?_
                      refine z_aload_n (q := 137) C dX10_count_136 0 rfl rfl rfl ?_
                      refine z_getf (q := 140) C clX10 (zon C zo_0) kd_0 (k := 12) (by decide) q_283 rfl (zfv_r kd_0 rfl fr_0_12) dX10_count_137 rfl ?_
                      refine z_getf (q := 143) C clX7 (zon C zo_13) kd_13 (k := 0) (by decide) q_258 rfl (zfv_i kd_13 rfl) dX10_count_140 rfl ?_
                      subst hF
                      exact z_iret C e1 e2 dX10_count_143
                    · have hF := (if_neg c10).symm.trans hF
                      by_cases c11 : zw a1 = 10
                      · have hF := (if_pos c11).symm.trans hF
                        refine z_tableIn (off := 143) (tgt := 144) C c11 dX10_count_1 (by decide) (by decide) (by decide) (by decide) ?_
                        refine z_aload_n (q := 145) C dX10_count_144 0 rfl rfl rfl ?_
                        refine z_getf (q := 148) C clX10 (zon C zo_0) kd_0 (k := 6) (by decide) q_277 rfl (zfv_r kd_0 rfl fr_0_6) dX10_count_145 rfl ?_
                        refine z_callV (q := 151) (o := 7) (av := []) (rest := []) (stk2 := [.int (zi (fX8_logLength 7 h))]) C hR clX8 (zon C zo_7) kd_7 (M_fX8_logLength (zlv hd rfl) zo_7 kd_7 rfl) mY_X8_logLength q_833 (Nat.le_of_ble_eq_true rfl) dX10_count_148 rfl rfl rfl ?_
                        subst hF
                        exact z_iret C e1 e2 dX10_count_151
                      · have hF := (if_neg c11).symm.trans hF
                        by_cases c12 : zw a1 = 11
                        · have hF := (if_pos c12).symm.trans hF
                          refine z_tableIn (off := 151) (tgt := 152) C c12 dX10_count_1 (by decide) (by decide) (by decide) (by decide) ?_
                          refine z_aload_n (q := 153) C dX10_count_152 0 rfl rfl rfl ?_
                          refine z_getf (q := 156) C clX10 (zon C zo_0) kd_0 (k := 9) (by decide) q_280 rfl (zfv_r kd_0 rfl fr_0_9) dX10_count_153 rfl ?_
                          refine z_getf (q := 159) C clX0 (zon C zo_10) kd_10 (k := 0) (by decide) q_205 rfl (zfv_i kd_10 rfl) dX10_count_156 rfl ?_
                          subst hF
                          exact z_iret C e1 e2 dX10_count_159
                        · have hF := (if_neg c12).symm.trans hF
                          refine z_tableOut (tgt := 160) C dX10_count_1 (by omega) (by decide) ?_
                          refine z_ldc (q := 162) C kc_RX10_221 dX10_count_160 rfl ?_
                          subst hF
                          exact z_iret C e1 e2 dX10_count_162
set_option maxRecDepth 20000 in
set_option maxHeartbeats 4000000 in
theorem M_fX10_count {l : Launch} {D : va_G} {cy : ClassId} {α : Nat → Nat} {n : Nat} {σ : zSg} {d : Nat} (hd : 3 ≤ d) {a1 : Int} {h : zH} {r : Int} (hF : fX10_count a1 h = r) : zMet l yX10_count cX10_count 2 (some .int) (zrm d) D cy α n σ [.ref (α 0), .int (zi a1)] h (some (.int (zi r))) h := by
  obtain ⟨d, rfl⟩ : ∃ e, d = e + 1 := ⟨d - 1, by omega⟩
  refine z_met (by decide +kernel) (Nat.le_of_ble_eq_true rfl) (fun κ k1 k2 k3 k4 k5 k6 k7 k8 k9 C => ?_)
  subst k1 k3 k4 k5 k6 k7
  exact J_fX10_count C k2 hd k8 k9 hF
set_option maxRecDepth 20000 in
set_option maxHeartbeats 4000000 in
theorem J_fX11_thrown {κ : zT} (C : zC κ RX11 cX11_thrown 1 (some .int)) {d : Nat} (hR : zR κ = zrm (d + 1)) (hd : 1 ≤ d + 1) {h : zH} {r : Int} (e1 : zrv κ = some (.int (zi r))) (e2 : zhf κ = h) (hF : fX11_thrown h = r) : Z κ h 0 [(0, .ref (zα κ 14))] [] := by
  unfold fX11_thrown at hF
  refine z_aload_n (q := 1) C dX11_thrown_0 0 rfl rfl rfl ?_
  refine z_getf (q := 4) C clX11 (zon C zo_14) kd_14 (k := 0) (by decide) q_1102 rfl (zfv_i kd_14 rfl) dX11_thrown_1 rfl ?_
  subst hF
  exact z_iret C e1 e2 dX11_thrown_4
set_option maxRecDepth 20000 in
set_option maxHeartbeats 4000000 in
theorem M_fX11_thrown {l : Launch} {D : va_G} {cy : ClassId} {α : Nat → Nat} {n : Nat} {σ : zSg} {d : Nat} (hd : 1 ≤ d) {h : zH} {r : Int} (hF : fX11_thrown h = r) : zMet l yX11_thrown cX11_thrown 1 (some .int) (zrm d) D cy α n σ [.ref (α 14)] h (some (.int (zi r))) h := by
  obtain ⟨d, rfl⟩ : ∃ e, d = e + 1 := ⟨d - 1, by omega⟩
  refine z_met (by decide +kernel) (Nat.le_of_ble_eq_true rfl) (fun κ k1 k2 k3 k4 k5 k6 k7 k8 k9 C => ?_)
  subst k1 k3 k4 k5 k6 k7
  exact J_fX11_thrown C k2 hd k8 k9 hF
set_option maxRecDepth 20000 in
set_option maxHeartbeats 4000000 in
theorem J_fX11_byteOf_c45 {κ : zT} (C : zC κ RX11 cX11_byteOf 7 (some .int)) {d : Nat} (hR : zR κ = zrm (d + 1)) (hd : 1 ≤ d + 1) {h : zH} {r : Int} (e1 : zrv κ = some (.int (zi r))) (e2 : zhf κ = h) (l5 : Int) (s0 : Int) (hF : fX11_byteOf_c45 l5 s0 = r) : Z κ h 45 [(5, .int (zi l5))] [.int (zi s0)] := by
  unfold fX11_byteOf_c45 at hF
  refine z_istore (q := 47) C dX11_byteOf_45 (by decide) rfl rfl ?_
  refine z_iload (q := 49) C dX11_byteOf_47 0 rfl rfl ?_
  refine z_bipush (q := 51) C dX11_byteOf_49 bp_24 rfl ?_
  refine z_bipush (q := 53) C dX11_byteOf_51 bp_8 rfl ?_
  refine z_iload (q := 55) C dX11_byteOf_53 1 rfl rfl ?_
  refine z_iconst (q := 56) C dX11_byteOf_55 rfl ?_
  refine z_irem (q := 57) C (by decide) dX11_byteOf_56 rfl ?_
  refine z_imul (q := 58) C dX11_byteOf_57 rfl ?_
  refine z_isub (q := 59) C dX11_byteOf_58 rfl ?_
  refine z_ishr (q := 60) C dX11_byteOf_59 rfl ?_
  refine z_sipush (q := 63) C dX11_byteOf_60 sp_255 rfl ?_
  refine z_iand (q := 64) C dX11_byteOf_63 rfl ?_
  subst hF
  exact z_iret C e1 e2 dX11_byteOf_64
set_option maxRecDepth 20000 in
set_option maxHeartbeats 4000000 in
theorem J_fX11_byteOf {κ : zT} (C : zC κ RX11 cX11_byteOf 7 (some .int)) {d : Nat} (hR : zR κ = zrm (d + 1)) (hd : 1 ≤ d + 1) {h : zH} {r : Int} (e1 : zrv κ = some (.int (zi r))) (e2 : zhf κ = h) {a0 : Int} {a1 : Int} {a2 : Int} {a3 : Int} {a4 : Int} {a5 : Int} (hF : fX11_byteOf a0 a1 a2 a3 a4 a5 = r) : Z κ h 0 [(0, .int (zi a0)), (1, .int (zi a1)), (2, .int (zi a2)), (3, .int (zi a3)), (4, .int (zi a4)), (5, .int (zi a5))] [] := by
  unfold fX11_byteOf at hF
  refine z_iload (q := 2) C dX11_byteOf_0 5 rfl rfl ?_
  refine z_iconst (q := 3) C dX11_byteOf_2 rfl ?_
  refine z_icmp_ge (tgt := 10) (q := 6) C dX11_byteOf_3 (by decide) rfl (fun c1 => ?_) (fun c1 => ?_)
  · have hF := (if_pos c1).symm.trans hF
    refine z_iload (q := 12) C dX11_byteOf_10 5 rfl rfl ?_
    refine z_bipush (q := 14) C dX11_byteOf_12 bp_8 rfl ?_
    refine z_icmp_ge (tgt := 21) (q := 17) C dX11_byteOf_14 (by decide) rfl (fun c2 => ?_) (fun c2 => ?_)
    · have hF := (if_pos c2).symm.trans hF
      refine z_iload (q := 23) C dX11_byteOf_21 5 rfl rfl ?_
      refine z_bipush (q := 25) C dX11_byteOf_23 bp_12 rfl ?_
      refine z_icmp_ge (tgt := 32) (q := 28) C dX11_byteOf_25 (by decide) rfl (fun c3 => ?_) (fun c3 => ?_)
      · have hF := (if_pos c3).symm.trans hF
        refine z_iload (q := 34) C dX11_byteOf_32 5 rfl rfl ?_
        refine z_bipush (q := 36) C dX11_byteOf_34 bp_16 rfl ?_
        refine z_icmp_ge (tgt := 43) (q := 39) C dX11_byteOf_36 (by decide) rfl (fun c4 => ?_) (fun c4 => ?_)
        · have hF := (if_pos c4).symm.trans hF
          refine z_iload (q := 45) C dX11_byteOf_43 4 rfl rfl ?_
          exact z_sub (J_fX11_byteOf_c45 C hR hd e1 e2 _ _ hF) [5] rfl
        · have hF := (if_neg c4).symm.trans hF
          refine z_iload_n (q := 40) C dX11_byteOf_39 3 rfl rfl rfl ?_
          refine z_goto (q := 45) C dX11_byteOf_40 (by decide) ?_
          exact z_sub (J_fX11_byteOf_c45 C hR hd e1 e2 _ _ hF) [5] rfl
      · have hF := (if_neg c3).symm.trans hF
        refine z_iload_n (q := 29) C dX11_byteOf_28 2 rfl rfl rfl ?_
        refine z_goto (q := 45) C dX11_byteOf_29 (by decide) ?_
        exact z_sub (J_fX11_byteOf_c45 C hR hd e1 e2 _ _ hF) [5] rfl
    · have hF := (if_neg c2).symm.trans hF
      refine z_iload_n (q := 18) C dX11_byteOf_17 1 rfl rfl rfl ?_
      refine z_goto (q := 45) C dX11_byteOf_18 (by decide) ?_
      exact z_sub (J_fX11_byteOf_c45 C hR hd e1 e2 _ _ hF) [5] rfl
  · have hF := (if_neg c1).symm.trans hF
    refine z_iload_n (q := 7) C dX11_byteOf_6 0 rfl rfl rfl ?_
    refine z_goto (q := 45) C dX11_byteOf_7 (by decide) ?_
    exact z_sub (J_fX11_byteOf_c45 C hR hd e1 e2 _ _ hF) [5] rfl
set_option maxRecDepth 20000 in
set_option maxHeartbeats 4000000 in
theorem M_fX11_byteOf {l : Launch} {D : va_G} {cy : ClassId} {α : Nat → Nat} {n : Nat} {σ : zSg} {d : Nat} (hd : 1 ≤ d) {a0 : Int} {a1 : Int} {a2 : Int} {a3 : Int} {a4 : Int} {a5 : Int} {h : zH} {r : Int} (hF : fX11_byteOf a0 a1 a2 a3 a4 a5 = r) : zMet l yX11_byteOf cX11_byteOf 7 (some .int) (zrm d) D cy α n σ [.int (zi a0), .int (zi a1), .int (zi a2), .int (zi a3), .int (zi a4), .int (zi a5)] h (some (.int (zi r))) h := by
  obtain ⟨d, rfl⟩ : ∃ e, d = e + 1 := ⟨d - 1, by omega⟩
  refine z_met (by decide +kernel) (Nat.le_of_ble_eq_true rfl) (fun κ k1 k2 k3 k4 k5 k6 k7 k8 k9 C => ?_)
  subst k1 k3 k4 k5 k6 k7
  exact J_fX11_byteOf C k2 hd k8 k9 hF
set_option maxRecDepth 20000 in
set_option maxHeartbeats 4000000 in
theorem J_fX11_feed_c62b {κ : zT} (C : zC κ RX11 cX11_feed 9 (some .int)) {d : Nat} (hR : zR κ = zrm (d + 1)) (hd : 2 ≤ d + 1) {N : Nat} {r : Int × zH} (e1 : zrv κ = some (.int (zi r.1))) (e2 : zhf κ = r.2) {K62 : Int → Int → Int → Int → Int → Int → zH → Option (Int × zH)} (hK62 : ∀ (l1 : Int) (l2 : Int) (l3 : Int) (l4 : Int) (l5 : Int) (l7 : Int) (h : zH), K62 l1 l2 l3 l4 l5 l7 h = some r → Z κ h 62 [(0, .ref (zα κ 14)), (1, .int (zi l1)), (2, .int (zi l2)), (3, .int (zi l3)), (4, .int (zi l4)), (5, .int (zi l5)), (7, .int (zi l7))] []) (l1 : Int) (l2 : Int) (l3 : Int) (l4 : Int) (l5 : Int) (l7 : Int) (h : zH) (hF : fX11_feed_c62b N K62 l1 l2 l3 l4 l5 l7 h = some r) : Z κ h 62 [(0, .ref (zα κ 14)), (1, .int (zi l1)), (2, .int (zi l2)), (3, .int (zi l3)), (4, .int (zi l4)), (5, .int (zi l5)), (7, .int (zi l7))] [] := by
  unfold fX11_feed_c62b at hF
  refine z_iload (q := 64) C dX11_feed_62 6 rfl rfl ?_
  refine z_bipush (q := 66) C dX11_feed_64 bp_20 rfl ?_
  refine z_icmp_ge (tgt := 115) (q := 69) C dX11_feed_66 (by decide) rfl (fun c1 => ?_) (fun c1 => ?_)
  · have hF := (if_pos c1).symm.trans hF
    refine z_aload_n (q := 116) C dX11_feed_115 0 rfl rfl rfl ?_
    refine z_getf (q := 119) C clX11 (zon C zo_14) kd_14 (k := 2) (by decide) q_1104 rfl (zfv_i kd_14 rfl) dX11_feed_116 rfl ?_
    have hF := Option.some.inj hF
    subst hF
    exact z_iret C e1 e2 dX11_feed_119
  · have hF := (if_neg c1).symm.trans hF
    refine z_iload_n (q := 70) C dX11_feed_69 1 rfl rfl rfl ?_
    refine z_iload_n (q := 71) C dX11_feed_70 2 rfl rfl rfl ?_
    refine z_iload_n (q := 72) C dX11_feed_71 3 rfl rfl rfl ?_
    refine z_iload (q := 74) C dX11_feed_72 4 rfl rfl ?_
    refine z_iload (q := 76) C dX11_feed_74 5 rfl rfl ?_
    refine z_iload (q := 78) C dX11_feed_76 6 rfl rfl ?_
    refine z_callS (q := 81) (av := [.int (zi l1), .int (zi l2), .int (zi l3), .int (zi l4), .int (zi l5), .int (zi l7)]) (rest := []) (stk2 := [.int (zi (fX11_byteOf l1 l2 l3 l4 l5 l7))]) C hR (M_fX11_byteOf (zlv hd rfl) rfl) mY_X11_byteOf q_1261 (Nat.le_of_ble_eq_true rfl) dX11_feed_78 rfl rfl rfl ?_
    obtain ⟨v2, ev2, hF⟩ := zlet_e hF
    refine z_istoreE (q := 83) C ev2 dX11_feed_81 (by decide) rfl rfl ?_
    refine z_iload (q := 85) C dX11_feed_83 0 rfl rfl ?_
    refine z_if_eq (tgt := 109) (q := 88) C dX11_feed_85 (by decide) rfl (fun c3 => ?_) (fun c3 => ?_)
    · have hF := (if_pos c3).symm.trans hF
      refine z_iinc (q := 112) (x := l7) C dX11_feed_109 (j := 7) rfl (by decide) rfl rfl ?_
      refine z_goto (q := 62) C dX11_feed_112 (by decide) ?_
      exact z_sub (hK62 _ _ _ _ _ _ _ hF) [2, 3, 4, 5, 6, 7, 0] rfl
    · have hF := (if_neg c3).symm.trans hF
      refine z_aload_n (q := 89) C dX11_feed_88 1 rfl rfl rfl ?_
      refine z_getf (q := 92) C clX11 (zon C zo_14) kd_14 (k := 1) (by decide) q_1103 rfl (zfv_r kd_14 rfl fr_14_1) dX11_feed_89 rfl ?_
      refine z_aload_n (q := 93) C dX11_feed_92 1 rfl rfl rfl ?_
      refine z_getf (q := 96) C clX11 (zon C zo_14) kd_14 (k := 2) (by decide) q_1104 rfl (zfv_i kd_14 rfl) dX11_feed_93 rfl ?_
      refine z_iload (q := 98) C dX11_feed_96 0 rfl rfl ?_
      obtain ⟨g4, hF⟩ := zif_none hF
      obtain ⟨h5, eh5, hF⟩ := zlet_e hF
      refine z_iast (q := 99) C (zon C zo_49) kd_49 g4.1 (by rw [ln_49]; exact g4.2) dX11_feed_98 rfl eh5 ?_
      refine z_aload_n (q := 100) C dX11_feed_99 1 rfl rfl rfl ?_
      refine z_dup (q := 101) C dX11_feed_100 rfl rfl ?_
      refine z_getf (q := 104) C clX11 (zon C zo_14) kd_14 (k := 2) (by decide) q_1104 rfl (zfv_i kd_14 rfl) dX11_feed_101 rfl ?_
      refine z_iconst (q := 105) C dX11_feed_104 rfl ?_
      refine z_iadd (q := 106) C dX11_feed_105 rfl ?_
      obtain ⟨h6, eh6, hF⟩ := zlet_e hF
      refine z_putf (q := 109) C clX11 (zon C zo_14) kd_14 (k := 2) (x := (h5 14 2) + 1) (by decide) q_1104 rfl rfl rfl rfl (((zfv_i kd_14 rfl)).trans (by rw [if_pos rfl])) dX11_feed_106 rfl eh6 ?_
      refine z_iinc (q := 112) (x := l7) C dX11_feed_109 (j := 7) rfl (by decide) rfl rfl ?_
      refine z_goto (q := 62) C dX11_feed_112 (by decide) ?_
      exact z_sub (hK62 _ _ _ _ _ _ _ hF) [2, 3, 4, 5, 6, 7, 0] rfl
set_option maxRecDepth 20000 in
set_option maxHeartbeats 4000000 in
theorem J_fX11_feed_c62 {κ : zT} (C : zC κ RX11 cX11_feed 9 (some .int)) {d : Nat} (hR : zR κ = zrm (d + 1)) (hd : 2 ≤ d + 1) {N : Nat} {r : Int × zH} (e1 : zrv κ = some (.int (zi r.1))) (e2 : zhf κ = r.2) : ∀ (k : Nat) (l1 : Int) (l2 : Int) (l3 : Int) (l4 : Int) (l5 : Int) (l7 : Int) (h : zH), fX11_feed_c62 N k l1 l2 l3 l4 l5 l7 h = some r → Z κ h 62 [(0, .ref (zα κ 14)), (1, .int (zi l1)), (2, .int (zi l2)), (3, .int (zi l3)), (4, .int (zi l4)), (5, .int (zi l5)), (7, .int (zi l7))] [] := by
  intro k
  induction k with
  | zero => intro l1 l2 l3 l4 l5 l7 h hF; cases hF
  | succ k ih => intro l1 l2 l3 l4 l5 l7 h hF; exact J_fX11_feed_c62b C hR hd e1 e2 ih l1 l2 l3 l4 l5 l7 h hF
set_option maxRecDepth 20000 in
set_option maxHeartbeats 4000000 in
theorem J_fX11_feed_c6b {κ : zT} (C : zC κ RX11 cX11_feed 9 (some .int)) {d : Nat} (hR : zR κ = zrm (d + 1)) (hd : 2 ≤ d + 1) {N : Nat} {r : Int × zH} (e1 : zrv κ = some (.int (zi r.1))) (e2 : zhf κ = r.2) {K6 : Int → Int → Int → Int → Int → Int → Int → zH → Option (Int × zH)} (hK6 : ∀ (l1 : Int) (l2 : Int) (l3 : Int) (l4 : Int) (l5 : Int) (l6 : Int) (l7 : Int) (h : zH), K6 l1 l2 l3 l4 l5 l6 l7 h = some r → Z κ h 6 [(0, .ref (zα κ 14)), (1, .int (zi l1)), (2, .int (zi l2)), (3, .int (zi l3)), (4, .int (zi l4)), (5, .int (zi l5)), (6, .int (zi l6)), (7, .int (zi l7))] []) (l1 : Int) (l2 : Int) (l3 : Int) (l4 : Int) (l5 : Int) (l6 : Int) (l7 : Int) (h : zH) (hF : fX11_feed_c6b N K6 l1 l2 l3 l4 l5 l6 l7 h = some r) : Z κ h 6 [(0, .ref (zα κ 14)), (1, .int (zi l1)), (2, .int (zi l2)), (3, .int (zi l3)), (4, .int (zi l4)), (5, .int (zi l5)), (6, .int (zi l6)), (7, .int (zi l7))] [] := by
  unfold fX11_feed_c6b at hF
  refine z_iload (q := 8) C dX11_feed_6 7 rfl rfl ?_
  refine z_bipush (q := 10) C dX11_feed_8 bp_20 rfl ?_
  refine z_icmp_ge (tgt := 44) (q := 13) C dX11_feed_10 (by decide) rfl (fun c1 => ?_) (fun c1 => ?_)
  · have hF := (if_pos c1).symm.trans hF
    refine z_aload_n (q := 45) C dX11_feed_44 0 rfl rfl rfl ?_
    refine z_getf (q := 48) C clX11 (zon C zo_14) kd_14 (k := 2) (by decide) q_1104 rfl (zfv_i kd_14 rfl) dX11_feed_45 rfl ?_
    refine z_iload (q := 50) C dX11_feed_48 6 rfl rfl ?_
    refine z_iadd (q := 51) C dX11_feed_50 rfl ?_
    refine z_sipush (q := 54) C dX11_feed_51 sp_240 rfl ?_
    refine z_icmp_le (tgt := 59) (q := 57) C dX11_feed_54 (by decide) rfl (fun c2 => ?_) (fun c2 => ?_)
    · have hF := (if_pos c2).symm.trans hF
      refine z_iconst (q := 60) C dX11_feed_59 rfl ?_
      refine z_istore (q := 62) C dX11_feed_60 (by decide) rfl rfl ?_
      exact z_sub (J_fX11_feed_c62 C hR hd e1 e2 N _ _ _ _ _ _ _ hF) [1, 2, 3, 4, 5, 6, 0] rfl
    · have hF := (if_neg c2).symm.trans hF
      refine z_iconst (q := 58) C dX11_feed_57 rfl ?_
      have hF := Option.some.inj hF
      subst hF
      exact z_iret C e1 e2 dX11_feed_58
  · have hF := (if_neg c1).symm.trans hF
    refine z_iload (q := 15) C dX11_feed_13 6 rfl rfl ?_
    refine z_iload_n (q := 16) C dX11_feed_15 1 rfl rfl rfl ?_
    refine z_iload_n (q := 17) C dX11_feed_16 2 rfl rfl rfl ?_
    refine z_iload_n (q := 18) C dX11_feed_17 3 rfl rfl rfl ?_
    refine z_iload (q := 20) C dX11_feed_18 4 rfl rfl ?_
    refine z_iload (q := 22) C dX11_feed_20 5 rfl rfl ?_
    refine z_iload (q := 24) C dX11_feed_22 7 rfl rfl ?_
    refine z_callS (q := 27) (av := [.int (zi l1), .int (zi l2), .int (zi l3), .int (zi l4), .int (zi l5), .int (zi l7)]) (rest := [.int (zi l6)]) (stk2 := [.int (zi (fX11_byteOf l1 l2 l3 l4 l5 l7)), .int (zi l6)]) C hR (M_fX11_byteOf (zlv hd rfl) rfl) mY_X11_byteOf q_1261 (Nat.le_of_ble_eq_true rfl) dX11_feed_24 rfl rfl rfl ?_
    refine z_if_eq (tgt := 34) (q := 30) C dX11_feed_27 (by decide) rfl (fun c3 => ?_) (fun c3 => ?_)
    · have hF := (if_pos c3).symm.trans hF
      refine z_iconst (q := 35) C dX11_feed_34 rfl ?_
      refine z_iadd (q := 36) C dX11_feed_35 rfl ?_
      refine z_istore (q := 38) C dX11_feed_36 (by decide) rfl rfl ?_
      refine z_iinc (q := 41) (x := l7) C dX11_feed_38 (j := 7) rfl (by decide) rfl rfl ?_
      refine z_goto (q := 6) C dX11_feed_41 (by decide) ?_
      exact z_sub (hK6 _ _ _ _ _ _ _ _ hF) [2, 3, 4, 5, 6, 7, 1, 0] rfl
    · have hF := (if_neg c3).symm.trans hF
      refine z_iconst (q := 31) C dX11_feed_30 rfl ?_
      refine z_goto (q := 35) C dX11_feed_31 (by decide) ?_
      refine z_iadd (q := 36) C dX11_feed_35 rfl ?_
      refine z_istore (q := 38) C dX11_feed_36 (by decide) rfl rfl ?_
      refine z_iinc (q := 41) (x := l7) C dX11_feed_38 (j := 7) rfl (by decide) rfl rfl ?_
      refine z_goto (q := 6) C dX11_feed_41 (by decide) ?_
      exact z_sub (hK6 _ _ _ _ _ _ _ _ hF) [2, 3, 4, 5, 6, 7, 1, 0] rfl
set_option maxRecDepth 20000 in
set_option maxHeartbeats 4000000 in
theorem J_fX11_feed_c6 {κ : zT} (C : zC κ RX11 cX11_feed 9 (some .int)) {d : Nat} (hR : zR κ = zrm (d + 1)) (hd : 2 ≤ d + 1) {N : Nat} {r : Int × zH} (e1 : zrv κ = some (.int (zi r.1))) (e2 : zhf κ = r.2) : ∀ (k : Nat) (l1 : Int) (l2 : Int) (l3 : Int) (l4 : Int) (l5 : Int) (l6 : Int) (l7 : Int) (h : zH), fX11_feed_c6 N k l1 l2 l3 l4 l5 l6 l7 h = some r → Z κ h 6 [(0, .ref (zα κ 14)), (1, .int (zi l1)), (2, .int (zi l2)), (3, .int (zi l3)), (4, .int (zi l4)), (5, .int (zi l5)), (6, .int (zi l6)), (7, .int (zi l7))] [] := by
  intro k
  induction k with
  | zero => intro l1 l2 l3 l4 l5 l6 l7 h hF; cases hF
  | succ k ih => intro l1 l2 l3 l4 l5 l6 l7 h hF; exact J_fX11_feed_c6b C hR hd e1 e2 ih l1 l2 l3 l4 l5 l6 l7 h hF
set_option maxRecDepth 20000 in
set_option maxHeartbeats 4000000 in
theorem J_fX11_feed {κ : zT} (C : zC κ RX11 cX11_feed 9 (some .int)) {d : Nat} (hR : zR κ = zrm (d + 1)) (hd : 2 ≤ d + 1) {N : Nat} {r : Int × zH} (e1 : zrv κ = some (.int (zi r.1))) (e2 : zhf κ = r.2) {a1 : Int} {a2 : Int} {a3 : Int} {a4 : Int} {a5 : Int} {h : zH} (hF : fX11_feed N a1 a2 a3 a4 a5 h = some r) : Z κ h 0 [(0, .ref (zα κ 14)), (1, .int (zi a1)), (2, .int (zi a2)), (3, .int (zi a3)), (4, .int (zi a4)), (5, .int (zi a5))] [] := by
  unfold fX11_feed at hF
  refine z_iconst (q := 1) C dX11_feed_0 rfl ?_
  refine z_istore (q := 3) C dX11_feed_1 (by decide) rfl rfl ?_
  refine z_iconst (q := 4) C dX11_feed_3 rfl ?_
  refine z_istore (q := 6) C dX11_feed_4 (by decide) rfl rfl ?_
  exact z_sub (J_fX11_feed_c6 C hR hd e1 e2 N _ _ _ _ _ _ _ _ hF) [2, 3, 4, 5, 6, 7, 1, 0] rfl
set_option maxRecDepth 20000 in
set_option maxHeartbeats 4000000 in
theorem M_fX11_feed {l : Launch} {D : va_G} {cy : ClassId} {α : Nat → Nat} {n : Nat} {σ : zSg} {d : Nat} (hd : 2 ≤ d) {N : Nat} {a1 : Int} {a2 : Int} {a3 : Int} {a4 : Int} {a5 : Int} {h : zH} {r : Int} {g : zH} (hF : fX11_feed N a1 a2 a3 a4 a5 h = some (r, g)) : zMet l yX11_feed cX11_feed 9 (some .int) (zrm d) D cy α n σ [.ref (α 14), .int (zi a1), .int (zi a2), .int (zi a3), .int (zi a4), .int (zi a5)] h (some (.int (zi r))) g := by
  obtain ⟨d, rfl⟩ : ∃ e, d = e + 1 := ⟨d - 1, by omega⟩
  refine z_met (by decide +kernel) (Nat.le_of_ble_eq_true rfl) (fun κ k1 k2 k3 k4 k5 k6 k7 k8 k9 C => ?_)
  subst k1 k3 k4 k5 k6 k7
  exact J_fX11_feed C k2 hd k8 k9 hF
set_option maxRecDepth 20000 in
set_option maxHeartbeats 4000000 in
theorem J_fX11_end {κ : zT} (C : zC κ RX11 cX11_end 2 (some .boolean)) {d : Nat} (hR : zR κ = zrm (d + 1)) (hd : 1 ≤ d + 1) {r : Int × zH} (e1 : zrv κ = some (.int (zi r.1))) (e2 : zhf κ = r.2) {a1 : Int} {h : zH} (hF : fX11_end a1 h = r) : Z κ h 0 [(0, .ref (zα κ 14)), (1, .int (zi a1))] [] := by
  unfold fX11_end at hF
  refine z_iload_n (q := 1) C dX11_end_0 1 rfl rfl rfl ?_
  refine z_if_lt (tgt := 12) (q := 4) C dX11_end_1 (by decide) rfl (fun c1 => ?_) (fun c1 => ?_)
  · have hF := (if_pos c1).symm.trans hF
    refine z_iconst (q := 13) C dX11_end_12 rfl ?_
    subst hF
    exact z_zret C (zb01 (Or.inl rfl)) e1 e2 dX11_end_13
  · have hF := (if_neg c1).symm.trans hF
    refine z_iload_n (q := 5) C dX11_end_4 1 rfl rfl rfl ?_
    refine z_aload_n (q := 6) C dX11_end_5 0 rfl rfl rfl ?_
    refine z_getf (q := 9) C clX11 (zon C zo_14) kd_14 (k := 2) (by decide) q_1104 rfl (zfv_i kd_14 rfl) dX11_end_6 rfl ?_
    refine z_icmp_le (tgt := 14) (q := 12) C dX11_end_9 (by decide) rfl (fun c2 => ?_) (fun c2 => ?_)
    · have hF := (if_pos c2).symm.trans hF
      refine z_aload_n (q := 15) C dX11_end_14 0 rfl rfl rfl ?_
      refine z_iload_n (q := 16) C dX11_end_15 1 rfl rfl rfl ?_
      obtain ⟨h3, eh3, hF⟩ := zlet_e hF
      refine z_putf (q := 19) C clX11 (zon C zo_14) kd_14 (k := 2) (x := a1) (by decide) q_1104 rfl rfl rfl rfl (((zfv_i kd_14 rfl)).trans (by rw [if_pos rfl])) dX11_end_16 rfl eh3 ?_
      refine z_iconst (q := 20) C dX11_end_19 rfl ?_
      subst hF
      exact z_zret C (zb01 (Or.inr rfl)) e1 e2 dX11_end_20
    · have hF := (if_neg c2).symm.trans hF
      refine z_iconst (q := 13) C dX11_end_12 rfl ?_
      subst hF
      exact z_zret C (zb01 (Or.inl rfl)) e1 e2 dX11_end_13
set_option maxRecDepth 20000 in
set_option maxHeartbeats 4000000 in
theorem M_fX11_end {l : Launch} {D : va_G} {cy : ClassId} {α : Nat → Nat} {n : Nat} {σ : zSg} {d : Nat} (hd : 1 ≤ d) {a1 : Int} {h : zH} {r : Int} {g : zH} (hF : fX11_end a1 h = (r, g)) : zMet l yX11_end cX11_end 2 (some .boolean) (zrm d) D cy α n σ [.ref (α 14), .int (zi a1)] h (some (.int (zi r))) g := by
  obtain ⟨d, rfl⟩ : ∃ e, d = e + 1 := ⟨d - 1, by omega⟩
  refine z_met (by decide +kernel) (Nat.le_of_ble_eq_true rfl) (fun κ k1 k2 k3 k4 k5 k6 k7 k8 k9 C => ?_)
  subst k1 k3 k4 k5 k6 k7
  exact J_fX11_end C k2 hd k8 k9 hF
set_option maxRecDepth 20000 in
set_option maxHeartbeats 4000000 in
theorem J_fX11_usual {κ : zT} (C : zC κ RX11 cX11_usual 2 (some .int)) {d : Nat} (hR : zR κ = zrm (d + 1)) (hd : 1 ≤ d + 1) {h : zH} {r : Int} (e1 : zrv κ = some (.int (zi r))) (e2 : zhf κ = h) {a0 : Int} {a1 : Int} (hF : fX11_usual a0 a1 = r) : Z κ h 0 [(0, .int (zi a0)), (1, .int (zi a1))] [] := by
  unfold fX11_usual at hF
  refine z_iload_n (q := 1) C dX11_usual_0 0 rfl rfl rfl ?_
  by_cases c1 : zw a0 = 100
  · have hF := (if_pos c1).symm.trans hF
    refine z_lookup (off := 67) (tgt := 68) C dX11_usual_1 (by decide) (by rw [c1]; decide) (by decide) ?_
    refine z_iload_n (q := 69) C dX11_usual_68 1 rfl rfl rfl ?_
    refine z_if_ne (tgt := 76) (q := 72) C dX11_usual_69 (by decide) rfl (fun c2 => ?_) (fun c2 => ?_)
    · have hF := (if_neg c2).symm.trans hF
      refine z_iload_n (q := 77) C dX11_usual_76 1 rfl rfl rfl ?_
      refine z_iconst (q := 78) C dX11_usual_77 rfl ?_
      refine z_icmp_ne (tgt := 86) (q := 81) C dX11_usual_78 (by decide) rfl (fun c3 => ?_) (fun c3 => ?_)
      · have hF := (if_neg c3).symm.trans hF
        refine z_iconst (q := 87) C dX11_usual_86 rfl ?_
        subst hF
        exact z_iret C e1 e2 dX11_usual_87
      · have hF := (if_pos c3).symm.trans hF
        refine z_bipush (q := 83) C dX11_usual_81 bp_24 rfl ?_
        refine z_goto (q := 87) C dX11_usual_83 (by decide) ?_
        subst hF
        exact z_iret C e1 e2 dX11_usual_87
    · have hF := (if_pos c2).symm.trans hF
      refine z_iconst (q := 73) C dX11_usual_72 rfl ?_
      refine z_goto (q := 87) C dX11_usual_73 (by decide) ?_
      subst hF
      exact z_iret C e1 e2 dX11_usual_87
  · have hF := (if_neg c1).symm.trans hF
    by_cases c4 : zw a0 = 112
    · have hF := (if_pos c4).symm.trans hF
      refine z_lookup (off := 47) (tgt := 48) C dX11_usual_1 (by decide) (by rw [c4]; decide) (by decide) ?_
      refine z_iload_n (q := 49) C dX11_usual_48 1 rfl rfl rfl ?_
      refine z_if_ne (tgt := 56) (q := 52) C dX11_usual_49 (by decide) rfl (fun c5 => ?_) (fun c5 => ?_)
      · have hF := (if_neg c5).symm.trans hF
        refine z_iload_n (q := 57) C dX11_usual_56 1 rfl rfl rfl ?_
        refine z_iconst (q := 58) C dX11_usual_57 rfl ?_
        refine z_icmp_ne (tgt := 66) (q := 61) C dX11_usual_58 (by decide) rfl (fun c6 => ?_) (fun c6 => ?_)
        · have hF := (if_neg c6).symm.trans hF
          refine z_iconst (q := 67) C dX11_usual_66 rfl ?_
          subst hF
          exact z_iret C e1 e2 dX11_usual_67
        · have hF := (if_pos c6).symm.trans hF
          refine z_bipush (q := 63) C dX11_usual_61 bp_6 rfl ?_
          refine z_goto (q := 67) C dX11_usual_63 (by decide) ?_
          subst hF
          exact z_iret C e1 e2 dX11_usual_67
      · have hF := (if_pos c5).symm.trans hF
        refine z_iconst (q := 53) C dX11_usual_52 rfl ?_
        refine z_goto (q := 67) C dX11_usual_53 (by decide) ?_
        subst hF
        exact z_iret C e1 e2 dX11_usual_67
    · have hF := (if_neg c4).symm.trans hF
      by_cases c7 : zw a0 = 115
      · have hF := (if_pos c7).symm.trans hF
        refine z_lookup (off := 35) (tgt := 36) C dX11_usual_1 (by decide) (by rw [c7]; decide) (by decide) ?_
        refine z_iload_n (q := 37) C dX11_usual_36 1 rfl rfl rfl ?_
        refine z_if_ne (tgt := 45) (q := 40) C dX11_usual_37 (by decide) rfl (fun c8 => ?_) (fun c8 => ?_)
        · have hF := (if_neg c8).symm.trans hF
          refine z_bipush (q := 47) C dX11_usual_45 bp_12 rfl ?_
          subst hF
          exact z_iret C e1 e2 dX11_usual_47
        · have hF := (if_pos c8).symm.trans hF
          refine z_bipush (q := 42) C dX11_usual_40 bp_6 rfl ?_
          refine z_goto (q := 47) C dX11_usual_42 (by decide) ?_
          subst hF
          exact z_iret C e1 e2 dX11_usual_47
      · have hF := (if_neg c7).symm.trans hF
        refine z_lookup (off := 87) (tgt := 88) C dX11_usual_1 (by decide) (by show Op.lookupswitch.offset [(100, 67), (112, 47), (115, 35)] _ _ = _; rw [z_osw c1, z_osw c4, z_osw c7]; rfl) (by decide) ?_
        refine z_iload_n (q := 89) C dX11_usual_88 1 rfl rfl rfl ?_
        refine z_if_ne (tgt := 96) (q := 92) C dX11_usual_89 (by decide) rfl (fun c9 => ?_) (fun c9 => ?_)
        · have hF := (if_neg c9).symm.trans hF
          refine z_bipush (q := 98) C dX11_usual_96 bp_8 rfl ?_
          subst hF
          exact z_iret C e1 e2 dX11_usual_98
        · have hF := (if_pos c9).symm.trans hF
          refine z_iconst (q := 93) C dX11_usual_92 rfl ?_
          refine z_goto (q := 98) C dX11_usual_93 (by decide) ?_
          subst hF
          exact z_iret C e1 e2 dX11_usual_98
set_option maxRecDepth 20000 in
set_option maxHeartbeats 4000000 in
theorem M_fX11_usual {l : Launch} {D : va_G} {cy : ClassId} {α : Nat → Nat} {n : Nat} {σ : zSg} {d : Nat} (hd : 1 ≤ d) {a0 : Int} {a1 : Int} {h : zH} {r : Int} (hF : fX11_usual a0 a1 = r) : zMet l yX11_usual cX11_usual 2 (some .int) (zrm d) D cy α n σ [.int (zi a0), .int (zi a1)] h (some (.int (zi r))) h := by
  obtain ⟨d, rfl⟩ : ∃ e, d = e + 1 := ⟨d - 1, by omega⟩
  refine z_met (by decide +kernel) (Nat.le_of_ble_eq_true rfl) (fun κ k1 k2 k3 k4 k5 k6 k7 k8 k9 C => ?_)
  subst k1 k3 k4 k5 k6 k7
  exact J_fX11_usual C k2 hd k8 k9 hF
set_option maxRecDepth 20000 in
set_option maxHeartbeats 4000000 in
theorem J_fX11_here {κ : zT} (C : zC κ RX11 cX11_here 1 (some .int)) {d : Nat} (hR : zR κ = zrm (d + 1)) (hd : 1 ≤ d + 1) {h : zH} {r : Int} (e1 : zrv κ = some (.int (zi r))) (e2 : zhf κ = h) (hF : fX11_here h = some r) : Z κ h 0 [(0, .ref (zα κ 14))] [] := by
  unfold fX11_here at hF
  refine z_aload_n (q := 1) C dX11_here_0 0 rfl rfl rfl ?_
  refine z_getf (q := 4) C clX11 (zon C zo_14) kd_14 (k := 3) (by decide) q_1105 rfl (zfv_i kd_14 rfl) dX11_here_1 rfl ?_
  refine z_aload_n (q := 5) C dX11_here_4 0 rfl rfl rfl ?_
  refine z_getf (q := 8) C clX11 (zon C zo_14) kd_14 (k := 2) (by decide) q_1104 rfl (zfv_i kd_14 rfl) dX11_here_5 rfl ?_
  refine z_icmp_ge (tgt := 23) (q := 11) C dX11_here_8 (by decide) rfl (fun c1 => ?_) (fun c1 => ?_)
  · have hF := (if_pos c1).symm.trans hF
    refine z_iconst (q := 24) C dX11_here_23 rfl ?_
    have hF := Option.some.inj hF
    subst hF
    exact z_iret C e1 e2 dX11_here_24
  · have hF := (if_neg c1).symm.trans hF
    refine z_aload_n (q := 12) C dX11_here_11 0 rfl rfl rfl ?_
    refine z_getf (q := 15) C clX11 (zon C zo_14) kd_14 (k := 1) (by decide) q_1103 rfl (zfv_r kd_14 rfl fr_14_1) dX11_here_12 rfl ?_
    refine z_aload_n (q := 16) C dX11_here_15 0 rfl rfl rfl ?_
    refine z_getf (q := 19) C clX11 (zon C zo_14) kd_14 (k := 3) (by decide) q_1105 rfl (zfv_i kd_14 rfl) dX11_here_16 rfl ?_
    obtain ⟨g2, hF⟩ := zif_none hF
    refine z_iald (q := 20) C (zon C zo_49) kd_49 g2.1 (by rw [ln_49]; exact g2.2) dX11_here_19 rfl ?_
    refine z_goto (q := 24) C dX11_here_20 (by decide) ?_
    have hF := Option.some.inj hF
    subst hF
    exact z_iret C e1 e2 dX11_here_24
set_option maxRecDepth 20000 in
set_option maxHeartbeats 4000000 in
theorem M_fX11_here {l : Launch} {D : va_G} {cy : ClassId} {α : Nat → Nat} {n : Nat} {σ : zSg} {d : Nat} (hd : 1 ≤ d) {h : zH} {r : Int} (hF : fX11_here h = some r) : zMet l yX11_here cX11_here 1 (some .int) (zrm d) D cy α n σ [.ref (α 14)] h (some (.int (zi r))) h := by
  obtain ⟨d, rfl⟩ : ∃ e, d = e + 1 := ⟨d - 1, by omega⟩
  refine z_met (by decide +kernel) (Nat.le_of_ble_eq_true rfl) (fun κ k1 k2 k3 k4 k5 k6 k7 k8 k9 C => ?_)
  subst k1 k3 k4 k5 k6 k7
  exact J_fX11_here C k2 hd k8 k9 hF
set_option maxRecDepth 20000 in
set_option maxHeartbeats 4000000 in
theorem J_fX11_look_c0b {κ : zT} (C : zC κ RX11 cX11_look 1 (some .int)) {d : Nat} (hR : zR κ = zrm (d + 1)) (hd : 2 ≤ d + 1) {N : Nat} {r : Int × zH} (e1 : zrv κ = some (.int (zi r.1))) (e2 : zhf κ = r.2) {K0 : zH → Option (Int × zH)} (hK0 : ∀ (h : zH), K0 h = some r → Z κ h 0 [(0, .ref (zα κ 14))] []) (h : zH) (hF : fX11_look_c0b N K0 h = some r) : Z κ h 0 [(0, .ref (zα κ 14))] [] := by
  unfold fX11_look_c0b at hF
  refine z_aload_n (q := 1) C dX11_look_0 0 rfl rfl rfl ?_
  obtain ⟨v1, ev1, hF⟩ := zb_e hF
  refine z_callV (q := 4) (o := 14) (av := []) (rest := []) (stk2 := [.int (zi v1)]) C hR clX11 (zon C zo_14) kd_14 (M_fX11_here (zlv hd rfl) ev1) mY_X11_here q_1283 (Nat.le_of_ble_eq_true rfl) dX11_look_1 rfl rfl rfl ?_
  refine z_bipush (q := 6) C dX11_look_4 bp_32 rfl ?_
  refine z_icmp_ne (tgt := 22) (q := 9) C dX11_look_6 (by decide) rfl (fun c2 => ?_) (fun c2 => ?_)
  · have hF := (if_neg c2).symm.trans hF
    refine z_aload_n (q := 23) C dX11_look_22 0 rfl rfl rfl ?_
    obtain ⟨v4, ev4, hF⟩ := zb_e hF
    refine z_callV (q := 26) (o := 14) (av := []) (rest := []) (stk2 := [.int (zi v4)]) C hR clX11 (zon C zo_14) kd_14 (M_fX11_here (zlv hd rfl) ev4) mY_X11_here q_1283 (Nat.le_of_ble_eq_true rfl) dX11_look_23 rfl rfl rfl ?_
    have hF := Option.some.inj hF
    subst hF
    exact z_iret C e1 e2 dX11_look_26
  · have hF := (if_pos c2).symm.trans hF
    refine z_aload_n (q := 10) C dX11_look_9 0 rfl rfl rfl ?_
    refine z_dup (q := 11) C dX11_look_10 rfl rfl ?_
    refine z_getf (q := 14) C clX11 (zon C zo_14) kd_14 (k := 3) (by decide) q_1105 rfl (zfv_i kd_14 rfl) dX11_look_11 rfl ?_
    refine z_iconst (q := 15) C dX11_look_14 rfl ?_
    refine z_iadd (q := 16) C dX11_look_15 rfl ?_
    obtain ⟨h3, eh3, hF⟩ := zlet_e hF
    refine z_putf (q := 19) C clX11 (zon C zo_14) kd_14 (k := 3) (x := (h 14 3) + 1) (by decide) q_1105 rfl rfl rfl rfl (((zfv_i kd_14 rfl)).trans (by rw [if_pos rfl])) dX11_look_16 rfl eh3 ?_
    refine z_goto (q := 0) C dX11_look_19 (by decide) ?_
    exact z_sub (hK0 _ hF) [0] rfl
set_option maxRecDepth 20000 in
set_option maxHeartbeats 4000000 in
theorem J_fX11_look_c0 {κ : zT} (C : zC κ RX11 cX11_look 1 (some .int)) {d : Nat} (hR : zR κ = zrm (d + 1)) (hd : 2 ≤ d + 1) {N : Nat} {r : Int × zH} (e1 : zrv κ = some (.int (zi r.1))) (e2 : zhf κ = r.2) : ∀ (k : Nat) (h : zH), fX11_look_c0 N k h = some r → Z κ h 0 [(0, .ref (zα κ 14))] [] := by
  intro k
  induction k with
  | zero => intro h hF; cases hF
  | succ k ih => intro h hF; exact J_fX11_look_c0b C hR hd e1 e2 ih h hF
set_option maxRecDepth 20000 in
set_option maxHeartbeats 4000000 in
theorem J_fX11_look {κ : zT} (C : zC κ RX11 cX11_look 1 (some .int)) {d : Nat} (hR : zR κ = zrm (d + 1)) (hd : 2 ≤ d + 1) {N : Nat} {r : Int × zH} (e1 : zrv κ = some (.int (zi r.1))) (e2 : zhf κ = r.2) {h : zH} (hF : fX11_look N h = some r) : Z κ h 0 [(0, .ref (zα κ 14))] [] := by
  unfold fX11_look at hF
  exact z_sub (J_fX11_look_c0 C hR hd e1 e2 N _ hF) [0] rfl
set_option maxRecDepth 20000 in
set_option maxHeartbeats 4000000 in
theorem M_fX11_look {l : Launch} {D : va_G} {cy : ClassId} {α : Nat → Nat} {n : Nat} {σ : zSg} {d : Nat} (hd : 2 ≤ d) {N : Nat} {h : zH} {r : Int} {g : zH} (hF : fX11_look N h = some (r, g)) : zMet l yX11_look cX11_look 1 (some .int) (zrm d) D cy α n σ [.ref (α 14)] h (some (.int (zi r))) g := by
  obtain ⟨d, rfl⟩ : ∃ e, d = e + 1 := ⟨d - 1, by omega⟩
  refine z_met (by decide +kernel) (Nat.le_of_ble_eq_true rfl) (fun κ k1 k2 k3 k4 k5 k6 k7 k8 k9 C => ?_)
  subst k1 k3 k4 k5 k6 k7
  exact J_fX11_look C k2 hd k8 k9 hF
set_option maxRecDepth 20000 in
set_option maxHeartbeats 4000000 in
theorem J_fX11_itemOf {κ : zT} (C : zC κ RX11 cX11_itemOf 2 (some .int)) {d : Nat} (hR : zR κ = zrm (d + 1)) (hd : 1 ≤ d + 1) {h : zH} {r : Int} (e1 : zrv κ = some (.int (zi r))) (e2 : zhf κ = h) {a0 : Int} {a1 : Int} (hF : fX11_itemOf a0 a1 = r) : Z κ h 0 [(0, .int (zi a0)), (1, .int (zi a1))] [] := by
  unfold fX11_itemOf at hF
  refine z_iload_n (q := 1) C dX11_itemOf_0 0 rfl rfl rfl ?_
  by_cases c1 : zw a0 = 100
  · have hF := (if_pos c1).symm.trans hF
    refine z_lookup (off := 89) (tgt := 90) C dX11_itemOf_1 (by decide) (by rw [c1]; decide) (by decide) ?_
    refine z_iload_n (q := 91) C dX11_itemOf_90 1 rfl rfl rfl ?_
    refine z_bipush (q := 93) C dX11_itemOf_91 bp_111 rfl ?_
    refine z_icmp_ne (tgt := 100) (q := 96) C dX11_itemOf_93 (by decide) rfl (fun c2 => ?_) (fun c2 => ?_)
    · have hF := (if_neg c2).symm.trans hF
      refine z_iload_n (q := 101) C dX11_itemOf_100 1 rfl rfl rfl ?_
      refine z_bipush (q := 103) C dX11_itemOf_101 bp_99 rfl ?_
      refine z_icmp_ne (tgt := 110) (q := 106) C dX11_itemOf_103 (by decide) rfl (fun c3 => ?_) (fun c3 => ?_)
      · have hF := (if_neg c3).symm.trans hF
        refine z_iload_n (q := 111) C dX11_itemOf_110 1 rfl rfl rfl ?_
        refine z_bipush (q := 113) C dX11_itemOf_111 bp_116 rfl ?_
        refine z_icmp_ne (tgt := 120) (q := 116) C dX11_itemOf_113 (by decide) rfl (fun c4 => ?_) (fun c4 => ?_)
        · have hF := (if_neg c4).symm.trans hF
          refine z_iload_n (q := 121) C dX11_itemOf_120 1 rfl rfl rfl ?_
          refine z_bipush (q := 123) C dX11_itemOf_121 bp_101 rfl ?_
          refine z_icmp_ne (tgt := 130) (q := 126) C dX11_itemOf_123 (by decide) rfl (fun c5 => ?_) (fun c5 => ?_)
          · have hF := (if_neg c5).symm.trans hF
            refine z_iconst (q := 131) C dX11_itemOf_130 rfl ?_
            subst hF
            exact z_iret C e1 e2 dX11_itemOf_131
          · have hF := (if_pos c5).symm.trans hF
            refine z_iconst (q := 127) C dX11_itemOf_126 rfl ?_
            refine z_goto (q := 131) C dX11_itemOf_127 (by decide) ?_
            subst hF
            exact z_iret C e1 e2 dX11_itemOf_131
        · have hF := (if_pos c4).symm.trans hF
          refine z_iconst (q := 117) C dX11_itemOf_116 rfl ?_
          refine z_goto (q := 131) C dX11_itemOf_117 (by decide) ?_
          subst hF
          exact z_iret C e1 e2 dX11_itemOf_131
      · have hF := (if_pos c3).symm.trans hF
        refine z_iconst (q := 107) C dX11_itemOf_106 rfl ?_
        refine z_goto (q := 131) C dX11_itemOf_107 (by decide) ?_
        subst hF
        exact z_iret C e1 e2 dX11_itemOf_131
    · have hF := (if_pos c2).symm.trans hF
      refine z_iconst (q := 97) C dX11_itemOf_96 rfl ?_
      refine z_goto (q := 131) C dX11_itemOf_97 (by decide) ?_
      subst hF
      exact z_iret C e1 e2 dX11_itemOf_131
  · have hF := (if_neg c1).symm.trans hF
    by_cases c6 : zw a0 = 112
    · have hF := (if_pos c6).symm.trans hF
      refine z_lookup (off := 57) (tgt := 58) C dX11_itemOf_1 (by decide) (by rw [c6]; decide) (by decide) ?_
      refine z_iload_n (q := 59) C dX11_itemOf_58 1 rfl rfl rfl ?_
      refine z_bipush (q := 61) C dX11_itemOf_59 bp_102 rfl ?_
      refine z_icmp_ne (tgt := 68) (q := 64) C dX11_itemOf_61 (by decide) rfl (fun c7 => ?_) (fun c7 => ?_)
      · have hF := (if_neg c7).symm.trans hF
        refine z_iload_n (q := 69) C dX11_itemOf_68 1 rfl rfl rfl ?_
        refine z_bipush (q := 71) C dX11_itemOf_69 bp_110 rfl ?_
        refine z_icmp_ne (tgt := 78) (q := 74) C dX11_itemOf_71 (by decide) rfl (fun c8 => ?_) (fun c8 => ?_)
        · have hF := (if_neg c8).symm.trans hF
          refine z_iload_n (q := 79) C dX11_itemOf_78 1 rfl rfl rfl ?_
          refine z_bipush (q := 81) C dX11_itemOf_79 bp_122 rfl ?_
          refine z_icmp_ne (tgt := 88) (q := 84) C dX11_itemOf_81 (by decide) rfl (fun c9 => ?_) (fun c9 => ?_)
          · have hF := (if_neg c9).symm.trans hF
            refine z_iconst (q := 89) C dX11_itemOf_88 rfl ?_
            subst hF
            exact z_iret C e1 e2 dX11_itemOf_89
          · have hF := (if_pos c9).symm.trans hF
            refine z_iconst (q := 85) C dX11_itemOf_84 rfl ?_
            refine z_goto (q := 89) C dX11_itemOf_85 (by decide) ?_
            subst hF
            exact z_iret C e1 e2 dX11_itemOf_89
        · have hF := (if_pos c8).symm.trans hF
          refine z_iconst (q := 75) C dX11_itemOf_74 rfl ?_
          refine z_goto (q := 89) C dX11_itemOf_75 (by decide) ?_
          subst hF
          exact z_iret C e1 e2 dX11_itemOf_89
      · have hF := (if_pos c7).symm.trans hF
        refine z_iconst (q := 65) C dX11_itemOf_64 rfl ?_
        refine z_goto (q := 89) C dX11_itemOf_65 (by decide) ?_
        subst hF
        exact z_iret C e1 e2 dX11_itemOf_89
    · have hF := (if_neg c6).symm.trans hF
      by_cases c10 : zw a0 = 115
      · have hF := (if_pos c10).symm.trans hF
        refine z_lookup (off := 35) (tgt := 36) C dX11_itemOf_1 (by decide) (by rw [c10]; decide) (by decide) ?_
        refine z_iload_n (q := 37) C dX11_itemOf_36 1 rfl rfl rfl ?_
        refine z_bipush (q := 39) C dX11_itemOf_37 bp_97 rfl ?_
        refine z_icmp_ne (tgt := 46) (q := 42) C dX11_itemOf_39 (by decide) rfl (fun c11 => ?_) (fun c11 => ?_)
        · have hF := (if_neg c11).symm.trans hF
          refine z_iload_n (q := 47) C dX11_itemOf_46 1 rfl rfl rfl ?_
          refine z_bipush (q := 49) C dX11_itemOf_47 bp_108 rfl ?_
          refine z_icmp_ne (tgt := 56) (q := 52) C dX11_itemOf_49 (by decide) rfl (fun c12 => ?_) (fun c12 => ?_)
          · have hF := (if_neg c12).symm.trans hF
            refine z_iconst (q := 57) C dX11_itemOf_56 rfl ?_
            subst hF
            exact z_iret C e1 e2 dX11_itemOf_57
          · have hF := (if_pos c12).symm.trans hF
            refine z_iconst (q := 53) C dX11_itemOf_52 rfl ?_
            refine z_goto (q := 57) C dX11_itemOf_53 (by decide) ?_
            subst hF
            exact z_iret C e1 e2 dX11_itemOf_57
        · have hF := (if_pos c11).symm.trans hF
          refine z_iconst (q := 43) C dX11_itemOf_42 rfl ?_
          refine z_goto (q := 57) C dX11_itemOf_43 (by decide) ?_
          subst hF
          exact z_iret C e1 e2 dX11_itemOf_57
      · have hF := (if_neg c10).symm.trans hF
        refine z_lookup (off := 131) (tgt := 132) C dX11_itemOf_1 (by decide) (by show Op.lookupswitch.offset [(100, 89), (112, 57), (115, 35)] _ _ = _; rw [z_osw c1, z_osw c6, z_osw c10]; rfl) (by decide) ?_
        refine z_iload_n (q := 133) C dX11_itemOf_132 1 rfl rfl rfl ?_
        refine z_bipush (q := 135) C dX11_itemOf_133 bp_100 rfl ?_
        refine z_icmp_ne (tgt := 142) (q := 138) C dX11_itemOf_135 (by decide) rfl (fun c13 => ?_) (fun c13 => ?_)
        · have hF := (if_neg c13).symm.trans hF
          refine z_iload_n (q := 143) C dX11_itemOf_142 1 rfl rfl rfl ?_
          refine z_bipush (q := 145) C dX11_itemOf_143 bp_110 rfl ?_
          refine z_icmp_ne (tgt := 152) (q := 148) C dX11_itemOf_145 (by decide) rfl (fun c14 => ?_) (fun c14 => ?_)
          · have hF := (if_neg c14).symm.trans hF
            refine z_iload_n (q := 153) C dX11_itemOf_152 1 rfl rfl rfl ?_
            refine z_bipush (q := 155) C dX11_itemOf_153 bp_109 rfl ?_
            refine z_icmp_ne (tgt := 162) (q := 158) C dX11_itemOf_155 (by decide) rfl (fun c15 => ?_) (fun c15 => ?_)
            · have hF := (if_neg c15).symm.trans hF
              refine z_iconst (q := 163) C dX11_itemOf_162 rfl ?_
              subst hF
              exact z_iret C e1 e2 dX11_itemOf_163
            · have hF := (if_pos c15).symm.trans hF
              refine z_iconst (q := 159) C dX11_itemOf_158 rfl ?_
              refine z_goto (q := 163) C dX11_itemOf_159 (by decide) ?_
              subst hF
              exact z_iret C e1 e2 dX11_itemOf_163
          · have hF := (if_pos c14).symm.trans hF
            refine z_iconst (q := 149) C dX11_itemOf_148 rfl ?_
            refine z_goto (q := 163) C dX11_itemOf_149 (by decide) ?_
            subst hF
            exact z_iret C e1 e2 dX11_itemOf_163
        · have hF := (if_pos c13).symm.trans hF
          refine z_iconst (q := 139) C dX11_itemOf_138 rfl ?_
          refine z_goto (q := 163) C dX11_itemOf_139 (by decide) ?_
          subst hF
          exact z_iret C e1 e2 dX11_itemOf_163
set_option maxRecDepth 20000 in
set_option maxHeartbeats 4000000 in
theorem M_fX11_itemOf {l : Launch} {D : va_G} {cy : ClassId} {α : Nat → Nat} {n : Nat} {σ : zSg} {d : Nat} (hd : 1 ≤ d) {a0 : Int} {a1 : Int} {h : zH} {r : Int} (hF : fX11_itemOf a0 a1 = r) : zMet l yX11_itemOf cX11_itemOf 2 (some .int) (zrm d) D cy α n σ [.int (zi a0), .int (zi a1)] h (some (.int (zi r))) h := by
  obtain ⟨d, rfl⟩ : ∃ e, d = e + 1 := ⟨d - 1, by omega⟩
  refine z_met (by decide +kernel) (Nat.le_of_ble_eq_true rfl) (fun κ k1 k2 k3 k4 k5 k6 k7 k8 k9 C => ?_)
  subst k1 k3 k4 k5 k6 k7
  exact J_fX11_itemOf C k2 hd k8 k9 hF
set_option maxRecDepth 20000 in
set_option maxHeartbeats 4000000 in
theorem J_fX11_has {κ : zT} (C : zC κ RX11 cX11_has 2 (some .boolean)) {d : Nat} (hR : zR κ = zrm (d + 1)) (hd : 1 ≤ d + 1) {h : zH} {r : Int} (e1 : zrv κ = some (.int (zi r))) (e2 : zhf κ = h) {a0 : Int} {a1 : Int} (hF : fX11_has a0 a1 = r) : Z κ h 0 [(0, .int (zi a0)), (1, .int (zi a1))] [] := by
  unfold fX11_has at hF
  refine z_iload_n (q := 1) C dX11_has_0 0 rfl rfl rfl ?_
  refine z_iload_n (q := 2) C dX11_has_1 1 rfl rfl rfl ?_
  refine z_ishr (q := 3) C dX11_has_2 rfl ?_
  refine z_iconst (q := 4) C dX11_has_3 rfl ?_
  refine z_iand (q := 5) C dX11_has_4 rfl ?_
  refine z_iconst (q := 6) C dX11_has_5 rfl ?_
  refine z_icmp_ne (tgt := 13) (q := 9) C dX11_has_6 (by decide) rfl (fun c1 => ?_) (fun c1 => ?_)
  · have hF := (if_neg c1).symm.trans hF
    refine z_iconst (q := 14) C dX11_has_13 rfl ?_
    subst hF
    exact z_zret C (zb01 (Or.inl rfl)) e1 e2 dX11_has_14
  · have hF := (if_pos c1).symm.trans hF
    refine z_iconst (q := 10) C dX11_has_9 rfl ?_
    refine z_goto (q := 14) C dX11_has_10 (by decide) ?_
    subst hF
    exact z_zret C (zb01 (Or.inr rfl)) e1 e2 dX11_has_14
set_option maxRecDepth 20000 in
set_option maxHeartbeats 4000000 in
theorem M_fX11_has {l : Launch} {D : va_G} {cy : ClassId} {α : Nat → Nat} {n : Nat} {σ : zSg} {d : Nat} (hd : 1 ≤ d) {a0 : Int} {a1 : Int} {h : zH} {r : Int} (hF : fX11_has a0 a1 = r) : zMet l yX11_has cX11_has 2 (some .boolean) (zrm d) D cy α n σ [.int (zi a0), .int (zi a1)] h (some (.int (zi r))) h := by
  obtain ⟨d, rfl⟩ : ∃ e, d = e + 1 := ⟨d - 1, by omega⟩
  refine z_met (by decide +kernel) (Nat.le_of_ble_eq_true rfl) (fun κ k1 k2 k3 k4 k5 k6 k7 k8 k9 C => ?_)
  subst k1 k3 k4 k5 k6 k7
  exact J_fX11_has C k2 hd k8 k9 hF
theorem B_fX11_has {a0 : Int} {a1 : Int} : fX11_has a0 a1 = 0 ∨ fX11_has a0 a1 = 1 := by
  unfold fX11_has
  try simp only [zlet, zlet2]
  repeat' (first | exact Or.inl rfl | exact Or.inr rfl | apply zite01)
set_option maxRecDepth 20000 in
set_option maxHeartbeats 4000000 in
theorem J_fX11_lowest {κ : zT} (C : zC κ RX11 cX11_lowest 3 (some .int)) {d : Nat} (hR : zR κ = zrm (d + 1)) (hd : 1 ≤ d + 1) {h : zH} {r : Int} (e1 : zrv κ = some (.int (zi r))) (e2 : zhf κ = h) {a0 : Int} {a1 : Int} (hF : fX11_lowest a0 a1 = r) : Z κ h 0 [(0, .int (zi a0)), (1, .int (zi a1))] [] := by
  unfold fX11_lowest at hF
  refine z_iload_n (q := 1) C dX11_lowest_0 0 rfl rfl rfl ?_
  refine z_bipush (q := 3) C dX11_lowest_1 bp_112 rfl ?_
  refine z_icmp_ne (tgt := 19) (q := 6) C dX11_lowest_3 (by decide) rfl (fun c1 => ?_) (fun c1 => ?_)
  · have hF := (if_neg c1).symm.trans hF
    refine z_iload_n (q := 20) C dX11_lowest_19 0 rfl rfl rfl ?_
    refine z_bipush (q := 22) C dX11_lowest_20 bp_100 rfl ?_
    refine z_icmp_ne (tgt := 39) (q := 25) C dX11_lowest_22 (by decide) rfl (fun c5 => ?_) (fun c5 => ?_)
    · have hF := (if_neg c5).symm.trans hF
      refine z_iconst (q := 40) C dX11_lowest_39 rfl ?_
      refine z_istore_n (q := 41) C dX11_lowest_40 (by decide) rfl rfl rfl ?_
      refine z_iload_n (q := 42) C dX11_lowest_41 0 rfl rfl rfl ?_
      refine z_if_eq (tgt := 49) (q := 45) C dX11_lowest_42 (by decide) rfl (fun c11 => ?_) (fun c11 => ?_)
      · have hF := (if_pos c11).symm.trans hF
        refine z_iconst (q := 50) C dX11_lowest_49 rfl ?_
        subst hF
        exact z_iret C e1 e2 dX11_lowest_50
      · have hF := (if_neg c11).symm.trans hF
        refine z_iconst (q := 46) C dX11_lowest_45 rfl ?_
        refine z_goto (q := 50) C dX11_lowest_46 (by decide) ?_
        subst hF
        exact z_iret C e1 e2 dX11_lowest_50
    · have hF := (if_pos c5).symm.trans hF
      refine z_iload_n (q := 26) C dX11_lowest_25 1 rfl rfl rfl ?_
      refine z_iconst (q := 27) C dX11_lowest_26 rfl ?_
      refine z_icmp_eq (tgt := 35) (q := 30) C dX11_lowest_27 (by decide) rfl (fun c6 => ?_) (fun c6 => ?_)
      · have hF := (if_pos c6).symm.trans hF
        refine z_iconst (q := 36) C dX11_lowest_35 rfl ?_
        refine z_goto (q := 40) C dX11_lowest_36 (by decide) ?_
        refine z_istore_n (q := 41) C dX11_lowest_40 (by decide) rfl rfl rfl ?_
        refine z_iload_n (q := 42) C dX11_lowest_41 0 rfl rfl rfl ?_
        refine z_if_eq (tgt := 49) (q := 45) C dX11_lowest_42 (by decide) rfl (fun c7 => ?_) (fun c7 => ?_)
        · have hF := (if_pos c7).symm.trans hF
          refine z_iconst (q := 50) C dX11_lowest_49 rfl ?_
          subst hF
          exact z_iret C e1 e2 dX11_lowest_50
        · have hF := (if_neg c7).symm.trans hF
          refine z_iconst (q := 46) C dX11_lowest_45 rfl ?_
          refine z_goto (q := 50) C dX11_lowest_46 (by decide) ?_
          subst hF
          exact z_iret C e1 e2 dX11_lowest_50
      · have hF := (if_neg c6).symm.trans hF
        refine z_iload_n (q := 31) C dX11_lowest_30 1 rfl rfl rfl ?_
        refine z_iconst (q := 32) C dX11_lowest_31 rfl ?_
        refine z_icmp_ne (tgt := 39) (q := 35) C dX11_lowest_32 (by decide) rfl (fun c8 => ?_) (fun c8 => ?_)
        · have hF := (if_neg c8).symm.trans hF
          refine z_iconst (q := 40) C dX11_lowest_39 rfl ?_
          refine z_istore_n (q := 41) C dX11_lowest_40 (by decide) rfl rfl rfl ?_
          refine z_iload_n (q := 42) C dX11_lowest_41 0 rfl rfl rfl ?_
          refine z_if_eq (tgt := 49) (q := 45) C dX11_lowest_42 (by decide) rfl (fun c10 => ?_) (fun c10 => ?_)
          · have hF := (if_pos c10).symm.trans hF
            refine z_iconst (q := 50) C dX11_lowest_49 rfl ?_
            subst hF
            exact z_iret C e1 e2 dX11_lowest_50
          · have hF := (if_neg c10).symm.trans hF
            refine z_iconst (q := 46) C dX11_lowest_45 rfl ?_
            refine z_goto (q := 50) C dX11_lowest_46 (by decide) ?_
            subst hF
            exact z_iret C e1 e2 dX11_lowest_50
        · have hF := (if_pos c8).symm.trans hF
          refine z_iconst (q := 36) C dX11_lowest_35 rfl ?_
          refine z_goto (q := 40) C dX11_lowest_36 (by decide) ?_
          refine z_istore_n (q := 41) C dX11_lowest_40 (by decide) rfl rfl rfl ?_
          refine z_iload_n (q := 42) C dX11_lowest_41 0 rfl rfl rfl ?_
          refine z_if_eq (tgt := 49) (q := 45) C dX11_lowest_42 (by decide) rfl (fun c9 => ?_) (fun c9 => ?_)
          · have hF := (if_pos c9).symm.trans hF
            refine z_iconst (q := 50) C dX11_lowest_49 rfl ?_
            subst hF
            exact z_iret C e1 e2 dX11_lowest_50
          · have hF := (if_neg c9).symm.trans hF
            refine z_iconst (q := 46) C dX11_lowest_45 rfl ?_
            refine z_goto (q := 50) C dX11_lowest_46 (by decide) ?_
            subst hF
            exact z_iret C e1 e2 dX11_lowest_50
  · have hF := (if_pos c1).symm.trans hF
    refine z_iload_n (q := 7) C dX11_lowest_6 1 rfl rfl rfl ?_
    refine z_iconst (q := 8) C dX11_lowest_7 rfl ?_
    refine z_icmp_ne (tgt := 15) (q := 11) C dX11_lowest_8 (by decide) rfl (fun c2 => ?_) (fun c2 => ?_)
    · have hF := (if_neg c2).symm.trans hF
      refine z_iconst (q := 16) C dX11_lowest_15 rfl ?_
      refine z_goto (q := 40) C dX11_lowest_16 (by decide) ?_
      refine z_istore_n (q := 41) C dX11_lowest_40 (by decide) rfl rfl rfl ?_
      refine z_iload_n (q := 42) C dX11_lowest_41 0 rfl rfl rfl ?_
      refine z_if_eq (tgt := 49) (q := 45) C dX11_lowest_42 (by decide) rfl (fun c4 => ?_) (fun c4 => ?_)
      · have hF := (if_pos c4).symm.trans hF
        refine z_iconst (q := 50) C dX11_lowest_49 rfl ?_
        subst hF
        exact z_iret C e1 e2 dX11_lowest_50
      · have hF := (if_neg c4).symm.trans hF
        refine z_iconst (q := 46) C dX11_lowest_45 rfl ?_
        refine z_goto (q := 50) C dX11_lowest_46 (by decide) ?_
        subst hF
        exact z_iret C e1 e2 dX11_lowest_50
    · have hF := (if_pos c2).symm.trans hF
      refine z_iconst (q := 12) C dX11_lowest_11 rfl ?_
      refine z_goto (q := 40) C dX11_lowest_12 (by decide) ?_
      refine z_istore_n (q := 41) C dX11_lowest_40 (by decide) rfl rfl rfl ?_
      refine z_iload_n (q := 42) C dX11_lowest_41 0 rfl rfl rfl ?_
      refine z_if_eq (tgt := 49) (q := 45) C dX11_lowest_42 (by decide) rfl (fun c3 => ?_) (fun c3 => ?_)
      · have hF := (if_pos c3).symm.trans hF
        refine z_iconst (q := 50) C dX11_lowest_49 rfl ?_
        subst hF
        exact z_iret C e1 e2 dX11_lowest_50
      · have hF := (if_neg c3).symm.trans hF
        refine z_iconst (q := 46) C dX11_lowest_45 rfl ?_
        refine z_goto (q := 50) C dX11_lowest_46 (by decide) ?_
        subst hF
        exact z_iret C e1 e2 dX11_lowest_50
set_option maxRecDepth 20000 in
set_option maxHeartbeats 4000000 in
theorem M_fX11_lowest {l : Launch} {D : va_G} {cy : ClassId} {α : Nat → Nat} {n : Nat} {σ : zSg} {d : Nat} (hd : 1 ≤ d) {a0 : Int} {a1 : Int} {h : zH} {r : Int} (hF : fX11_lowest a0 a1 = r) : zMet l yX11_lowest cX11_lowest 3 (some .int) (zrm d) D cy α n σ [.int (zi a0), .int (zi a1)] h (some (.int (zi r))) h := by
  obtain ⟨d, rfl⟩ : ∃ e, d = e + 1 := ⟨d - 1, by omega⟩
  refine z_met (by decide +kernel) (Nat.le_of_ble_eq_true rfl) (fun κ k1 k2 k3 k4 k5 k6 k7 k8 k9 C => ?_)
  subst k1 k3 k4 k5 k6 k7
  exact J_fX11_lowest C k2 hd k8 k9 hF
set_option maxRecDepth 20000 in
set_option maxHeartbeats 4000000 in
theorem J_fX11_highest {κ : zT} (C : zC κ RX11 cX11_highest 2 (some .int)) {d : Nat} (hR : zR κ = zrm (d + 1)) (hd : 1 ≤ d + 1) {h : zH} {r : Int} (e1 : zrv κ = some (.int (zi r))) (e2 : zhf κ = h) {a0 : Int} {a1 : Int} (hF : fX11_highest a0 a1 = r) : Z κ h 0 [(0, .int (zi a0)), (1, .int (zi a1))] [] := by
  unfold fX11_highest at hF
  refine z_iload_n (q := 1) C dX11_highest_0 0 rfl rfl rfl ?_
  by_cases c1 : zw a0 = 100
  · have hF := (if_pos c1).symm.trans hF
    refine z_lookup (off := 69) (tgt := 70) C dX11_highest_1 (by decide) (by rw [c1]; decide) (by decide) ?_
    refine z_iload_n (q := 71) C dX11_highest_70 1 rfl rfl rfl ?_
    refine z_if_ne (tgt := 79) (q := 74) C dX11_highest_71 (by decide) rfl (fun c2 => ?_) (fun c2 => ?_)
    · have hF := (if_neg c2).symm.trans hF
      refine z_iload_n (q := 80) C dX11_highest_79 1 rfl rfl rfl ?_
      refine z_iconst (q := 81) C dX11_highest_80 rfl ?_
      refine z_icmp_ne (tgt := 89) (q := 84) C dX11_highest_81 (by decide) rfl (fun c3 => ?_) (fun c3 => ?_)
      · have hF := (if_neg c3).symm.trans hF
        refine z_bipush (q := 91) C dX11_highest_89 bp_9 rfl ?_
        subst hF
        exact z_iret C e1 e2 dX11_highest_91
      · have hF := (if_pos c3).symm.trans hF
        refine z_bipush (q := 86) C dX11_highest_84 bp_24 rfl ?_
        refine z_goto (q := 91) C dX11_highest_86 (by decide) ?_
        subst hF
        exact z_iret C e1 e2 dX11_highest_91
    · have hF := (if_pos c2).symm.trans hF
      refine z_bipush (q := 76) C dX11_highest_74 bp_23 rfl ?_
      refine z_goto (q := 91) C dX11_highest_76 (by decide) ?_
      subst hF
      exact z_iret C e1 e2 dX11_highest_91
  · have hF := (if_neg c1).symm.trans hF
    by_cases c4 : zw a0 = 112
    · have hF := (if_pos c4).symm.trans hF
      refine z_lookup (off := 47) (tgt := 48) C dX11_highest_1 (by decide) (by rw [c4]; decide) (by decide) ?_
      refine z_iload_n (q := 49) C dX11_highest_48 1 rfl rfl rfl ?_
      refine z_if_ne (tgt := 57) (q := 52) C dX11_highest_49 (by decide) rfl (fun c5 => ?_) (fun c5 => ?_)
      · have hF := (if_neg c5).symm.trans hF
        refine z_iload_n (q := 58) C dX11_highest_57 1 rfl rfl rfl ?_
        refine z_iconst (q := 59) C dX11_highest_58 rfl ?_
        refine z_icmp_ne (tgt := 67) (q := 62) C dX11_highest_59 (by decide) rfl (fun c6 => ?_) (fun c6 => ?_)
        · have hF := (if_neg c6).symm.trans hF
          refine z_bipush (q := 69) C dX11_highest_67 bp_9 rfl ?_
          subst hF
          exact z_iret C e1 e2 dX11_highest_69
        · have hF := (if_pos c6).symm.trans hF
          refine z_bipush (q := 64) C dX11_highest_62 bp_24 rfl ?_
          refine z_goto (q := 69) C dX11_highest_64 (by decide) ?_
          subst hF
          exact z_iret C e1 e2 dX11_highest_69
      · have hF := (if_pos c5).symm.trans hF
        refine z_bipush (q := 54) C dX11_highest_52 bp_7 rfl ?_
        refine z_goto (q := 69) C dX11_highest_54 (by decide) ?_
        subst hF
        exact z_iret C e1 e2 dX11_highest_69
    · have hF := (if_neg c4).symm.trans hF
      by_cases c7 : zw a0 = 115
      · have hF := (if_pos c7).symm.trans hF
        refine z_lookup (off := 35) (tgt := 36) C dX11_highest_1 (by decide) (by rw [c7]; decide) (by decide) ?_
        refine z_iload_n (q := 37) C dX11_highest_36 1 rfl rfl rfl ?_
        refine z_if_ne (tgt := 45) (q := 40) C dX11_highest_37 (by decide) rfl (fun c8 => ?_) (fun c8 => ?_)
        · have hF := (if_neg c8).symm.trans hF
          refine z_bipush (q := 47) C dX11_highest_45 bp_24 rfl ?_
          subst hF
          exact z_iret C e1 e2 dX11_highest_47
        · have hF := (if_pos c8).symm.trans hF
          refine z_bipush (q := 42) C dX11_highest_40 bp_23 rfl ?_
          refine z_goto (q := 47) C dX11_highest_42 (by decide) ?_
          subst hF
          exact z_iret C e1 e2 dX11_highest_47
      · have hF := (if_neg c7).symm.trans hF
        refine z_lookup (off := 91) (tgt := 92) C dX11_highest_1 (by decide) (by show Op.lookupswitch.offset [(100, 69), (112, 47), (115, 35)] _ _ = _; rw [z_osw c1, z_osw c4, z_osw c7]; rfl) (by decide) ?_
        refine z_iload_n (q := 93) C dX11_highest_92 1 rfl rfl rfl ?_
        refine z_if_ne (tgt := 100) (q := 96) C dX11_highest_93 (by decide) rfl (fun c9 => ?_) (fun c9 => ?_)
        · have hF := (if_neg c9).symm.trans hF
          refine z_bipush (q := 102) C dX11_highest_100 bp_8 rfl ?_
          subst hF
          exact z_iret C e1 e2 dX11_highest_102
        · have hF := (if_pos c9).symm.trans hF
          refine z_iconst (q := 97) C dX11_highest_96 rfl ?_
          refine z_goto (q := 102) C dX11_highest_97 (by decide) ?_
          subst hF
          exact z_iret C e1 e2 dX11_highest_102
set_option maxRecDepth 20000 in
set_option maxHeartbeats 4000000 in
theorem M_fX11_highest {l : Launch} {D : va_G} {cy : ClassId} {α : Nat → Nat} {n : Nat} {σ : zSg} {d : Nat} (hd : 1 ≤ d) {a0 : Int} {a1 : Int} {h : zH} {r : Int} (hF : fX11_highest a0 a1 = r) : zMet l yX11_highest cX11_highest 2 (some .int) (zrm d) D cy α n σ [.int (zi a0), .int (zi a1)] h (some (.int (zi r))) h := by
  obtain ⟨d, rfl⟩ : ∃ e, d = e + 1 := ⟨d - 1, by omega⟩
  refine z_met (by decide +kernel) (Nat.le_of_ble_eq_true rfl) (fun κ k1 k2 k3 k4 k5 k6 k7 k8 k9 C => ?_)
  subst k1 k3 k4 k5 k6 k7
  exact J_fX11_highest C k2 hd k8 k9 hF
set_option maxRecDepth 20000 in
set_option maxHeartbeats 4000000 in
theorem J_fX11_isDigit {κ : zT} (C : zC κ RX11 cX11_isDigit 1 (some .boolean)) {d : Nat} (hR : zR κ = zrm (d + 1)) (hd : 1 ≤ d + 1) {h : zH} {r : Int} (e1 : zrv κ = some (.int (zi r))) (e2 : zhf κ = h) {a0 : Int} (hF : fX11_isDigit a0 = r) : Z κ h 0 [(0, .int (zi a0))] [] := by
  unfold fX11_isDigit at hF
  refine z_iload_n (q := 1) C dX11_isDigit_0 0 rfl rfl rfl ?_
  refine z_bipush (q := 3) C dX11_isDigit_1 bp_48 rfl ?_
  refine z_icmp_lt (tgt := 16) (q := 6) C dX11_isDigit_3 (by decide) rfl (fun c1 => ?_) (fun c1 => ?_)
  · have hF := (if_pos c1).symm.trans hF
    refine z_iconst (q := 17) C dX11_isDigit_16 rfl ?_
    subst hF
    exact z_zret C (zb01 (Or.inl rfl)) e1 e2 dX11_isDigit_17
  · have hF := (if_neg c1).symm.trans hF
    refine z_iload_n (q := 7) C dX11_isDigit_6 0 rfl rfl rfl ?_
    refine z_bipush (q := 9) C dX11_isDigit_7 bp_57 rfl ?_
    refine z_icmp_gt (tgt := 16) (q := 12) C dX11_isDigit_9 (by decide) rfl (fun c2 => ?_) (fun c2 => ?_)
    · have hF := (if_pos c2).symm.trans hF
      refine z_iconst (q := 17) C dX11_isDigit_16 rfl ?_
      subst hF
      exact z_zret C (zb01 (Or.inl rfl)) e1 e2 dX11_isDigit_17
    · have hF := (if_neg c2).symm.trans hF
      refine z_iconst (q := 13) C dX11_isDigit_12 rfl ?_
      refine z_goto (q := 17) C dX11_isDigit_13 (by decide) ?_
      subst hF
      exact z_zret C (zb01 (Or.inr rfl)) e1 e2 dX11_isDigit_17
set_option maxRecDepth 20000 in
set_option maxHeartbeats 4000000 in
theorem M_fX11_isDigit {l : Launch} {D : va_G} {cy : ClassId} {α : Nat → Nat} {n : Nat} {σ : zSg} {d : Nat} (hd : 1 ≤ d) {a0 : Int} {h : zH} {r : Int} (hF : fX11_isDigit a0 = r) : zMet l yX11_isDigit cX11_isDigit 1 (some .boolean) (zrm d) D cy α n σ [.int (zi a0)] h (some (.int (zi r))) h := by
  obtain ⟨d, rfl⟩ : ∃ e, d = e + 1 := ⟨d - 1, by omega⟩
  refine z_met (by decide +kernel) (Nat.le_of_ble_eq_true rfl) (fun κ k1 k2 k3 k4 k5 k6 k7 k8 k9 C => ?_)
  subst k1 k3 k4 k5 k6 k7
  exact J_fX11_isDigit C k2 hd k8 k9 hF
theorem B_fX11_isDigit {a0 : Int} : fX11_isDigit a0 = 0 ∨ fX11_isDigit a0 = 1 := by
  unfold fX11_isDigit
  try simp only [zlet, zlet2]
  repeat' (first | exact Or.inl rfl | exact Or.inr rfl | apply zite01)
set_option maxRecDepth 20000 in
set_option maxHeartbeats 4000000 in
theorem J_fX11_bad {κ : zT} (C : zC κ RX11 cX11_bad 1 none) {d : Nat} (hR : zR κ = zrm (d + 1)) (hd : 1 ≤ d + 1) {r : zH} (e1 : zrv κ = none) (e2 : zhf κ = r) {h : zH} (hF : fX11_bad h = r) : Z κ h 0 [(0, .ref (zα κ 14))] [] := by
  unfold fX11_bad at hF
  refine z_aload_n (q := 1) C dX11_bad_0 0 rfl rfl rfl ?_
  refine z_aload_n (q := 2) C dX11_bad_1 0 rfl rfl rfl ?_
  refine z_getf (q := 5) C clX11 (zon C zo_14) kd_14 (k := 4) (by decide) q_1106 rfl (zfv_i kd_14 rfl) dX11_bad_2 rfl ?_
  refine z_iconst (q := 6) C dX11_bad_5 rfl ?_
  refine z_icmp_ne (tgt := 16) (q := 9) C dX11_bad_6 (by decide) rfl (fun c1 => ?_) (fun c1 => ?_)
  · have hF := (if_neg c1).symm.trans hF
    refine z_aload_n (q := 17) C dX11_bad_16 0 rfl rfl rfl ?_
    refine z_getf (q := 20) C clX11 (zon C zo_14) kd_14 (k := 4) (by decide) q_1106 rfl (zfv_i kd_14 rfl) dX11_bad_17 rfl ?_
    obtain ⟨h3, eh3, hF⟩ := zlet_e hF
    refine z_putf (q := 23) C clX11 (zon C zo_14) kd_14 (k := 4) (x := h 14 4) (by decide) q_1106 rfl rfl rfl rfl (((zfv_i kd_14 rfl)).trans (by rw [if_pos rfl])) dX11_bad_20 rfl eh3 ?_
    subst hF
    exact z_vret C e1 e2 dX11_bad_23
  · have hF := (if_pos c1).symm.trans hF
    refine z_aload_n (q := 10) C dX11_bad_9 0 rfl rfl rfl ?_
    refine z_getf (q := 13) C clX11 (zon C zo_14) kd_14 (k := 3) (by decide) q_1105 rfl (zfv_i kd_14 rfl) dX11_bad_10 rfl ?_
    refine z_goto (q := 20) C dX11_bad_13 (by decide) ?_
    obtain ⟨h2, eh2, hF⟩ := zlet_e hF
    refine z_putf (q := 23) C clX11 (zon C zo_14) kd_14 (k := 4) (x := h 14 3) (by decide) q_1106 rfl rfl rfl rfl (((zfv_i kd_14 rfl)).trans (by rw [if_pos rfl])) dX11_bad_20 rfl eh2 ?_
    subst hF
    exact z_vret C e1 e2 dX11_bad_23
set_option maxRecDepth 20000 in
set_option maxHeartbeats 4000000 in
theorem M_fX11_bad {l : Launch} {D : va_G} {cy : ClassId} {α : Nat → Nat} {n : Nat} {σ : zSg} {d : Nat} (hd : 1 ≤ d) {h : zH} {g : zH} (hF : fX11_bad h = g) : zMet l yX11_bad cX11_bad 1 none (zrm d) D cy α n σ [.ref (α 14)] h (none) g := by
  obtain ⟨d, rfl⟩ : ∃ e, d = e + 1 := ⟨d - 1, by omega⟩
  refine z_met (by decide +kernel) (Nat.le_of_ble_eq_true rfl) (fun κ k1 k2 k3 k4 k5 k6 k7 k8 k9 C => ?_)
  subst k1 k3 k4 k5 k6 k7
  exact J_fX11_bad C k2 hd k8 k9 hF
set_option maxRecDepth 20000 in
set_option maxHeartbeats 4000000 in
theorem J_fX11_in {κ : zT} (C : zC κ RX11 cX11_in 3 (some .boolean)) {d : Nat} (hR : zR κ = zrm (d + 1)) (hd : 1 ≤ d + 1) {h : zH} {r : Int} (e1 : zrv κ = some (.int (zi r))) (e2 : zhf κ = h) {a0 : Int} {a1 : Int} {a2 : Int} (hF : fX11_in a0 a1 a2 = r) : Z κ h 0 [(0, .int (zi a0)), (1, .int (zi a1)), (2, .int (zi a2))] [] := by
  unfold fX11_in at hF
  refine z_iload_n (q := 1) C dX11_in_0 0 rfl rfl rfl ?_
  refine z_iload_n (q := 2) C dX11_in_1 1 rfl rfl rfl ?_
  refine z_icmp_lt (tgt := 14) (q := 5) C dX11_in_2 (by decide) rfl (fun c1 => ?_) (fun c1 => ?_)
  · have hF := (if_pos c1).symm.trans hF
    refine z_iconst (q := 15) C dX11_in_14 rfl ?_
    subst hF
    exact z_zret C (zb01 (Or.inl rfl)) e1 e2 dX11_in_15
  · have hF := (if_neg c1).symm.trans hF
    refine z_iload_n (q := 6) C dX11_in_5 0 rfl rfl rfl ?_
    refine z_iload_n (q := 7) C dX11_in_6 2 rfl rfl rfl ?_
    refine z_icmp_gt (tgt := 14) (q := 10) C dX11_in_7 (by decide) rfl (fun c2 => ?_) (fun c2 => ?_)
    · have hF := (if_pos c2).symm.trans hF
      refine z_iconst (q := 15) C dX11_in_14 rfl ?_
      subst hF
      exact z_zret C (zb01 (Or.inl rfl)) e1 e2 dX11_in_15
    · have hF := (if_neg c2).symm.trans hF
      refine z_iconst (q := 11) C dX11_in_10 rfl ?_
      refine z_goto (q := 15) C dX11_in_11 (by decide) ?_
      subst hF
      exact z_zret C (zb01 (Or.inr rfl)) e1 e2 dX11_in_15
set_option maxRecDepth 20000 in
set_option maxHeartbeats 4000000 in
theorem M_fX11_in {l : Launch} {D : va_G} {cy : ClassId} {α : Nat → Nat} {n : Nat} {σ : zSg} {d : Nat} (hd : 1 ≤ d) {a0 : Int} {a1 : Int} {a2 : Int} {h : zH} {r : Int} (hF : fX11_in a0 a1 a2 = r) : zMet l yX11_in cX11_in 3 (some .boolean) (zrm d) D cy α n σ [.int (zi a0), .int (zi a1), .int (zi a2)] h (some (.int (zi r))) h := by
  obtain ⟨d, rfl⟩ : ∃ e, d = e + 1 := ⟨d - 1, by omega⟩
  refine z_met (by decide +kernel) (Nat.le_of_ble_eq_true rfl) (fun κ k1 k2 k3 k4 k5 k6 k7 k8 k9 C => ?_)
  subst k1 k3 k4 k5 k6 k7
  exact J_fX11_in C k2 hd k8 k9 hF
theorem B_fX11_in {a0 : Int} {a1 : Int} {a2 : Int} : fX11_in a0 a1 a2 = 0 ∨ fX11_in a0 a1 a2 = 1 := by
  unfold fX11_in
  try simp only [zlet, zlet2]
  repeat' (first | exact Or.inl rfl | exact Or.inr rfl | apply zite01)
set_option maxRecDepth 20000 in
set_option maxHeartbeats 4000000 in
theorem J_fX11_number_c67 {κ : zT} (C : zC κ RX11 cX11_number 4 (some .int)) {d : Nat} (hR : zR κ = zrm (d + 1)) (hd : 3 ≤ d + 1) {N : Nat} {r : Int × zH} (e1 : zrv κ = some (.int (zi r.1))) (e2 : zhf κ = r.2) (l1 : Int) (l2 : Int) (l3 : Int) (h : zH) (hF : fX11_number_c67 N l1 l2 l3 h = some r) : Z κ h 67 [(0, .ref (zα κ 14)), (1, .int (zi l1)), (2, .int (zi l2)), (3, .int (zi l3))] [] := by
  unfold fX11_number_c67 at hF
  refine z_aload_n (q := 68) C dX11_number_67 0 rfl rfl rfl ?_
  obtain ⟨v1, ev1, hF⟩ := zb_e hF
  refine z_callV (q := 71) (o := 14) (av := []) (rest := []) (stk2 := [.int (zi v1)]) C hR clX11 (zon C zo_14) kd_14 (M_fX11_here (zlv hd rfl) ev1) mY_X11_here q_1283 (Nat.le_of_ble_eq_true rfl) dX11_number_68 rfl rfl rfl ?_
  refine z_callS (q := 74) (av := [.int (zi v1)]) (rest := []) (stk2 := [.int (zi (fX11_isDigit v1))]) C hR (M_fX11_isDigit (zlv hd rfl) rfl) mY_X11_isDigit q_1307 (Nat.le_of_ble_eq_true rfl) dX11_number_71 rfl rfl rfl ?_
  refine z_if_eq (tgt := 84) (q := 77) C dX11_number_74 (by decide) rfl (fun c2 => ?_) (fun c2 => ?_)
  · have hF := (if_pos c2).symm.trans hF
    refine z_iload_n (q := 85) C dX11_number_84 3 rfl rfl rfl ?_
    refine z_iload_n (q := 86) C dX11_number_85 1 rfl rfl rfl ?_
    refine z_iload_n (q := 87) C dX11_number_86 2 rfl rfl rfl ?_
    refine z_callS (q := 90) (av := [.int (zi l3), .int (zi l1), .int (zi l2)]) (rest := []) (stk2 := [.int (zi (fX11_in l3 l1 l2))]) C hR (M_fX11_in (zlv hd rfl) rfl) mY_X11_in q_1314 (Nat.le_of_ble_eq_true rfl) dX11_number_87 rfl rfl rfl ?_
    refine z_if_ne (tgt := 107) (q := 93) C dX11_number_90 (by decide) rfl (fun c3 => ?_) (fun c3 => ?_)
    · have hF := (if_neg c3).symm.trans hF
      refine z_iload_n (q := 108) C dX11_number_107 3 rfl rfl rfl ?_
      have hF := Option.some.inj hF
      subst hF
      exact z_iret C e1 e2 dX11_number_108
    · have hF := (if_pos c3).symm.trans hF
      refine z_aload_n (q := 94) C dX11_number_93 0 rfl rfl rfl ?_
      refine z_dup (q := 95) C dX11_number_94 rfl rfl ?_
      refine z_getf (q := 98) C clX11 (zon C zo_14) kd_14 (k := 3) (by decide) q_1105 rfl (zfv_i kd_14 rfl) dX11_number_95 rfl ?_
      refine z_iconst (q := 99) C dX11_number_98 rfl ?_
      refine z_isub (q := 100) C dX11_number_99 rfl ?_
      obtain ⟨h4, eh4, hF⟩ := zlet_e hF
      refine z_putf (q := 103) C clX11 (zon C zo_14) kd_14 (k := 3) (x := (h 14 3) - 1) (by decide) q_1105 rfl rfl rfl rfl (((zfv_i kd_14 rfl)).trans (by rw [if_pos rfl])) dX11_number_100 rfl eh4 ?_
      refine z_aload_n (q := 104) C dX11_number_103 0 rfl rfl rfl ?_
      obtain ⟨h5, eh5, hF⟩ := zlet_e hF
      refine z_callV (q := 107) (o := 14) (av := []) (rest := []) (stk2 := []) C hR clX11 (zon C zo_14) kd_14 (M_fX11_bad (zlv hd rfl) eh5.symm) mY_X11_bad q_1310 (Nat.le_of_ble_eq_true rfl) dX11_number_104 rfl rfl rfl ?_
      refine z_iload_n (q := 108) C dX11_number_107 3 rfl rfl rfl ?_
      have hF := Option.some.inj hF
      subst hF
      exact z_iret C e1 e2 dX11_number_108
  · have hF := (if_neg c2).symm.trans hF
    refine z_aload_n (q := 78) C dX11_number_77 0 rfl rfl rfl ?_
    obtain ⟨h6, eh6, hF⟩ := zlet_e hF
    refine z_callV (q := 81) (o := 14) (av := []) (rest := []) (stk2 := []) C hR clX11 (zon C zo_14) kd_14 (M_fX11_bad (zlv hd rfl) eh6.symm) mY_X11_bad q_1310 (Nat.le_of_ble_eq_true rfl) dX11_number_78 rfl rfl rfl ?_
    refine z_goto (q := 107) C dX11_number_81 (by decide) ?_
    refine z_iload_n (q := 108) C dX11_number_107 3 rfl rfl rfl ?_
    have hF := Option.some.inj hF
    subst hF
    exact z_iret C e1 e2 dX11_number_108
set_option maxRecDepth 20000 in
set_option maxHeartbeats 4000000 in
theorem J_fX11_number {κ : zT} (C : zC κ RX11 cX11_number 4 (some .int)) {d : Nat} (hR : zR κ = zrm (d + 1)) (hd : 3 ≤ d + 1) {N : Nat} {r : Int × zH} (e1 : zrv κ = some (.int (zi r.1))) (e2 : zhf κ = r.2) {a1 : Int} {a2 : Int} {h : zH} (hF : fX11_number N a1 a2 h = some r) : Z κ h 0 [(0, .ref (zα κ 14)), (1, .int (zi a1)), (2, .int (zi a2))] [] := by
  unfold fX11_number at hF
  refine z_aload_n (q := 1) C dX11_number_0 0 rfl rfl rfl ?_
  obtain ⟨v2, h1, ev2, hF⟩ := z2_e hF
  refine z_callV (q := 4) (o := 14) (av := []) (rest := []) (stk2 := [.int (zi v2)]) C hR clX11 (zon C zo_14) kd_14 (M_fX11_look (zlv hd rfl) ev2) mY_X11_look q_1279 (Nat.le_of_ble_eq_true rfl) dX11_number_1 rfl rfl rfl ?_
  refine z_callS (q := 7) (av := [.int (zi v2)]) (rest := []) (stk2 := [.int (zi (fX11_isDigit v2))]) C hR (M_fX11_isDigit (zlv hd rfl) rfl) mY_X11_isDigit q_1307 (Nat.le_of_ble_eq_true rfl) dX11_number_4 rfl rfl rfl ?_
  refine z_if_ne (tgt := 16) (q := 10) C dX11_number_7 (by decide) rfl (fun c3 => ?_) (fun c3 => ?_)
  · have hF := (if_neg c3).symm.trans hF
    refine z_aload_n (q := 17) C dX11_number_16 0 rfl rfl rfl ?_
    obtain ⟨v5, ev5, hF⟩ := zb_e hF
    refine z_callV (q := 20) (o := 14) (av := []) (rest := []) (stk2 := [.int (zi v5)]) C hR clX11 (zon C zo_14) kd_14 (M_fX11_here (zlv hd rfl) ev5) mY_X11_here q_1283 (Nat.le_of_ble_eq_true rfl) dX11_number_17 rfl rfl rfl ?_
    refine z_bipush (q := 22) C dX11_number_20 bp_48 rfl ?_
    refine z_isub (q := 23) C dX11_number_22 rfl ?_
    refine z_istore_n (q := 24) C dX11_number_23 (by decide) rfl rfl rfl ?_
    refine z_aload_n (q := 25) C dX11_number_24 1 rfl rfl rfl ?_
    refine z_dup (q := 26) C dX11_number_25 rfl rfl ?_
    refine z_getf (q := 29) C clX11 (zon C zo_14) kd_14 (k := 3) (by decide) q_1105 rfl (zfv_i kd_14 rfl) dX11_number_26 rfl ?_
    refine z_iconst (q := 30) C dX11_number_29 rfl ?_
    refine z_iadd (q := 31) C dX11_number_30 rfl ?_
    obtain ⟨h6, eh6, hF⟩ := zlet_e hF
    refine z_putf (q := 34) C clX11 (zon C zo_14) kd_14 (k := 3) (x := (h1 14 3) + 1) (by decide) q_1105 rfl rfl rfl rfl (((zfv_i kd_14 rfl)).trans (by rw [if_pos rfl])) dX11_number_31 rfl eh6 ?_
    refine z_aload_n (q := 35) C dX11_number_34 1 rfl rfl rfl ?_
    obtain ⟨v7, ev7, hF⟩ := zb_e hF
    refine z_callV (q := 38) (o := 14) (av := []) (rest := []) (stk2 := [.int (zi v7)]) C hR clX11 (zon C zo_14) kd_14 (M_fX11_here (zlv hd rfl) ev7) mY_X11_here q_1283 (Nat.le_of_ble_eq_true rfl) dX11_number_35 rfl rfl rfl ?_
    refine z_callS (q := 41) (av := [.int (zi v7)]) (rest := []) (stk2 := [.int (zi (fX11_isDigit v7))]) C hR (M_fX11_isDigit (zlv hd rfl) rfl) mY_X11_isDigit q_1307 (Nat.le_of_ble_eq_true rfl) dX11_number_38 rfl rfl rfl ?_
    refine z_if_eq (tgt := 67) (q := 44) C dX11_number_41 (by decide) rfl (fun c8 => ?_) (fun c8 => ?_)
    · have hF := (if_pos c8).symm.trans hF
      exact z_sub (J_fX11_number_c67 C hR hd e1 e2 _ _ _ _ hF) [1, 2, 3, 0] rfl
    · have hF := (if_neg c8).symm.trans hF
      refine z_bipush (q := 46) C dX11_number_44 bp_10 rfl ?_
      refine z_iload_n (q := 47) C dX11_number_46 0 rfl rfl rfl ?_
      refine z_imul (q := 48) C dX11_number_47 rfl ?_
      refine z_aload_n (q := 49) C dX11_number_48 1 rfl rfl rfl ?_
      obtain ⟨v9, ev9, hF⟩ := zb_e hF
      refine z_callV (q := 52) (o := 14) (av := []) (rest := [.int (zi (10 * (v5 - 48)))]) (stk2 := [.int (zi v9), .int (zi (10 * (v5 - 48)))]) C hR clX11 (zon C zo_14) kd_14 (M_fX11_here (zlv hd rfl) ev9) mY_X11_here q_1283 (Nat.le_of_ble_eq_true rfl) dX11_number_49 rfl rfl rfl ?_
      refine z_iadd (q := 53) C dX11_number_52 rfl ?_
      refine z_bipush (q := 55) C dX11_number_53 bp_48 rfl ?_
      refine z_isub (q := 56) C dX11_number_55 rfl ?_
      obtain ⟨v10, ev10, hF⟩ := zlet_e hF
      refine z_istoreE_n (q := 57) C ev10 dX11_number_56 (by decide) rfl rfl rfl ?_
      refine z_aload_n (q := 58) C dX11_number_57 1 rfl rfl rfl ?_
      refine z_dup (q := 59) C dX11_number_58 rfl rfl ?_
      refine z_getf (q := 62) C clX11 (zon C zo_14) kd_14 (k := 3) (by decide) q_1105 rfl (zfv_i kd_14 rfl) dX11_number_59 rfl ?_
      refine z_iconst (q := 63) C dX11_number_62 rfl ?_
      refine z_iadd (q := 64) C dX11_number_63 rfl ?_
      obtain ⟨h11, eh11, hF⟩ := zlet_e hF
      refine z_putf (q := 67) C clX11 (zon C zo_14) kd_14 (k := 3) (x := (h6 14 3) + 1) (by decide) q_1105 rfl rfl rfl rfl (((zfv_i kd_14 rfl)).trans (by rw [if_pos rfl])) dX11_number_64 rfl eh11 ?_
      exact z_sub (J_fX11_number_c67 C hR hd e1 e2 _ _ _ _ hF) [1, 2, 3, 0] rfl
  · have hF := (if_pos c3).symm.trans hF
    refine z_aload_n (q := 11) C dX11_number_10 0 rfl rfl rfl ?_
    obtain ⟨h4, eh4, hF⟩ := zlet_e hF
    refine z_callV (q := 14) (o := 14) (av := []) (rest := []) (stk2 := []) C hR clX11 (zon C zo_14) kd_14 (M_fX11_bad (zlv hd rfl) eh4.symm) mY_X11_bad q_1310 (Nat.le_of_ble_eq_true rfl) dX11_number_11 rfl rfl rfl ?_
    refine z_iload_n (q := 15) C dX11_number_14 1 rfl rfl rfl ?_
    have hF := Option.some.inj hF
    subst hF
    exact z_iret C e1 e2 dX11_number_15
set_option maxRecDepth 20000 in
set_option maxHeartbeats 4000000 in
theorem M_fX11_number {l : Launch} {D : va_G} {cy : ClassId} {α : Nat → Nat} {n : Nat} {σ : zSg} {d : Nat} (hd : 3 ≤ d) {N : Nat} {a1 : Int} {a2 : Int} {h : zH} {r : Int} {g : zH} (hF : fX11_number N a1 a2 h = some (r, g)) : zMet l yX11_number cX11_number 4 (some .int) (zrm d) D cy α n σ [.ref (α 14), .int (zi a1), .int (zi a2)] h (some (.int (zi r))) g := by
  obtain ⟨d, rfl⟩ : ∃ e, d = e + 1 := ⟨d - 1, by omega⟩
  refine z_met (by decide +kernel) (Nat.le_of_ble_eq_true rfl) (fun κ k1 k2 k3 k4 k5 k6 k7 k8 k9 C => ?_)
  subst k1 k3 k4 k5 k6 k7
  exact J_fX11_number C k2 hd k8 k9 hF
set_option maxRecDepth 20000 in
set_option maxHeartbeats 4000000 in
theorem J_fX11_items_c41b {κ : zT} (C : zC κ RX11 cX11_items 7 none) {d : Nat} (hR : zR κ = zrm (d + 1)) (hd : 4 ≤ d + 1) {N : Nat} {o2 : Nat} (ho2 : o2 < zN) (hd2 : zkd o2 = 100) {r : zH} (e1 : zrv κ = none) (e2 : zhf κ = r) {K41 : Int → Int → Int → Int → zH → Option zH} (hK41 : ∀ (l1 : Int) (l3 : Int) (l5 : Int) (l6 : Int) (h : zH), K41 l1 l3 l5 l6 h = some r → Z κ h 41 [(0, .ref (zα κ 14)), (1, .int (zi l1)), (2, .ref (zα κ o2)), (3, .int (zi l3)), (5, .int (zi l5)), (6, .int (zi l6))] []) (l1 : Int) (l3 : Int) (l5 : Int) (l6 : Int) (h : zH) (hF : fX11_items_c41b N o2 K41 l1 l3 l5 l6 h = some r) : Z κ h 41 [(0, .ref (zα κ 14)), (1, .int (zi l1)), (2, .ref (zα κ o2)), (3, .int (zi l3)), (5, .int (zi l5)), (6, .int (zi l6))] [] := by
  unfold fX11_items_c41b at hF
  refine z_aload_n (q := 42) C dX11_items_41 0 rfl rfl rfl ?_
  refine z_getf (q := 45) C clX11 (zon C zo_14) kd_14 (k := 4) (by decide) q_1106 rfl (zfv_i kd_14 rfl) dX11_items_42 rfl ?_
  refine z_iconst (q := 46) C dX11_items_45 rfl ?_
  refine z_icmp_ne (tgt := 131) (q := 49) C dX11_items_46 (by decide) rfl (fun c1 => ?_) (fun c1 => ?_)
  · have hF := (if_neg c1).symm.trans hF
    have hF := Option.some.inj hF
    subst hF
    exact z_vret C e1 e2 dX11_items_131
  · have hF := (if_pos c1).symm.trans hF
    refine z_iload (q := 51) C dX11_items_49 5 rfl rfl ?_
    refine z_iconst (q := 52) C dX11_items_51 rfl ?_
    refine z_icmp_eq (tgt := 131) (q := 55) C dX11_items_52 (by decide) rfl (fun c2 => ?_) (fun c2 => ?_)
    · have hF := (if_pos c2).symm.trans hF
      have hF := Option.some.inj hF
      subst hF
      exact z_vret C e1 e2 dX11_items_131
    · have hF := (if_neg c2).symm.trans hF
      refine z_iload (q := 57) C dX11_items_55 4 rfl rfl ?_
      refine z_iload (q := 59) C dX11_items_57 5 rfl rfl ?_
      refine z_callS (q := 62) (av := [.int (zi l5), .int (zi l6)]) (rest := []) (stk2 := [.int (zi (fX11_has l5 l6))]) C hR (M_fX11_has (zlv hd rfl) rfl) mY_X11_has q_1294 (Nat.le_of_ble_eq_true rfl) dX11_items_59 rfl rfl rfl ?_
      refine z_if_ne (tgt := 131) (q := 65) C dX11_items_62 (by decide) rfl (fun c3 => ?_) (fun c3 => ?_)
      · have hF := (if_neg c3).symm.trans hF
        have hF := Option.some.inj hF
        subst hF
        exact z_vret C e1 e2 dX11_items_131
      · have hF := (if_pos c3).symm.trans hF
        refine z_iload (q := 67) C dX11_items_65 4 rfl rfl ?_
        refine z_iconst (q := 68) C dX11_items_67 rfl ?_
        refine z_iload (q := 70) C dX11_items_68 5 rfl rfl ?_
        refine z_ishl (q := 71) C dX11_items_70 rfl ?_
        refine z_ior (q := 72) C dX11_items_71 rfl ?_
        obtain ⟨v4, ev4, hF⟩ := zlet_e hF
        refine z_istoreE (q := 74) C ev4 dX11_items_72 (by decide) rfl rfl ?_
        refine z_aload_n (q := 75) C dX11_items_74 1 rfl rfl rfl ?_
        refine z_dup (q := 76) C dX11_items_75 rfl rfl ?_
        refine z_getf (q := 79) C clX11 (zon C zo_14) kd_14 (k := 3) (by decide) q_1105 rfl (zfv_i kd_14 rfl) dX11_items_76 rfl ?_
        refine z_iconst (q := 80) C dX11_items_79 rfl ?_
        refine z_iadd (q := 81) C dX11_items_80 rfl ?_
        obtain ⟨h5, eh5, hF⟩ := zlet_e hF
        refine z_putf (q := 84) C clX11 (zon C zo_14) kd_14 (k := 3) (x := (h 14 3) + 1) (by decide) q_1105 rfl rfl rfl rfl (((zfv_i kd_14 rfl)).trans (by rw [if_pos rfl])) dX11_items_81 rfl eh5 ?_
        refine z_aload_n (q := 85) C dX11_items_84 3 rfl rfl rfl ?_
        refine z_iload_n (q := 86) C dX11_items_85 4 rfl rfl rfl ?_
        refine z_iload (q := 88) C dX11_items_86 5 rfl rfl ?_
        refine z_iadd (q := 89) C dX11_items_88 rfl ?_
        refine z_aload_n (q := 90) C dX11_items_89 1 rfl rfl rfl ?_
        refine z_iload_n (q := 91) C dX11_items_90 2 rfl rfl rfl ?_
        refine z_iload (q := 93) C dX11_items_91 5 rfl rfl ?_
        refine z_callS (q := 96) (av := [.int (zi l1), .int (zi l6)]) (rest := [.ref (zα κ 14), .int (zi (l3 + l6)), .ref (zα κ o2)]) (stk2 := [.int (zi (fX11_lowest l1 l6)), .ref (zα κ 14), .int (zi (l3 + l6)), .ref (zα κ o2)]) C hR (M_fX11_lowest (zlv hd rfl) rfl) mY_X11_lowest q_1297 (Nat.le_of_ble_eq_true rfl) dX11_items_93 rfl rfl rfl ?_
        refine z_iload_n (q := 97) C dX11_items_96 2 rfl rfl rfl ?_
        refine z_iload (q := 99) C dX11_items_97 5 rfl rfl ?_
        refine z_callS (q := 102) (av := [.int (zi l1), .int (zi l6)]) (rest := [.int (zi (fX11_lowest l1 l6)), .ref (zα κ 14), .int (zi (l3 + l6)), .ref (zα κ o2)]) (stk2 := [.int (zi (fX11_highest l1 l6)), .int (zi (fX11_lowest l1 l6)), .ref (zα κ 14), .int (zi (l3 + l6)), .ref (zα κ o2)]) C hR (M_fX11_highest (zlv hd rfl) rfl) mY_X11_highest q_1300 (Nat.le_of_ble_eq_true rfl) dX11_items_99 rfl rfl rfl ?_
        obtain ⟨v7, h6, ev7, hF⟩ := z2_e hF
        refine z_callV (q := 105) (o := 14) (av := [.int (zi (fX11_lowest l1 l6)), .int (zi (fX11_highest l1 l6))]) (rest := [.int (zi (l3 + l6)), .ref (zα κ o2)]) (stk2 := [.int (zi v7), .int (zi (l3 + l6)), .ref (zα κ o2)]) C hR clX11 (zon C zo_14) kd_14 (M_fX11_number (zlv hd rfl) ev7) mY_X11_number q_1303 (Nat.le_of_ble_eq_true rfl) dX11_items_102 rfl rfl rfl ?_
        obtain ⟨g8, hF⟩ := zif_none hF
        obtain ⟨h9, eh9, hF⟩ := zlet_e hF
        refine z_iast (q := 106) C (zon C ho2) hd2 g8.1 g8.2 dX11_items_105 rfl eh9 ?_
        refine z_aload_n (q := 107) C dX11_items_106 1 rfl rfl rfl ?_
        refine z_getf (q := 110) C clX11 (zon C zo_14) kd_14 (k := 4) (by decide) q_1106 rfl (zfv_i kd_14 rfl) dX11_items_107 rfl ?_
        refine z_iconst (q := 111) C dX11_items_110 rfl ?_
        refine z_icmp_ne (tgt := 125) (q := 114) C dX11_items_111 (by decide) rfl (fun c10 => ?_) (fun c10 => ?_)
        · have hF := (if_neg c10).symm.trans hF
          refine z_iconst (q := 126) C dX11_items_125 rfl ?_
          refine z_istore (q := 128) C dX11_items_126 (by decide) rfl rfl ?_
          refine z_goto (q := 41) C dX11_items_128 (by decide) ?_
          exact z_sub (hK41 _ _ _ _ _ hF) [2, 3, 4, 5, 1, 0] rfl
        · have hF := (if_pos c10).symm.trans hF
          refine z_iload_n (q := 115) C dX11_items_114 2 rfl rfl rfl ?_
          refine z_aload_n (q := 116) C dX11_items_115 1 rfl rfl rfl ?_
          obtain ⟨v12, h11, ev12, hF⟩ := z2_e hF
          refine z_callV (q := 119) (o := 14) (av := []) (rest := [.int (zi l1)]) (stk2 := [.int (zi v12), .int (zi l1)]) C hR clX11 (zon C zo_14) kd_14 (M_fX11_look (zlv hd rfl) ev12) mY_X11_look q_1279 (Nat.le_of_ble_eq_true rfl) dX11_items_116 rfl rfl rfl ?_
          refine z_callS (q := 122) (av := [.int (zi l1), .int (zi v12)]) (rest := []) (stk2 := [.int (zi (fX11_itemOf l1 v12))]) C hR (M_fX11_itemOf (zlv hd rfl) rfl) mY_X11_itemOf q_1291 (Nat.le_of_ble_eq_true rfl) dX11_items_119 rfl rfl rfl ?_
          refine z_goto (q := 126) C dX11_items_122 (by decide) ?_
          obtain ⟨v13, ev13, hF⟩ := zlet_e hF
          refine z_istoreE (q := 128) C ev13 dX11_items_126 (by decide) rfl rfl ?_
          refine z_goto (q := 41) C dX11_items_128 (by decide) ?_
          exact z_sub (hK41 _ _ _ _ _ hF) [2, 3, 4, 5, 1, 0] rfl
set_option maxRecDepth 20000 in
set_option maxHeartbeats 4000000 in
theorem J_fX11_items_c41 {κ : zT} (C : zC κ RX11 cX11_items 7 none) {d : Nat} (hR : zR κ = zrm (d + 1)) (hd : 4 ≤ d + 1) {N : Nat} {o2 : Nat} (ho2 : o2 < zN) (hd2 : zkd o2 = 100) {r : zH} (e1 : zrv κ = none) (e2 : zhf κ = r) : ∀ (k : Nat) (l1 : Int) (l3 : Int) (l5 : Int) (l6 : Int) (h : zH), fX11_items_c41 N o2 k l1 l3 l5 l6 h = some r → Z κ h 41 [(0, .ref (zα κ 14)), (1, .int (zi l1)), (2, .ref (zα κ o2)), (3, .int (zi l3)), (5, .int (zi l5)), (6, .int (zi l6))] [] := by
  intro k
  induction k with
  | zero => intro l1 l3 l5 l6 h hF; cases hF
  | succ k ih => intro l1 l3 l5 l6 h hF; exact J_fX11_items_c41b C hR hd ho2 hd2 e1 e2 ih l1 l3 l5 l6 h hF
set_option maxRecDepth 20000 in
set_option maxHeartbeats 4000000 in
theorem J_fX11_items_c3b {κ : zT} (C : zC κ RX11 cX11_items 7 none) {d : Nat} (hR : zR κ = zrm (d + 1)) (hd : 4 ≤ d + 1) {N : Nat} {o2 : Nat} (ho2 : o2 < zN) (hd2 : zkd o2 = 100) {r : zH} (e1 : zrv κ = none) (e2 : zhf κ = r) {K3 : Int → Int → Int → Int → zH → Option zH} (hK3 : ∀ (l1 : Int) (l3 : Int) (l4 : Int) (l5 : Int) (h : zH), K3 l1 l3 l4 l5 h = some r → Z κ h 3 [(0, .ref (zα κ 14)), (1, .int (zi l1)), (2, .ref (zα κ o2)), (3, .int (zi l3)), (4, .int (zi l4)), (5, .int (zi l5))] []) (l1 : Int) (l3 : Int) (l4 : Int) (l5 : Int) (h : zH) (hF : fX11_items_c3b N o2 K3 l1 l3 l4 l5 h = some r) : Z κ h 3 [(0, .ref (zα κ 14)), (1, .int (zi l1)), (2, .ref (zα κ o2)), (3, .int (zi l3)), (4, .int (zi l4)), (5, .int (zi l5))] [] := by
  unfold fX11_items_c3b at hF
  refine z_iload (q := 5) C dX11_items_3 5 rfl rfl ?_
  refine z_iload (q := 7) C dX11_items_5 4 rfl rfl ?_
  refine z_icmp_ge (tgt := 28) (q := 10) C dX11_items_7 (by decide) rfl (fun c1 => ?_) (fun c1 => ?_)
  · have hF := (if_pos c1).symm.trans hF
    refine z_iconst (q := 29) C dX11_items_28 rfl ?_
    refine z_istore (q := 31) C dX11_items_29 (by decide) rfl rfl ?_
    refine z_iload_n (q := 32) C dX11_items_31 2 rfl rfl rfl ?_
    refine z_aload_n (q := 33) C dX11_items_32 1 rfl rfl rfl ?_
    obtain ⟨v3, h2, ev3, hF⟩ := z2_e hF
    refine z_callV (q := 36) (o := 14) (av := []) (rest := [.int (zi l1)]) (stk2 := [.int (zi v3), .int (zi l1)]) C hR clX11 (zon C zo_14) kd_14 (M_fX11_look (zlv hd rfl) ev3) mY_X11_look q_1279 (Nat.le_of_ble_eq_true rfl) dX11_items_33 rfl rfl rfl ?_
    refine z_callS (q := 39) (av := [.int (zi l1), .int (zi v3)]) (rest := []) (stk2 := [.int (zi (fX11_itemOf l1 v3))]) C hR (M_fX11_itemOf (zlv hd rfl) rfl) mY_X11_itemOf q_1291 (Nat.le_of_ble_eq_true rfl) dX11_items_36 rfl rfl rfl ?_
    obtain ⟨v4, ev4, hF⟩ := zlet_e hF
    refine z_istoreE (q := 41) C ev4 dX11_items_39 (by decide) rfl rfl ?_
    exact z_sub (J_fX11_items_c41 C hR hd ho2 hd2 e1 e2 N _ _ _ _ _ hF) [2, 3, 4, 5, 1, 0] rfl
  · have hF := (if_neg c1).symm.trans hF
    refine z_aload_n (q := 11) C dX11_items_10 2 rfl rfl rfl ?_
    refine z_iload_n (q := 12) C dX11_items_11 3 rfl rfl rfl ?_
    refine z_iload (q := 14) C dX11_items_12 5 rfl rfl ?_
    refine z_iadd (q := 15) C dX11_items_14 rfl ?_
    refine z_iload_n (q := 16) C dX11_items_15 1 rfl rfl rfl ?_
    refine z_iload (q := 18) C dX11_items_16 5 rfl rfl ?_
    refine z_callS (q := 21) (av := [.int (zi l1), .int (zi l5)]) (rest := [.int (zi (l3 + l5)), .ref (zα κ o2)]) (stk2 := [.int (zi (fX11_usual l1 l5)), .int (zi (l3 + l5)), .ref (zα κ o2)]) C hR (M_fX11_usual (zlv hd rfl) rfl) mY_X11_usual q_1276 (Nat.le_of_ble_eq_true rfl) dX11_items_18 rfl rfl rfl ?_
    obtain ⟨g5, hF⟩ := zif_none hF
    obtain ⟨h6, eh6, hF⟩ := zlet_e hF
    refine z_iast (q := 22) C (zon C ho2) hd2 g5.1 g5.2 dX11_items_21 rfl eh6 ?_
    refine z_iinc (q := 25) (x := l5) C dX11_items_22 (j := 5) rfl (by decide) rfl rfl ?_
    refine z_goto (q := 3) C dX11_items_25 (by decide) ?_
    exact z_sub (hK3 _ _ _ _ _ hF) [1, 2, 3, 4, 5, 0] rfl
set_option maxRecDepth 20000 in
set_option maxHeartbeats 4000000 in
theorem J_fX11_items_c3 {κ : zT} (C : zC κ RX11 cX11_items 7 none) {d : Nat} (hR : zR κ = zrm (d + 1)) (hd : 4 ≤ d + 1) {N : Nat} {o2 : Nat} (ho2 : o2 < zN) (hd2 : zkd o2 = 100) {r : zH} (e1 : zrv κ = none) (e2 : zhf κ = r) : ∀ (k : Nat) (l1 : Int) (l3 : Int) (l4 : Int) (l5 : Int) (h : zH), fX11_items_c3 N o2 k l1 l3 l4 l5 h = some r → Z κ h 3 [(0, .ref (zα κ 14)), (1, .int (zi l1)), (2, .ref (zα κ o2)), (3, .int (zi l3)), (4, .int (zi l4)), (5, .int (zi l5))] [] := by
  intro k
  induction k with
  | zero => intro l1 l3 l4 l5 h hF; cases hF
  | succ k ih => intro l1 l3 l4 l5 h hF; exact J_fX11_items_c3b C hR hd ho2 hd2 e1 e2 ih l1 l3 l4 l5 h hF
set_option maxRecDepth 20000 in
set_option maxHeartbeats 4000000 in
theorem J_fX11_items {κ : zT} (C : zC κ RX11 cX11_items 7 none) {d : Nat} (hR : zR κ = zrm (d + 1)) (hd : 4 ≤ d + 1) {N : Nat} {o2 : Nat} (ho2 : o2 < zN) (hd2 : zkd o2 = 100) {r : zH} (e1 : zrv κ = none) (e2 : zhf κ = r) {a1 : Int} {a3 : Int} {a4 : Int} {h : zH} (hF : fX11_items N o2 a1 a3 a4 h = some r) : Z κ h 0 [(0, .ref (zα κ 14)), (1, .int (zi a1)), (2, .ref (zα κ o2)), (3, .int (zi a3)), (4, .int (zi a4))] [] := by
  unfold fX11_items at hF
  refine z_iconst (q := 1) C dX11_items_0 rfl ?_
  refine z_istore (q := 3) C dX11_items_1 (by decide) rfl rfl ?_
  exact z_sub (J_fX11_items_c3 C hR hd ho2 hd2 e1 e2 N _ _ _ _ _ hF) [1, 2, 3, 4, 5, 0] rfl
set_option maxRecDepth 20000 in
set_option maxHeartbeats 4000000 in
theorem M_fX11_items {l : Launch} {D : va_G} {cy : ClassId} {α : Nat → Nat} {n : Nat} {σ : zSg} {d : Nat} (hd : 4 ≤ d) {N : Nat} {o2 : Nat} (ho2 : o2 < zN) (hd2 : zkd o2 = 100) {a1 : Int} {a3 : Int} {a4 : Int} {h : zH} {g : zH} (hF : fX11_items N o2 a1 a3 a4 h = some g) : zMet l yX11_items cX11_items 7 none (zrm d) D cy α n σ [.ref (α 14), .int (zi a1), .ref (α o2), .int (zi a3), .int (zi a4)] h (none) g := by
  obtain ⟨d, rfl⟩ : ∃ e, d = e + 1 := ⟨d - 1, by omega⟩
  refine z_met (by decide +kernel) (Nat.le_of_ble_eq_true rfl) (fun κ k1 k2 k3 k4 k5 k6 k7 k8 k9 C => ?_)
  subst k1 k3 k4 k5 k6 k7
  exact J_fX11_items C k2 hd ho2 hd2 k8 k9 hF
set_option maxRecDepth 20000 in
set_option maxHeartbeats 4000000 in
theorem J_fX11_isTold {κ : zT} (C : zC κ RX11 cX11_isTold 2 (some .boolean)) {d : Nat} (hR : zR κ = zrm (d + 1)) (hd : 1 ≤ d + 1) {h : zH} {r : Int} (e1 : zrv κ = some (.int (zi r))) (e2 : zhf κ = h) {a0 : Int} {a1 : Int} (hF : fX11_isTold a0 a1 = r) : Z κ h 0 [(0, .int (zi a0)), (1, .int (zi a1))] [] := by
  unfold fX11_isTold at hF
  refine z_iload_n (q := 1) C dX11_isTold_0 0 rfl rfl rfl ?_
  refine z_bipush (q := 3) C dX11_isTold_1 bp_8 rfl ?_
  refine z_icmp_eq (tgt := 11) (q := 6) C dX11_isTold_3 (by decide) rfl (fun c1 => ?_) (fun c1 => ?_)
  · have hF := (if_pos c1).symm.trans hF
    refine z_iconst (q := 12) C dX11_isTold_11 rfl ?_
    refine z_goto (q := 16) C dX11_isTold_12 (by decide) ?_
    subst hF
    exact z_zret C (zb01 (Or.inr rfl)) e1 e2 dX11_isTold_16
  · have hF := (if_neg c1).symm.trans hF
    refine z_iload_n (q := 7) C dX11_isTold_6 0 rfl rfl rfl ?_
    refine z_iload_n (q := 8) C dX11_isTold_7 1 rfl rfl rfl ?_
    refine z_icmp_ge (tgt := 15) (q := 11) C dX11_isTold_8 (by decide) rfl (fun c2 => ?_) (fun c2 => ?_)
    · have hF := (if_pos c2).symm.trans hF
      refine z_iconst (q := 16) C dX11_isTold_15 rfl ?_
      subst hF
      exact z_zret C (zb01 (Or.inl rfl)) e1 e2 dX11_isTold_16
    · have hF := (if_neg c2).symm.trans hF
      refine z_iconst (q := 12) C dX11_isTold_11 rfl ?_
      refine z_goto (q := 16) C dX11_isTold_12 (by decide) ?_
      subst hF
      exact z_zret C (zb01 (Or.inr rfl)) e1 e2 dX11_isTold_16
set_option maxRecDepth 20000 in
set_option maxHeartbeats 4000000 in
theorem M_fX11_isTold {l : Launch} {D : va_G} {cy : ClassId} {α : Nat → Nat} {n : Nat} {σ : zSg} {d : Nat} (hd : 1 ≤ d) {a0 : Int} {a1 : Int} {h : zH} {r : Int} (hF : fX11_isTold a0 a1 = r) : zMet l yX11_isTold cX11_isTold 2 (some .boolean) (zrm d) D cy α n σ [.int (zi a0), .int (zi a1)] h (some (.int (zi r))) h := by
  obtain ⟨d, rfl⟩ : ∃ e, d = e + 1 := ⟨d - 1, by omega⟩
  refine z_met (by decide +kernel) (Nat.le_of_ble_eq_true rfl) (fun κ k1 k2 k3 k4 k5 k6 k7 k8 k9 C => ?_)
  subst k1 k3 k4 k5 k6 k7
  exact J_fX11_isTold C k2 hd k8 k9 hF
theorem B_fX11_isTold {a0 : Int} {a1 : Int} : fX11_isTold a0 a1 = 0 ∨ fX11_isTold a0 a1 = 1 := by
  unfold fX11_isTold
  try simp only [zlet, zlet2]
  repeat' (first | exact Or.inl rfl | exact Or.inr rfl | apply zite01)
