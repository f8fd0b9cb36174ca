set_option maxRecDepth 20000 in
set_option maxHeartbeats 4000000 in
theorem J_fX11_count {κ : zT} (C : zC κ RX11 cX11_count 2 (some .int)) {d : Nat} (hR : zR κ = zrm (d + 1)) (hd : 1 ≤ d + 1) {h : zH} {r : Int} (e1 : zrv κ = some (.int (zi r))) (e2 : zhf κ = h) {a1 : Int} (hF : fX11_count a1 h = r) : Z κ h 0 [(0, .ref (zα κ 14)), (1, .int (zi a1))] [] := by
  unfold fX11_count at hF
  refine z_iload_n (q := 1) C dX11_count_0 1 rfl rfl rfl ?_
  by_cases c1 : zw a1 = 0
  · have hF := (if_pos c1).symm.trans hF
    refine z_tableIn (off := 63) (tgt := 64) C c1 dX11_count_1 (by decide) (by decide) (by decide) (by decide) ?_
    refine z_aload_n (q := 65) C dX11_count_64 0 rfl rfl rfl ?_
    refine z_getf (q := 68) C clX11 (zon C zo_14) kd_14 (k := 28) (by decide) q_1130 rfl (zfv_i kd_14 rfl) dX11_count_65 rfl ?_
    subst hF
    exact z_iret C e1 e2 dX11_count_68
  · have hF := (if_neg c1).symm.trans hF
    by_cases c2 : zw a1 = 1
    · have hF := (if_pos c2).symm.trans hF
      refine z_tableIn (off := 68) (tgt := 69) C c2 dX11_count_1 (by decide) (by decide) (by decide) (by decide) ?_
      refine z_aload_n (q := 70) C dX11_count_69 0 rfl rfl rfl ?_
      refine z_getf (q := 73) C clX11 (zon C zo_14) kd_14 (k := 29) (by decide) q_1131 rfl (zfv_i kd_14 rfl) dX11_count_70 rfl ?_
      subst hF
      exact z_iret C e1 e2 dX11_count_73
    · have hF := (if_neg c2).symm.trans hF
      by_cases c3 : zw a1 = 2
      · have hF := (if_pos c3).symm.trans hF
        refine z_tableIn (off := 73) (tgt := 74) C c3 dX11_count_1 (by decide) (by decide) (by decide) (by decide) ?_
        refine z_aload_n (q := 75) C dX11_count_74 0 rfl rfl rfl ?_
        refine z_getf (q := 78) C clX11 (zon C zo_14) kd_14 (k := 30) (by decide) q_1132 rfl (zfv_i kd_14 rfl) dX11_count_75 rfl ?_
        subst hF
        exact z_iret C e1 e2 dX11_count_78
      · have hF := (if_neg c3).symm.trans hF
        by_cases c4 : zw a1 = 3
        · have hF := (if_pos c4).symm.trans hF
          refine z_tableIn (off := 78) (tgt := 79) C c4 dX11_count_1 (by decide) (by decide) (by decide) (by decide) ?_
          refine z_aload_n (q := 80) C dX11_count_79 0 rfl rfl rfl ?_
          refine z_getf (q := 83) C clX11 (zon C zo_14) kd_14 (k := 13) (by decide) q_1115 rfl (zfv_i kd_14 rfl) dX11_count_80 rfl ?_
          subst hF
          exact z_iret C e1 e2 dX11_count_83
        · have hF := (if_neg c4).symm.trans hF
          by_cases c5 : zw a1 = 4
          · have hF := (if_pos c5).symm.trans hF
            refine z_tableIn (off := 83) (tgt := 84) C c5 dX11_count_1 (by decide) (by decide) (by decide) (by decide) ?_
            refine z_aload_n (q := 85) C dX11_count_84 0 rfl rfl rfl ?_
            refine z_getf (q := 88) C clX11 (zon C zo_14) kd_14 (k := 33) (by decide) q_1135 rfl (zfv_i kd_14 rfl) dX11_count_85 rfl ?_
            subst hF
            exact z_iret C e1 e2 dX11_count_88
          · have hF := (if_neg c5).symm.trans hF
            by_cases c6 : zw a1 = 5
            · have hF := (if_pos c6).symm.trans hF
              refine z_tableIn (off := 88) (tgt := 89) C c6 dX11_count_1 (by decide) (by decide) (by decide) (by decide) ?_
              refine z_aload_n (q := 90) C dX11_count_89 0 rfl rfl rfl ?_
              refine z_getf (q := 93) C clX11 (zon C zo_14) kd_14 (k := 2) (by decide) q_1104 rfl (zfv_i kd_14 rfl) dX11_count_90 rfl ?_
              subst hF
              exact z_iret C e1 e2 dX11_count_93
            · have hF := (if_neg c6).symm.trans hF
              by_cases c7 : zw a1 = 6
              · have hF := (if_pos c7).symm.trans hF
                refine z_tableIn (off := 93) (tgt := 94) C c7 dX11_count_1 (by decide) (by decide) (by decide) (by decide) ?_
                refine z_aload_n (q := 95) C dX11_count_94 0 rfl rfl rfl ?_
                refine z_getf (q := 98) C clX11 (zon C zo_14) kd_14 (k := 35) (by decide) q_1137 rfl (zfv_i kd_14 rfl) dX11_count_95 rfl ?_
                subst hF
                exact z_iret C e1 e2 dX11_count_98
              · have hF := (if_neg c7).symm.trans hF
                by_cases c8 : zw a1 = 7
                · have hF := (if_pos c8).symm.trans hF
                  refine z_tableIn (off := 98) (tgt := 99) C c8 dX11_count_1 (by decide) (by decide) (by decide) (by decide) ?_
                  refine z_aload_n (q := 100) C dX11_count_99 0 rfl rfl rfl ?_
                  refine z_getf (q := 103) C clX11 (zon C zo_14) kd_14 (k := 34) (by decide) q_1136 rfl (zfv_r kd_14 rfl fr_14_34) dX11_count_100 rfl ?_
                  refine z_bipush (q := 105) C dX11_count_103 bp_42 rfl ?_
                  refine z_ialdc (q := 106) (j := 42) C (zon C zo_69) kd_69 zwk_42 (by rw [ln_69]; decide) dX11_count_105 rfl ?_
                  subst hF
                  exact z_iret C e1 e2 dX11_count_106
                · have hF := (if_neg c8).symm.trans hF
                  by_cases c9 : zw a1 = 8
                  · have hF := (if_pos c9).symm.trans hF
                    refine z_tableIn (off := 106) (tgt := 107) C c9 dX11_count_1 (by decide) (by decide) (by decide) (by decide) ?_
                    refine z_aload_n (q := 108) C dX11_count_107 0 rfl rfl rfl ?_
                    refine z_getf (q := 111) C clX11 (zon C zo_14) kd_14 (k := 36) (by decide) q_1138 rfl (zfv_i kd_14 rfl) dX11_count_108 rfl ?_
                    subst hF
                    exact z_iret C e1 e2 dX11_count_111
                  · have hF := (if_neg c9).symm.trans hF
                    by_cases c10 : zw a1 = 9
                    · have hF := (if_pos c10).symm.trans hF
                      refine z_tableIn (off := 111) (tgt := 112) C c10 dX11_count_1 (by decide) (by decide) (by decide) (by decide) ?_
                      refine z_aload_n (q := 113) C dX11_count_112 0 rfl rfl rfl ?_
                      refine z_getf (q := 116) C clX11 (zon C zo_14) kd_14 (k := 46) (by decide) q_1148 rfl (zfv_i kd_14 rfl) dX11_count_113 rfl ?_
                      subst hF
                      exact z_iret C e1 e2 dX11_count_116
                    · have hF := (if_neg c10).symm.trans hF
                      by_cases c11 : zw a1 = 10
                      · have hF := (if_pos c11).symm.trans hF
                        refine z_tableIn (off := 116) (tgt := 117) C c11 dX11_count_1 (by decide) (by decide) (by decide) (by decide) ?_
                        refine z_aload_n (q := 118) C dX11_count_117 0 rfl rfl rfl ?_
                        refine z_getf (q := 121) C clX11 (zon C zo_14) kd_14 (k := 34) (by decide) q_1136 rfl (zfv_r kd_14 rfl fr_14_34) dX11_count_118 rfl ?_
                        refine z_bipush (q := 123) C dX11_count_121 bp_44 rfl ?_
                        refine z_ialdc (q := 124) (j := 44) C (zon C zo_69) kd_69 zwk_44 (by rw [ln_69]; decide) dX11_count_123 rfl ?_
                        subst hF
                        exact z_iret C e1 e2 dX11_count_124
                      · have hF := (if_neg c11).symm.trans hF
                        by_cases c12 : zw a1 = 11
                        · have hF := (if_pos c12).symm.trans hF
                          refine z_tableIn (off := 124) (tgt := 125) C c12 dX11_count_1 (by decide) (by decide) (by decide) (by decide) ?_
                          refine z_aload_n (q := 126) C dX11_count_125 0 rfl rfl rfl ?_
                          refine z_getf (q := 129) C clX11 (zon C zo_14) kd_14 (k := 38) (by decide) q_1140 rfl (zfv_i kd_14 rfl) dX11_count_126 rfl ?_
                          subst hF
                          exact z_iret C e1 e2 dX11_count_129
                        · have hF := (if_neg c12).symm.trans hF
                          refine z_tableOut (tgt := 130) C dX11_count_1 (by omega) (by decide) ?_
                          refine z_ldcw (q := 133) C kc_RX11_392 dX11_count_130 rfl ?_
                          subst hF
                          exact z_iret C e1 e2 dX11_count_133
set_option maxRecDepth 20000 in
set_option maxHeartbeats 4000000 in
theorem M_fX11_count {l : Launch} {D : va_G} {cy : ClassId} {α : Nat → Nat} {n : Nat} {σ : zSg} {d : Nat} (hd : 1 ≤ d) {a1 : Int} {h : zH} {r : Int} (hF : fX11_count a1 h = r) : zMet l yX11_count cX11_count 2 (some .int) (zrm d) D cy α n σ [.ref (α 14), .int (zi a1)] h (some (.int (zi r))) h := by
  obtain ⟨d, rfl⟩ : ∃ e, d = e + 1 := ⟨d - 1, by omega⟩
  refine z_met (by decide +kernel) (Nat.le_of_ble_eq_true rfl) (fun κ k1 k2 k3 k4 k5 k6 k7 k8 k9 C => ?_)
  subst k1 k3 k4 k5 k6 k7
  exact J_fX11_count C k2 hd k8 k9 hF
