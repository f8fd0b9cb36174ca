set_option maxRecDepth 20000 in
set_option maxHeartbeats 4000000 in
theorem J_fX11_worked {κ : zT} (C : zC κ RX11 cX11_worked 5 (some .int)) {d : Nat} (hR : zR κ = zrm (d + 1)) (hd : 3 ≤ d + 1) {h : zH} {r : Int} (e1 : zrv κ = some (.int (zi r))) (e2 : zhf κ = h) {a0 : Int} {a1 : Int} {a3 : Int} (hF : fX11_worked a0 a1 a3 = some r) : Z κ h 0 [(0, .int (zi a0)), (1, .long (zl a1)), (3, .long (zl a3))] [] := by
  unfold fX11_worked at hF
  refine z_iload_n (q := 1) C dX11_worked_0 0 rfl rfl rfl ?_
  by_cases c1 : zw a0 = 2
  · have hF := (if_pos c1).symm.trans hF
    refine z_tableIn (off := 51) (tgt := 52) C c1 dX11_worked_1 (by decide) (by decide) (by decide) (by decide) ?_
    refine z_lload_n (q := 53) C dX11_worked_52 1 rfl rfl rfl ?_
    refine z_lload_n (q := 54) C dX11_worked_53 2 rfl rfl rfl ?_
    refine z_ladd (q := 55) C dX11_worked_54 rfl ?_
    refine z_callS (q := 58) (av := [.long (zl (a1 + a3))]) (rest := []) (stk2 := [.int (zi (fX11_bounded (a1 + a3)))]) C hR (M_fX11_bounded (zlv hd rfl) rfl) mY_X11_bounded q_1567 (Nat.le_of_ble_eq_true rfl) dX11_worked_55 rfl rfl rfl ?_
    have hF := Option.some.inj hF
    subst hF
    exact z_iret C e1 e2 dX11_worked_58
  · have hF := (if_neg c1).symm.trans hF
    by_cases c2 : zw a0 = 3
    · have hF := (if_pos c2).symm.trans hF
      refine z_tableIn (off := 58) (tgt := 59) C c2 dX11_worked_1 (by decide) (by decide) (by decide) (by decide) ?_
      refine z_lload_n (q := 60) C dX11_worked_59 1 rfl rfl rfl ?_
      refine z_lload_n (q := 61) C dX11_worked_60 2 rfl rfl rfl ?_
      refine z_lsub (q := 62) C dX11_worked_61 rfl ?_
      refine z_callS (q := 65) (av := [.long (zl (a1 - a3))]) (rest := []) (stk2 := [.int (zi (fX11_bounded (a1 - a3)))]) C hR (M_fX11_bounded (zlv hd rfl) rfl) mY_X11_bounded q_1567 (Nat.le_of_ble_eq_true rfl) dX11_worked_62 rfl rfl rfl ?_
      have hF := Option.some.inj hF
      subst hF
      exact z_iret C e1 e2 dX11_worked_65
    · have hF := (if_neg c2).symm.trans hF
      by_cases c3 : zw a0 = 4
      · have hF := (if_pos c3).symm.trans hF
        refine z_tableIn (off := 65) (tgt := 66) C c3 dX11_worked_1 (by decide) (by decide) (by decide) (by decide) ?_
        refine z_lload_n (q := 67) C dX11_worked_66 1 rfl rfl rfl ?_
        refine z_lload_n (q := 68) C dX11_worked_67 2 rfl rfl rfl ?_
        refine z_lmul (q := 69) C dX11_worked_68 rfl ?_
        refine z_callS (q := 72) (av := [.long (zl (a1 * a3))]) (rest := []) (stk2 := [.int (zi (fX11_bounded (a1 * a3)))]) C hR (M_fX11_bounded (zlv hd rfl) rfl) mY_X11_bounded q_1567 (Nat.le_of_ble_eq_true rfl) dX11_worked_69 rfl rfl rfl ?_
        have hF := Option.some.inj hF
        subst hF
        exact z_iret C e1 e2 dX11_worked_72
      · have hF := (if_neg c3).symm.trans hF
        by_cases c4 : zw a0 = 5
        · have hF := (if_pos c4).symm.trans hF
          refine z_tableIn (off := 72) (tgt := 73) C c4 dX11_worked_1 (by decide) (by decide) (by decide) (by decide) ?_
          refine z_lload_n (q := 74) C dX11_worked_73 2 rfl rfl rfl ?_
          refine z_lconst (q := 75) (v := 0) C dX11_worked_74 rfl rfl ?_
          refine z_lcmp (q := 76) C dX11_worked_75 rfl ?_
          refine z_if_ne (tgt := 83) (q := 79) C dX11_worked_76 (by decide) rfl (fun c5 => ?_) (fun c5 => ?_)
          · have hF := (if_neg c5).symm.trans hF
            refine z_lload_n (q := 84) C dX11_worked_83 1 rfl rfl rfl ?_
            refine z_lload_n (q := 85) C dX11_worked_84 2 rfl rfl rfl ?_
            obtain ⟨g6, hF⟩ := zif_none hF
            refine z_ldiv (q := 86) C g6 dX11_worked_85 rfl ?_
            refine z_callS (q := 89) (av := [.long (zl (zldiv a1 a3))]) (rest := []) (stk2 := [.int (zi (fX11_bounded (zldiv a1 a3)))]) C hR (M_fX11_bounded (zlv hd rfl) rfl) mY_X11_bounded q_1567 (Nat.le_of_ble_eq_true rfl) dX11_worked_86 rfl rfl rfl ?_
            have hF := Option.some.inj hF
            subst hF
            exact z_iret C e1 e2 dX11_worked_89
          · have hF := (if_pos c5).symm.trans hF
            refine z_iconst (q := 80) C dX11_worked_79 rfl ?_
            refine z_goto (q := 89) C dX11_worked_80 (by decide) ?_
            have hF := Option.some.inj hF
            subst hF
            exact z_iret C e1 e2 dX11_worked_89
        · have hF := (if_neg c4).symm.trans hF
          by_cases c7 : zw a0 = 6
          · have hF := (if_pos c7).symm.trans hF
            refine z_tableIn (off := 89) (tgt := 90) C c7 dX11_worked_1 (by decide) (by decide) (by decide) (by decide) ?_
            refine z_lload_n (q := 91) C dX11_worked_90 1 rfl rfl rfl ?_
            refine z_lload_n (q := 92) C dX11_worked_91 2 rfl rfl rfl ?_
            refine z_lcmp (q := 93) C dX11_worked_92 rfl ?_
            refine z_if_ne (tgt := 100) (q := 96) C dX11_worked_93 (by decide) rfl (fun c8 => ?_) (fun c8 => ?_)
            · have hF := (if_neg c8).symm.trans hF
              refine z_iconst (q := 101) C dX11_worked_100 rfl ?_
              have hF := Option.some.inj hF
              subst hF
              exact z_iret C e1 e2 dX11_worked_101
            · have hF := (if_pos c8).symm.trans hF
              refine z_iconst (q := 97) C dX11_worked_96 rfl ?_
              refine z_goto (q := 101) C dX11_worked_97 (by decide) ?_
              have hF := Option.some.inj hF
              subst hF
              exact z_iret C e1 e2 dX11_worked_101
          · have hF := (if_neg c7).symm.trans hF
            by_cases c9 : zw a0 = 7
            · have hF := (if_pos c9).symm.trans hF
              refine z_tableIn (off := 101) (tgt := 102) C c9 dX11_worked_1 (by decide) (by decide) (by decide) (by decide) ?_
              refine z_lload_n (q := 103) C dX11_worked_102 1 rfl rfl rfl ?_
              refine z_lload_n (q := 104) C dX11_worked_103 2 rfl rfl rfl ?_
              refine z_lcmp (q := 105) C dX11_worked_104 rfl ?_
              refine z_if_ge (tgt := 112) (q := 108) C dX11_worked_105 (by decide) rfl (fun c10 => ?_) (fun c10 => ?_)
              · have hF := (if_pos c10).symm.trans hF
                refine z_iconst (q := 113) C dX11_worked_112 rfl ?_
                have hF := Option.some.inj hF
                subst hF
                exact z_iret C e1 e2 dX11_worked_113
              · have hF := (if_neg c10).symm.trans hF
                refine z_iconst (q := 109) C dX11_worked_108 rfl ?_
                refine z_goto (q := 113) C dX11_worked_109 (by decide) ?_
                have hF := Option.some.inj hF
                subst hF
                exact z_iret C e1 e2 dX11_worked_113
            · have hF := (if_neg c9).symm.trans hF
              by_cases c11 : zw a0 = 8
              · have hF := (if_pos c11).symm.trans hF
                refine z_tableIn (off := 113) (tgt := 114) C c11 dX11_worked_1 (by decide) (by decide) (by decide) (by decide) ?_
                refine z_lload_n (q := 115) C dX11_worked_114 1 rfl rfl rfl ?_
                refine z_lload_n (q := 116) C dX11_worked_115 2 rfl rfl rfl ?_
                refine z_lcmp (q := 117) C dX11_worked_116 rfl ?_
                refine z_if_le (tgt := 124) (q := 120) C dX11_worked_117 (by decide) rfl (fun c12 => ?_) (fun c12 => ?_)
                · have hF := (if_pos c12).symm.trans hF
                  refine z_iconst (q := 125) C dX11_worked_124 rfl ?_
                  have hF := Option.some.inj hF
                  subst hF
                  exact z_iret C e1 e2 dX11_worked_125
                · have hF := (if_neg c12).symm.trans hF
                  refine z_iconst (q := 121) C dX11_worked_120 rfl ?_
                  refine z_goto (q := 125) C dX11_worked_121 (by decide) ?_
                  have hF := Option.some.inj hF
                  subst hF
                  exact z_iret C e1 e2 dX11_worked_125
              · have hF := (if_neg c11).symm.trans hF
                by_cases c13 : zw a0 = 9
                · have hF := (if_pos c13).symm.trans hF
                  refine z_tableIn (off := 143) (tgt := 144) C c13 dX11_worked_1 (by decide) (by decide) (by decide) (by decide) ?_
                  refine z_lload_n (q := 145) C dX11_worked_144 1 rfl rfl rfl ?_
                  refine z_lconst (q := 146) (v := 0) C dX11_worked_145 rfl rfl ?_
                  refine z_lcmp (q := 147) C dX11_worked_146 rfl ?_
                  refine z_if_ne (tgt := 156) (q := 150) C dX11_worked_147 (by decide) rfl (fun c14 => ?_) (fun c14 => ?_)
                  · have hF := (if_neg c14).symm.trans hF
                    refine z_iconst (q := 157) C dX11_worked_156 rfl ?_
                    refine z_goto (q := 161) C dX11_worked_157 (by decide) ?_
                    have hF := Option.some.inj hF
                    subst hF
                    exact z_iret C e1 e2 dX11_worked_161
                  · have hF := (if_pos c14).symm.trans hF
                    refine z_lload_n (q := 151) C dX11_worked_150 2 rfl rfl rfl ?_
                    refine z_lconst (q := 152) (v := 0) C dX11_worked_151 rfl rfl ?_
                    refine z_lcmp (q := 153) C dX11_worked_152 rfl ?_
                    refine z_if_eq (tgt := 160) (q := 156) C dX11_worked_153 (by decide) rfl (fun c15 => ?_) (fun c15 => ?_)
                    · have hF := (if_pos c15).symm.trans hF
                      refine z_iconst (q := 161) C dX11_worked_160 rfl ?_
                      have hF := Option.some.inj hF
                      subst hF
                      exact z_iret C e1 e2 dX11_worked_161
                    · have hF := (if_neg c15).symm.trans hF
                      refine z_iconst (q := 157) C dX11_worked_156 rfl ?_
                      refine z_goto (q := 161) C dX11_worked_157 (by decide) ?_
                      have hF := Option.some.inj hF
                      subst hF
                      exact z_iret C e1 e2 dX11_worked_161
                · have hF := (if_neg c13).symm.trans hF
                  by_cases c16 : zw a0 = 10
                  · have hF := (if_pos c16).symm.trans hF
                    refine z_tableIn (off := 125) (tgt := 126) C c16 dX11_worked_1 (by decide) (by decide) (by decide) (by decide) ?_
                    refine z_lload_n (q := 127) C dX11_worked_126 1 rfl rfl rfl ?_
                    refine z_lconst (q := 128) (v := 0) C dX11_worked_127 rfl rfl ?_
                    refine z_lcmp (q := 129) C dX11_worked_128 rfl ?_
                    refine z_if_eq (tgt := 142) (q := 132) C dX11_worked_129 (by decide) rfl (fun c17 => ?_) (fun c17 => ?_)
                    · have hF := (if_pos c17).symm.trans hF
                      refine z_iconst (q := 143) C dX11_worked_142 rfl ?_
                      have hF := Option.some.inj hF
                      subst hF
                      exact z_iret C e1 e2 dX11_worked_143
                    · have hF := (if_neg c17).symm.trans hF
                      refine z_lload_n (q := 133) C dX11_worked_132 2 rfl rfl rfl ?_
                      refine z_lconst (q := 134) (v := 0) C dX11_worked_133 rfl rfl ?_
                      refine z_lcmp (q := 135) C dX11_worked_134 rfl ?_
                      refine z_if_eq (tgt := 142) (q := 138) C dX11_worked_135 (by decide) rfl (fun c18 => ?_) (fun c18 => ?_)
                      · have hF := (if_pos c18).symm.trans hF
                        refine z_iconst (q := 143) C dX11_worked_142 rfl ?_
                        have hF := Option.some.inj hF
                        subst hF
                        exact z_iret C e1 e2 dX11_worked_143
                      · have hF := (if_neg c18).symm.trans hF
                        refine z_iconst (q := 139) C dX11_worked_138 rfl ?_
                        refine z_goto (q := 143) C dX11_worked_139 (by decide) ?_
                        have hF := Option.some.inj hF
                        subst hF
                        exact z_iret C e1 e2 dX11_worked_143
                  · have hF := (if_neg c16).symm.trans hF
                    refine z_tableOut (tgt := 144) C dX11_worked_1 (by omega) (by decide) ?_
                    refine z_lload_n (q := 145) C dX11_worked_144 1 rfl rfl rfl ?_
                    refine z_lconst (q := 146) (v := 0) C dX11_worked_145 rfl rfl ?_
                    refine z_lcmp (q := 147) C dX11_worked_146 rfl ?_
                    refine z_if_ne (tgt := 156) (q := 150) C dX11_worked_147 (by decide) rfl (fun c19 => ?_) (fun c19 => ?_)
                    · have hF := (if_neg c19).symm.trans hF
                      refine z_iconst (q := 157) C dX11_worked_156 rfl ?_
                      refine z_goto (q := 161) C dX11_worked_157 (by decide) ?_
                      have hF := Option.some.inj hF
                      subst hF
                      exact z_iret C e1 e2 dX11_worked_161
                    · have hF := (if_pos c19).symm.trans hF
                      refine z_lload_n (q := 151) C dX11_worked_150 2 rfl rfl rfl ?_
                      refine z_lconst (q := 152) (v := 0) C dX11_worked_151 rfl rfl ?_
                      refine z_lcmp (q := 153) C dX11_worked_152 rfl ?_
                      refine z_if_eq (tgt := 160) (q := 156) C dX11_worked_153 (by decide) rfl (fun c20 => ?_) (fun c20 => ?_)
                      · have hF := (if_pos c20).symm.trans hF
                        refine z_iconst (q := 161) C dX11_worked_160 rfl ?_
                        have hF := Option.some.inj hF
                        subst hF
                        exact z_iret C e1 e2 dX11_worked_161
                      · have hF := (if_neg c20).symm.trans hF
                        refine z_iconst (q := 157) C dX11_worked_156 rfl ?_
                        refine z_goto (q := 161) C dX11_worked_157 (by decide) ?_
                        have hF := Option.some.inj hF
                        subst hF
                        exact z_iret C e1 e2 dX11_worked_161
set_option maxRecDepth 20000 in
set_option maxHeartbeats 4000000 in
theorem M_fX11_worked {l : Launch} {D : va_G} {cy : ClassId} {α : Nat → Nat} {n : Nat} {σ : zSg} {d : Nat} (hd : 3 ≤ d) {a0 : Int} {a1 : Int} {a3 : Int} {h : zH} {r : Int} (hF : fX11_worked a0 a1 a3 = some r) : zMet l yX11_worked cX11_worked 5 (some .int) (zrm d) D cy α n σ [.int (zi a0), .long (zl a1), .long (zl a3)] h (some (.int (zi r))) h := by
  obtain ⟨d, rfl⟩ : ∃ e, d = e + 1 := ⟨d - 1, by omega⟩
  refine z_met (by decide +kernel) (Nat.le_of_ble_eq_true rfl) (fun κ k1 k2 k3 k4 k5 k6 k7 k8 k9 C => ?_)
  subst k1 k3 k4 k5 k6 k7
  exact J_fX11_worked C k2 hd k8 k9 hF
set_option maxRecDepth 20000 in
set_option maxHeartbeats 4000000 in
theorem J_fX11_workOut_c45 {κ : zT} (C : zC κ RX11 cX11_workOut 6 (some .int)) {d : Nat} (hR : zR κ = zrm (d + 1)) (hd : 4 ≤ d + 1) {N : Nat} {r : Int × zH} (e1 : zrv κ = some (.int (zi r.1))) (e2 : zhf κ = r.2) {K12 : Int → Int → Int → Int → zH → Option (Int × zH)} (hK12 : ∀ (l1 : Int) (l3 : Int) (l4 : Int) (l5 : Int) (h : zH), K12 l1 l3 l4 l5 h = some r → Z κ h 12 [(0, .ref (zα κ 14)), (1, .int (zi l1)), (3, .int (zi l3)), (4, .int (zi l4)), (5, .int (zi l5))] []) (l1 : Int) (l3 : Int) (l4 : Int) (l5 : Int) (h : zH) (hF : fX11_workOut_c45 N K12 l1 l3 l4 l5 h = some r) : Z κ h 45 [(0, .ref (zα κ 14)), (1, .int (zi l1)), (3, .int (zi l3)), (4, .int (zi l4)), (5, .int (zi l5))] [] := by
  unfold fX11_workOut_c45 at hF
  refine z_aload_n (q := 46) C dX11_workOut_45 0 rfl rfl rfl ?_
  refine z_getf (q := 49) C clX11 (zon C zo_14) kd_14 (k := 16) (by decide) q_1118 rfl (zfv_r kd_14 rfl fr_14_16) dX11_workOut_46 rfl ?_
  refine z_iload (q := 51) C dX11_workOut_49 3 rfl rfl ?_
  refine z_aload_n (q := 52) C dX11_workOut_51 0 rfl rfl rfl ?_
  refine z_getf (q := 55) C clX11 (zon C zo_14) kd_14 (k := 6) (by decide) q_1108 rfl (zfv_r kd_14 rfl fr_14_6) dX11_workOut_52 rfl ?_
  refine z_iload (q := 57) C dX11_workOut_55 4 rfl rfl ?_
  obtain ⟨g1, hF⟩ := zif_none hF
  refine z_iald (q := 58) C (zon C zo_50) kd_50 g1.1 (by rw [ln_50]; exact g1.2) dX11_workOut_57 rfl ?_
  refine z_if_ne (tgt := 71) (q := 61) C dX11_workOut_58 (by decide) rfl (fun c2 => ?_) (fun c2 => ?_)
  · have hF := (if_neg c2).symm.trans hF
    refine z_aload_n (q := 72) C dX11_workOut_71 0 rfl rfl rfl ?_
    refine z_getf (q := 75) C clX11 (zon C zo_14) kd_14 (k := 15) (by decide) q_1117 rfl (zfv_r kd_14 rfl fr_14_15) dX11_workOut_72 rfl ?_
    refine z_aload_n (q := 76) C dX11_workOut_75 0 rfl rfl rfl ?_
    refine z_getf (q := 79) C clX11 (zon C zo_14) kd_14 (k := 7) (by decide) q_1109 rfl (zfv_r kd_14 rfl fr_14_7) dX11_workOut_76 rfl ?_
    refine z_iload (q := 81) C dX11_workOut_79 4 rfl rfl ?_
    obtain ⟨g6, hF⟩ := zif_none hF
    refine z_iald (q := 82) C (zon C zo_51) kd_51 g6.1 (by rw [ln_51]; exact g6.2) dX11_workOut_81 rfl ?_
    obtain ⟨g7, hF⟩ := zif_none hF
    refine z_iald (q := 83) C (zon C zo_57) kd_57 g7.1 (by rw [ln_57]; exact g7.2) dX11_workOut_82 rfl ?_
    obtain ⟨g8, hF⟩ := zif_none hF
    obtain ⟨h9, eh9, hF⟩ := zlet_e hF
    refine z_iast (q := 84) C (zon C zo_58) kd_58 g8.1 (by rw [ln_58]; exact g8.2) dX11_workOut_83 rfl eh9 ?_
    refine z_iinc (q := 87) (x := l4) C dX11_workOut_84 (j := 3) rfl (by decide) rfl rfl ?_
    refine z_goto (q := 165) C dX11_workOut_87 (by decide) ?_
    refine z_iinc (q := 168) (x := l5) C dX11_workOut_165 (j := 4) rfl (by decide) rfl rfl ?_
    refine z_goto (q := 12) C dX11_workOut_168 (by decide) ?_
    exact z_sub (hK12 _ _ _ _ _ hF) [2, 3, 4, 1, 0] rfl
  · have hF := (if_pos c2).symm.trans hF
    refine z_aload_n (q := 62) C dX11_workOut_61 0 rfl rfl rfl ?_
    refine z_getf (q := 65) C clX11 (zon C zo_14) kd_14 (k := 7) (by decide) q_1109 rfl (zfv_r kd_14 rfl fr_14_7) dX11_workOut_62 rfl ?_
    refine z_iload (q := 67) C dX11_workOut_65 4 rfl rfl ?_
    obtain ⟨g3, hF⟩ := zif_none hF
    refine z_iald (q := 68) C (zon C zo_51) kd_51 g3.1 (by rw [ln_51]; exact g3.2) dX11_workOut_67 rfl ?_
    refine z_goto (q := 83) C dX11_workOut_68 (by decide) ?_
    obtain ⟨g4, hF⟩ := zif_none hF
    obtain ⟨h5, eh5, hF⟩ := zlet_e hF
    refine z_iast (q := 84) C (zon C zo_58) kd_58 g4.1 (by rw [ln_58]; exact g4.2) dX11_workOut_83 rfl eh5 ?_
    refine z_iinc (q := 87) (x := l4) C dX11_workOut_84 (j := 3) rfl (by decide) rfl rfl ?_
    refine z_goto (q := 165) C dX11_workOut_87 (by decide) ?_
    refine z_iinc (q := 168) (x := l5) C dX11_workOut_165 (j := 4) rfl (by decide) rfl rfl ?_
    refine z_goto (q := 12) C dX11_workOut_168 (by decide) ?_
    exact z_sub (hK12 _ _ _ _ _ hF) [2, 3, 4, 1, 0] rfl
set_option maxRecDepth 20000 in
set_option maxHeartbeats 4000000 in
theorem J_fX11_workOut_c12b {κ : zT} (C : zC κ RX11 cX11_workOut 6 (some .int)) {d : Nat} (hR : zR κ = zrm (d + 1)) (hd : 4 ≤ d + 1) {N : Nat} {r : Int × zH} (e1 : zrv κ = some (.int (zi r.1))) (e2 : zhf κ = r.2) {K12 : Int → Int → Int → Int → zH → Option (Int × zH)} (hK12 : ∀ (l1 : Int) (l3 : Int) (l4 : Int) (l5 : Int) (h : zH), K12 l1 l3 l4 l5 h = some r → Z κ h 12 [(0, .ref (zα κ 14)), (1, .int (zi l1)), (3, .int (zi l3)), (4, .int (zi l4)), (5, .int (zi l5))] []) (l1 : Int) (l3 : Int) (l4 : Int) (l5 : Int) (h : zH) (hF : fX11_workOut_c12b N K12 l1 l3 l4 l5 h = some r) : Z κ h 12 [(0, .ref (zα κ 14)), (1, .int (zi l1)), (3, .int (zi l3)), (4, .int (zi l4)), (5, .int (zi l5))] [] := by
  unfold fX11_workOut_c12b at hF
  refine z_iload (q := 14) C dX11_workOut_12 4 rfl rfl ?_
  refine z_sipush (q := 17) C dX11_workOut_14 sp_520 rfl ?_
  refine z_iload_n (q := 18) C dX11_workOut_17 1 rfl rfl rfl ?_
  refine z_imul (q := 19) C dX11_workOut_18 rfl ?_
  refine z_iload_n (q := 20) C dX11_workOut_19 2 rfl rfl rfl ?_
  refine z_iadd (q := 21) C dX11_workOut_20 rfl ?_
  refine z_icmp_ge (tgt := 171) (q := 24) C dX11_workOut_21 (by decide) rfl (fun c1 => ?_) (fun c1 => ?_)
  · have hF := (if_pos c1).symm.trans hF
    refine z_aload_n (q := 172) C dX11_workOut_171 0 rfl rfl rfl ?_
    refine z_getf (q := 175) C clX11 (zon C zo_14) kd_14 (k := 16) (by decide) q_1118 rfl (zfv_r kd_14 rfl fr_14_16) dX11_workOut_172 rfl ?_
    refine z_iconst (q := 176) C dX11_workOut_175 rfl ?_
    refine z_ialdc (q := 177) (j := 0) C (zon C zo_58) kd_58 zwk_0 (by rw [ln_58]; decide) dX11_workOut_176 rfl ?_
    have hF := Option.some.inj hF
    subst hF
    exact z_iret C e1 e2 dX11_workOut_177
  · have hF := (if_neg c1).symm.trans hF
    refine z_aload_n (q := 25) C dX11_workOut_24 0 rfl rfl rfl ?_
    refine z_getf (q := 28) C clX11 (zon C zo_14) kd_14 (k := 6) (by decide) q_1108 rfl (zfv_r kd_14 rfl fr_14_6) dX11_workOut_25 rfl ?_
    refine z_iload (q := 30) C dX11_workOut_28 4 rfl rfl ?_
    obtain ⟨g2, hF⟩ := zif_none hF
    refine z_iald (q := 31) C (zon C zo_50) kd_50 g2.1 (by rw [ln_50]; exact g2.2) dX11_workOut_30 rfl ?_
    refine z_if_eq (tgt := 45) (q := 34) C dX11_workOut_31 (by decide) rfl (fun c3 => ?_) (fun c3 => ?_)
    · have hF := (if_pos c3).symm.trans hF
      exact z_sub (J_fX11_workOut_c45 C hR hd e1 e2 hK12 _ _ _ _ _ hF) [0, 1, 2, 3, 4] rfl
    · have hF := (if_neg c3).symm.trans hF
      refine z_aload_n (q := 35) C dX11_workOut_34 0 rfl rfl rfl ?_
      refine z_getf (q := 38) C clX11 (zon C zo_14) kd_14 (k := 6) (by decide) q_1108 rfl (zfv_r kd_14 rfl fr_14_6) dX11_workOut_35 rfl ?_
      refine z_iload (q := 40) C dX11_workOut_38 4 rfl rfl ?_
      obtain ⟨g4, hF⟩ := zif_none hF
      refine z_iald (q := 41) C (zon C zo_50) kd_50 g4.1 (by rw [ln_50]; exact g4.2) dX11_workOut_40 rfl ?_
      refine z_iconst (q := 42) C dX11_workOut_41 rfl ?_
      refine z_icmp_ne (tgt := 90) (q := 45) C dX11_workOut_42 (by decide) rfl (fun c5 => ?_) (fun c5 => ?_)
      · have hF := (if_neg c5).symm.trans hF
        refine z_aload_n (q := 91) C dX11_workOut_90 0 rfl rfl rfl ?_
        refine z_getf (q := 94) C clX11 (zon C zo_14) kd_14 (k := 6) (by decide) q_1108 rfl (zfv_r kd_14 rfl fr_14_6) dX11_workOut_91 rfl ?_
        refine z_iload (q := 96) C dX11_workOut_94 4 rfl rfl ?_
        obtain ⟨g6, hF⟩ := zif_none hF
        refine z_iald (q := 97) C (zon C zo_50) kd_50 g6.1 (by rw [ln_50]; exact g6.2) dX11_workOut_96 rfl ?_
        refine z_bipush (q := 99) C dX11_workOut_97 bp_9 rfl ?_
        refine z_icmp_ne (tgt := 125) (q := 102) C dX11_workOut_99 (by decide) rfl (fun c7 => ?_) (fun c7 => ?_)
        · have hF := (if_neg c7).symm.trans hF
          refine z_iinc (q := 128) (x := l4) C dX11_workOut_125 (j := 3) rfl (by decide) rfl rfl ?_
          refine z_aload_n (q := 129) C dX11_workOut_128 1 rfl rfl rfl ?_
          refine z_getf (q := 132) C clX11 (zon C zo_14) kd_14 (k := 16) (by decide) q_1118 rfl (zfv_r kd_14 rfl fr_14_16) dX11_workOut_129 rfl ?_
          refine z_iload (q := 134) C dX11_workOut_132 0 rfl rfl ?_
          refine z_iconst (q := 135) C dX11_workOut_134 rfl ?_
          refine z_isub (q := 136) C dX11_workOut_135 rfl ?_
          refine z_aload_n (q := 137) C dX11_workOut_136 1 rfl rfl rfl ?_
          refine z_getf (q := 140) C clX11 (zon C zo_14) kd_14 (k := 6) (by decide) q_1108 rfl (zfv_r kd_14 rfl fr_14_6) dX11_workOut_137 rfl ?_
          refine z_iload (q := 142) C dX11_workOut_140 4 rfl rfl ?_
          obtain ⟨g11, hF⟩ := zif_none hF
          refine z_iald (q := 143) C (zon C zo_50) kd_50 g11.1 (by rw [ln_50]; exact g11.2) dX11_workOut_142 rfl ?_
          refine z_aload_n (q := 144) C dX11_workOut_143 1 rfl rfl rfl ?_
          refine z_getf (q := 147) C clX11 (zon C zo_14) kd_14 (k := 16) (by decide) q_1118 rfl (zfv_r kd_14 rfl fr_14_16) dX11_workOut_144 rfl ?_
          refine z_iload (q := 149) C dX11_workOut_147 0 rfl rfl ?_
          refine z_iconst (q := 150) C dX11_workOut_149 rfl ?_
          refine z_isub (q := 151) C dX11_workOut_150 rfl ?_
          obtain ⟨g12, hF⟩ := zif_none hF
          refine z_iald (q := 152) C (zon C zo_58) kd_58 g12.1 (by rw [ln_58]; exact g12.2) dX11_workOut_151 rfl ?_
          refine z_i2l (q := 153) C dX11_workOut_152 rfl ?_
          refine z_aload_n (q := 154) C dX11_workOut_153 1 rfl rfl rfl ?_
          refine z_getf (q := 157) C clX11 (zon C zo_14) kd_14 (k := 16) (by decide) q_1118 rfl (zfv_r kd_14 rfl fr_14_16) dX11_workOut_154 rfl ?_
          refine z_iload (q := 159) C dX11_workOut_157 0 rfl rfl ?_
          obtain ⟨g13, hF⟩ := zif_none hF
          refine z_iald (q := 160) C (zon C zo_58) kd_58 g13.1 (by rw [ln_58]; exact g13.2) dX11_workOut_159 rfl ?_
          refine z_i2l (q := 161) C dX11_workOut_160 rfl ?_
          obtain ⟨v14, ev14, hF⟩ := zb_e hF
          refine z_callS (q := 164) (av := [.int (zi (h 50 (zw l5).toNat)), .long (zl (zw (h 58 (zw ((l4 + (-1)) - 1)).toNat))), .long (zl (zw (h 58 (zw (l4 + (-1))).toNat)))]) (rest := [.int (zi ((l4 + (-1)) - 1)), .ref (zα κ 58)]) (stk2 := [.int (zi v14), .int (zi ((l4 + (-1)) - 1)), .ref (zα κ 58)]) C hR (M_fX11_worked (zlv hd rfl) ev14) mY_X11_worked q_1564 (Nat.le_of_ble_eq_true rfl) dX11_workOut_161 rfl rfl rfl ?_
          obtain ⟨g15, hF⟩ := zif_none hF
          obtain ⟨h16, eh16, hF⟩ := zlet_e hF
          refine z_iast (q := 165) C (zon C zo_58) kd_58 g15.1 (by rw [ln_58]; exact g15.2) dX11_workOut_164 rfl eh16 ?_
          refine z_iinc (q := 168) (x := l5) C dX11_workOut_165 (j := 4) rfl (by decide) rfl rfl ?_
          refine z_goto (q := 12) C dX11_workOut_168 (by decide) ?_
          exact z_sub (hK12 _ _ _ _ _ hF) [2, 3, 4, 1, 0] rfl
        · have hF := (if_pos c7).symm.trans hF
          refine z_aload_n (q := 103) C dX11_workOut_102 0 rfl rfl rfl ?_
          refine z_getf (q := 106) C clX11 (zon C zo_14) kd_14 (k := 16) (by decide) q_1118 rfl (zfv_r kd_14 rfl fr_14_16) dX11_workOut_103 rfl ?_
          refine z_iload (q := 108) C dX11_workOut_106 3 rfl rfl ?_
          refine z_iconst (q := 109) C dX11_workOut_108 rfl ?_
          refine z_isub (q := 110) C dX11_workOut_109 rfl ?_
          refine z_iconst (q := 111) C dX11_workOut_110 rfl ?_
          refine z_aload_n (q := 112) C dX11_workOut_111 0 rfl rfl rfl ?_
          refine z_getf (q := 115) C clX11 (zon C zo_14) kd_14 (k := 16) (by decide) q_1118 rfl (zfv_r kd_14 rfl fr_14_16) dX11_workOut_112 rfl ?_
          refine z_iload (q := 117) C dX11_workOut_115 3 rfl rfl ?_
          refine z_iconst (q := 118) C dX11_workOut_117 rfl ?_
          refine z_isub (q := 119) C dX11_workOut_118 rfl ?_
          obtain ⟨g8, hF⟩ := zif_none hF
          refine z_iald (q := 120) C (zon C zo_58) kd_58 g8.1 (by rw [ln_58]; exact g8.2) dX11_workOut_119 rfl ?_
          refine z_isub (q := 121) C dX11_workOut_120 rfl ?_
          obtain ⟨g9, hF⟩ := zif_none hF
          obtain ⟨h10, eh10, hF⟩ := zlet_e hF
          refine z_iast (q := 122) C (zon C zo_58) kd_58 g9.1 (by rw [ln_58]; exact g9.2) dX11_workOut_121 rfl eh10 ?_
          refine z_goto (q := 165) C dX11_workOut_122 (by decide) ?_
          refine z_iinc (q := 168) (x := l5) C dX11_workOut_165 (j := 4) rfl (by decide) rfl rfl ?_
          refine z_goto (q := 12) C dX11_workOut_168 (by decide) ?_
          exact z_sub (hK12 _ _ _ _ _ hF) [1, 2, 3, 4, 0] rfl
      · have hF := (if_pos c5).symm.trans hF
        exact z_sub (J_fX11_workOut_c45 C hR hd e1 e2 hK12 _ _ _ _ _ hF) [0, 1, 2, 3, 4] rfl
set_option maxRecDepth 20000 in
set_option maxHeartbeats 4000000 in
theorem J_fX11_workOut_c12 {κ : zT} (C : zC κ RX11 cX11_workOut 6 (some .int)) {d : Nat} (hR : zR κ = zrm (d + 1)) (hd : 4 ≤ d + 1) {N : Nat} {r : Int × zH} (e1 : zrv κ = some (.int (zi r.1))) (e2 : zhf κ = r.2) : ∀ (k : Nat) (l1 : Int) (l3 : Int) (l4 : Int) (l5 : Int) (h : zH), fX11_workOut_c12 N k l1 l3 l4 l5 h = some r → Z κ h 12 [(0, .ref (zα κ 14)), (1, .int (zi l1)), (3, .int (zi l3)), (4, .int (zi l4)), (5, .int (zi l5))] [] := by
  intro k
  induction k with
  | zero => intro l1 l3 l4 l5 h hF; cases hF
  | succ k ih => intro l1 l3 l4 l5 h hF; exact J_fX11_workOut_c12b C hR hd e1 e2 ih l1 l3 l4 l5 h hF
set_option maxRecDepth 20000 in
set_option maxHeartbeats 4000000 in
theorem J_fX11_workOut {κ : zT} (C : zC κ RX11 cX11_workOut 6 (some .int)) {d : Nat} (hR : zR κ = zrm (d + 1)) (hd : 4 ≤ d + 1) {N : Nat} {r : Int × zH} (e1 : zrv κ = some (.int (zi r.1))) (e2 : zhf κ = r.2) {a1 : Int} {a2 : Int} {a3 : Int} {h : zH} (hF : fX11_workOut N a1 a2 a3 h = some r) : Z κ h 0 [(0, .ref (zα κ 14)), (1, .int (zi a1)), (2, .int (zi a2)), (3, .int (zi a3))] [] := by
  unfold fX11_workOut at hF
  refine z_iconst (q := 1) C dX11_workOut_0 rfl ?_
  refine z_istore (q := 3) C dX11_workOut_1 (by decide) rfl rfl ?_
  refine z_sipush (q := 6) C dX11_workOut_3 sp_520 rfl ?_
  refine z_iload_n (q := 7) C dX11_workOut_6 2 rfl rfl rfl ?_
  refine z_imul (q := 8) C dX11_workOut_7 rfl ?_
  refine z_iload_n (q := 9) C dX11_workOut_8 3 rfl rfl rfl ?_
  refine z_iadd (q := 10) C dX11_workOut_9 rfl ?_
  refine z_istore (q := 12) C dX11_workOut_10 (by decide) rfl rfl ?_
  exact z_sub (J_fX11_workOut_c12 C hR hd e1 e2 N _ _ _ _ _ hF) [2, 3, 5, 1, 0] rfl
set_option maxRecDepth 20000 in
set_option maxHeartbeats 4000000 in
theorem M_fX11_workOut {l : Launch} {D : va_G} {cy : ClassId} {α : Nat → Nat} {n : Nat} {σ : zSg} {d : Nat} (hd : 4 ≤ d) {N : Nat} {a1 : Int} {a2 : Int} {a3 : Int} {h : zH} {r : Int} {g : zH} (hF : fX11_workOut N a1 a2 a3 h = some (r, g)) : zMet l yX11_workOut cX11_workOut 6 (some .int) (zrm d) D cy α n σ [.ref (α 14), .int (zi a1), .int (zi a2), .int (zi a3)] h (some (.int (zi r))) g := by
  obtain ⟨d, rfl⟩ : ∃ e, d = e + 1 := ⟨d - 1, by omega⟩
  refine z_met (by decide +kernel) (Nat.le_of_ble_eq_true rfl) (fun κ k1 k2 k3 k4 k5 k6 k7 k8 k9 C => ?_)
  subst k1 k3 k4 k5 k6 k7
  exact J_fX11_workOut C k2 hd k8 k9 hF
set_option maxRecDepth 20000 in
set_option maxHeartbeats 4000000 in
theorem J_fX11_worthOf_c6b {κ : zT} (C : zC κ RX11 cX11_worthOf 3 (some .int)) {d : Nat} (hR : zR κ = zrm (d + 1)) (hd : 5 ≤ d + 1) {N : Nat} {r : Int × zH} (e1 : zrv κ = some (.int (zi r.1))) (e2 : zhf κ = r.2) {K6 : Int → Int → zH → Option (Int × zH)} (hK6 : ∀ (l1 : Int) (l2 : Int) (h : zH), K6 l1 l2 h = some r → Z κ h 6 [(0, .ref (zα κ 14)), (1, .int (zi l1)), (2, .int (zi l2))] []) (l1 : Int) (l2 : Int) (h : zH) (hF : fX11_worthOf_c6b N K6 l1 l2 h = some r) : Z κ h 6 [(0, .ref (zα κ 14)), (1, .int (zi l1)), (2, .int (zi l2))] [] := by
  unfold fX11_worthOf_c6b at hF
  refine z_iload_n (q := 7) C dX11_worthOf_6 2 rfl rfl rfl ?_
  refine z_sipush (q := 10) C dX11_worthOf_7 sp_140 rfl ?_
  refine z_iload_n (q := 11) C dX11_worthOf_10 1 rfl rfl rfl ?_
  refine z_imul (q := 12) C dX11_worthOf_11 rfl ?_
  refine z_aload_n (q := 13) C dX11_worthOf_12 0 rfl rfl rfl ?_
  refine z_getf (q := 16) C clX11 (zon C zo_14) kd_14 (k := 9) (by decide) q_1111 rfl (zfv_r kd_14 rfl fr_14_9) dX11_worthOf_13 rfl ?_
  refine z_iload_n (q := 17) C dX11_worthOf_16 1 rfl rfl rfl ?_
  obtain ⟨g1, hF⟩ := zif_none hF
  refine z_iald (q := 18) C (zon C zo_53) kd_53 g1.1 (by rw [ln_53]; exact g1.2) dX11_worthOf_17 rfl ?_
  refine z_iadd (q := 19) C dX11_worthOf_18 rfl ?_
  refine z_icmp_ge (tgt := 81) (q := 22) C dX11_worthOf_19 (by decide) rfl (fun c2 => ?_) (fun c2 => ?_)
  · have hF := (if_pos c2).symm.trans hF
    refine z_iconst (q := 82) C dX11_worthOf_81 rfl ?_
    have hF := Option.some.inj hF
    subst hF
    exact z_iret C e1 e2 dX11_worthOf_82
  · have hF := (if_neg c2).symm.trans hF
    refine z_aload_n (q := 23) C dX11_worthOf_22 0 rfl rfl rfl ?_
    refine z_getf (q := 26) C clX11 (zon C zo_14) kd_14 (k := 10) (by decide) q_1112 rfl (zfv_r kd_14 rfl fr_14_10) dX11_worthOf_23 rfl ?_
    refine z_iload_n (q := 27) C dX11_worthOf_26 2 rfl rfl rfl ?_
    obtain ⟨g3, hF⟩ := zif_none hF
    refine z_iald (q := 28) C (zon C zo_54) kd_54 g3.1 (by rw [ln_54]; exact g3.2) dX11_worthOf_27 rfl ?_
    refine z_aload_n (q := 29) C dX11_worthOf_28 0 rfl rfl rfl ?_
    refine z_getf (q := 32) C clX11 (zon C zo_14) kd_14 (k := 11) (by decide) q_1113 rfl (zfv_r kd_14 rfl fr_14_11) dX11_worthOf_29 rfl ?_
    refine z_iload_n (q := 33) C dX11_worthOf_32 2 rfl rfl rfl ?_
    obtain ⟨g4, hF⟩ := zif_none hF
    refine z_iald (q := 34) C (zon C zo_55) kd_55 g4.1 (by rw [ln_55]; exact g4.2) dX11_worthOf_33 rfl ?_
    refine z_icmp_eq (tgt := 57) (q := 37) C dX11_worthOf_34 (by decide) rfl (fun c5 => ?_) (fun c5 => ?_)
    · have hF := (if_pos c5).symm.trans hF
      refine z_aload_n (q := 58) C dX11_worthOf_57 0 rfl rfl rfl ?_
      refine z_iload_n (q := 59) C dX11_worthOf_58 1 rfl rfl rfl ?_
      refine z_aload_n (q := 60) C dX11_worthOf_59 0 rfl rfl rfl ?_
      refine z_getf (q := 63) C clX11 (zon C zo_14) kd_14 (k := 11) (by decide) q_1113 rfl (zfv_r kd_14 rfl fr_14_11) dX11_worthOf_60 rfl ?_
      refine z_iload_n (q := 64) C dX11_worthOf_63 2 rfl rfl rfl ?_
      obtain ⟨g6, hF⟩ := zif_none hF
      refine z_iald (q := 65) C (zon C zo_55) kd_55 g6.1 (by rw [ln_55]; exact g6.2) dX11_worthOf_64 rfl ?_
      refine z_aload_n (q := 66) C dX11_worthOf_65 0 rfl rfl rfl ?_
      refine z_getf (q := 69) C clX11 (zon C zo_14) kd_14 (k := 12) (by decide) q_1114 rfl (zfv_r kd_14 rfl fr_14_12) dX11_worthOf_66 rfl ?_
      refine z_iload_n (q := 70) C dX11_worthOf_69 2 rfl rfl rfl ?_
      obtain ⟨g7, hF⟩ := zif_none hF
      refine z_iald (q := 71) C (zon C zo_56) kd_56 g7.1 (by rw [ln_56]; exact g7.2) dX11_worthOf_70 rfl ?_
      obtain ⟨v9, h8, ev9, hF⟩ := z2_e hF
      refine z_callV (q := 74) (o := 14) (av := [.int (zi l1), .int (zi (h 55 (zw l2).toNat)), .int (zi (h 56 (zw l2).toNat))]) (rest := []) (stk2 := [.int (zi v9)]) C hR clX11 (zon C zo_14) kd_14 (M_fX11_workOut (zlv hd rfl) ev9) mY_X11_workOut q_1560 (Nat.le_of_ble_eq_true rfl) dX11_worthOf_71 rfl rfl rfl ?_
      have hF := Option.some.inj hF
      subst hF
      exact z_iret C e1 e2 dX11_worthOf_74
    · have hF := (if_neg c5).symm.trans hF
      refine z_aload_n (q := 38) C dX11_worthOf_37 0 rfl rfl rfl ?_
      refine z_iload_n (q := 39) C dX11_worthOf_38 1 rfl rfl rfl ?_
      refine z_aload_n (q := 40) C dX11_worthOf_39 0 rfl rfl rfl ?_
      refine z_getf (q := 43) C clX11 (zon C zo_14) kd_14 (k := 10) (by decide) q_1112 rfl (zfv_r kd_14 rfl fr_14_10) dX11_worthOf_40 rfl ?_
      refine z_iload_n (q := 44) C dX11_worthOf_43 2 rfl rfl rfl ?_
      obtain ⟨g10, hF⟩ := zif_none hF
      refine z_iald (q := 45) C (zon C zo_54) kd_54 g10.1 (by rw [ln_54]; exact g10.2) dX11_worthOf_44 rfl ?_
      refine z_aload_n (q := 46) C dX11_worthOf_45 0 rfl rfl rfl ?_
      refine z_getf (q := 49) C clX11 (zon C zo_14) kd_14 (k := 11) (by decide) q_1113 rfl (zfv_r kd_14 rfl fr_14_11) dX11_worthOf_46 rfl ?_
      refine z_iload_n (q := 50) C dX11_worthOf_49 2 rfl rfl rfl ?_
      obtain ⟨g11, hF⟩ := zif_none hF
      refine z_iald (q := 51) C (zon C zo_55) kd_55 g11.1 (by rw [ln_55]; exact g11.2) dX11_worthOf_50 rfl ?_
      obtain ⟨v13, h12, ev13, hF⟩ := z2_e hF
      refine z_callV (q := 54) (o := 14) (av := [.int (zi l1), .int (zi (h 54 (zw l2).toNat)), .int (zi (h 55 (zw l2).toNat))]) (rest := []) (stk2 := [.int (zi v13)]) C hR clX11 (zon C zo_14) kd_14 (M_fX11_workOut (zlv hd rfl) ev13) mY_X11_workOut q_1560 (Nat.le_of_ble_eq_true rfl) dX11_worthOf_51 rfl rfl rfl ?_
      refine z_if_eq (tgt := 75) (q := 57) C dX11_worthOf_54 (by decide) rfl (fun c14 => ?_) (fun c14 => ?_)
      · have hF := (if_pos c14).symm.trans hF
        refine z_iinc (q := 78) (x := l2) C dX11_worthOf_75 (j := 2) rfl (by decide) rfl rfl ?_
        refine z_goto (q := 6) C dX11_worthOf_78 (by decide) ?_
        exact z_sub (hK6 _ _ _ hF) [1, 2, 0] rfl
      · have hF := (if_neg c14).symm.trans hF
        refine z_aload_n (q := 58) C dX11_worthOf_57 0 rfl rfl rfl ?_
        refine z_iload_n (q := 59) C dX11_worthOf_58 1 rfl rfl rfl ?_
        refine z_aload_n (q := 60) C dX11_worthOf_59 0 rfl rfl rfl ?_
        refine z_getf (q := 63) C clX11 (zon C zo_14) kd_14 (k := 11) (by decide) q_1113 rfl (zfv_r kd_14 rfl fr_14_11) dX11_worthOf_60 rfl ?_
        refine z_iload_n (q := 64) C dX11_worthOf_63 2 rfl rfl rfl ?_
        obtain ⟨g15, hF⟩ := zif_none hF
        refine z_iald (q := 65) C (zon C zo_55) kd_55 g15.1 (by rw [ln_55]; exact g15.2) dX11_worthOf_64 rfl ?_
        refine z_aload_n (q := 66) C dX11_worthOf_65 0 rfl rfl rfl ?_
        refine z_getf (q := 69) C clX11 (zon C zo_14) kd_14 (k := 12) (by decide) q_1114 rfl (zfv_r kd_14 rfl fr_14_12) dX11_worthOf_66 rfl ?_
        refine z_iload_n (q := 70) C dX11_worthOf_69 2 rfl rfl rfl ?_
        obtain ⟨g16, hF⟩ := zif_none hF
        refine z_iald (q := 71) C (zon C zo_56) kd_56 g16.1 (by rw [ln_56]; exact g16.2) dX11_worthOf_70 rfl ?_
        obtain ⟨v18, h17, ev18, hF⟩ := z2_e hF
        refine z_callV (q := 74) (o := 14) (av := [.int (zi l1), .int (zi (h12 55 (zw l2).toNat)), .int (zi (h12 56 (zw l2).toNat))]) (rest := []) (stk2 := [.int (zi v18)]) C hR clX11 (zon C zo_14) kd_14 (M_fX11_workOut (zlv hd rfl) ev18) mY_X11_workOut q_1560 (Nat.le_of_ble_eq_true rfl) dX11_worthOf_71 rfl rfl rfl ?_
        have hF := Option.some.inj hF
        subst hF
        exact z_iret C e1 e2 dX11_worthOf_74
set_option maxRecDepth 20000 in
set_option maxHeartbeats 4000000 in
theorem J_fX11_worthOf_c6 {κ : zT} (C : zC κ RX11 cX11_worthOf 3 (some .int)) {d : Nat} (hR : zR κ = zrm (d + 1)) (hd : 5 ≤ d + 1) {N : Nat} {r : Int × zH} (e1 : zrv κ = some (.int (zi r.1))) (e2 : zhf κ = r.2) : ∀ (k : Nat) (l1 : Int) (l2 : Int) (h : zH), fX11_worthOf_c6 N k l1 l2 h = some r → Z κ h 6 [(0, .ref (zα κ 14)), (1, .int (zi l1)), (2, .int (zi l2))] [] := by
  intro k
  induction k with
  | zero => intro l1 l2 h hF; cases hF
  | succ k ih => intro l1 l2 h hF; exact J_fX11_worthOf_c6b C hR hd e1 e2 ih l1 l2 h hF
set_option maxRecDepth 20000 in
set_option maxHeartbeats 4000000 in
theorem J_fX11_worthOf {κ : zT} (C : zC κ RX11 cX11_worthOf 3 (some .int)) {d : Nat} (hR : zR κ = zrm (d + 1)) (hd : 5 ≤ d + 1) {N : Nat} {r : Int × zH} (e1 : zrv κ = some (.int (zi r.1))) (e2 : zhf κ = r.2) {a1 : Int} {h : zH} (hF : fX11_worthOf N a1 h = some r) : Z κ h 0 [(0, .ref (zα κ 14)), (1, .int (zi a1))] [] := by
  unfold fX11_worthOf at hF
  refine z_sipush (q := 3) C dX11_worthOf_0 sp_140 rfl ?_
  refine z_iload_n (q := 4) C dX11_worthOf_3 1 rfl rfl rfl ?_
  refine z_imul (q := 5) C dX11_worthOf_4 rfl ?_
  refine z_istore_n (q := 6) C dX11_worthOf_5 (by decide) rfl rfl rfl ?_
  exact z_sub (J_fX11_worthOf_c6 C hR hd e1 e2 N _ _ _ hF) [1, 2, 0] rfl
set_option maxRecDepth 20000 in
set_option maxHeartbeats 4000000 in
theorem M_fX11_worthOf {l : Launch} {D : va_G} {cy : ClassId} {α : Nat → Nat} {n : Nat} {σ : zSg} {d : Nat} (hd : 5 ≤ d) {N : Nat} {a1 : Int} {h : zH} {r : Int} {g : zH} (hF : fX11_worthOf N a1 h = some (r, g)) : zMet l yX11_worthOf cX11_worthOf 3 (some .int) (zrm d) D cy α n σ [.ref (α 14), .int (zi a1)] h (some (.int (zi r))) g := by
  obtain ⟨d, rfl⟩ : ∃ e, d = e + 1 := ⟨d - 1, by omega⟩
  refine z_met (by decide +kernel) (Nat.le_of_ble_eq_true rfl) (fun κ k1 k2 k3 k4 k5 k6 k7 k8 k9 C => ?_)
  subst k1 k3 k4 k5 k6 k7
  exact J_fX11_worthOf C k2 hd k8 k9 hF
set_option maxRecDepth 20000 in
set_option maxHeartbeats 4000000 in
theorem J_fX11_isGranted {κ : zT} (C : zC κ RX11 cX11_isGranted 4 (some .boolean)) {d : Nat} (hR : zR κ = zrm (d + 1)) (hd : 6 ≤ d + 1) {N : Nat} {r : Int × zH} (e1 : zrv κ = some (.int (zi r.1))) (e2 : zhf κ = r.2) {a1 : Int} {a2 : Int} {a3 : Int} {h : zH} (hF : fX11_isGranted N a1 a2 a3 h = some r) : Z κ h 0 [(0, .ref (zα κ 14)), (1, .int (zi a1)), (2, .int (zi a2)), (3, .int (zi a3))] [] := by
  unfold fX11_isGranted at hF
  refine z_aload_n (q := 1) C dX11_isGranted_0 0 rfl rfl rfl ?_
  refine z_getf (q := 4) C clX11 (zon C zo_14) kd_14 (k := 35) (by decide) q_1137 rfl (zfv_i kd_14 rfl) dX11_isGranted_1 rfl ?_
  refine z_iconst (q := 5) C dX11_isGranted_4 rfl ?_
  refine z_icmp_ne (tgt := 10) (q := 8) C dX11_isGranted_5 (by decide) rfl (fun c1 => ?_) (fun c1 => ?_)
  · have hF := (if_neg c1).symm.trans hF
    refine z_aload_n (q := 11) C dX11_isGranted_10 0 rfl rfl rfl ?_
    refine z_getf (q := 14) C clX11 (zon C zo_14) kd_14 (k := 15) (by decide) q_1117 rfl (zfv_r kd_14 rfl fr_14_15) dX11_isGranted_11 rfl ?_
    refine z_iconst (q := 15) C dX11_isGranted_14 rfl ?_
    refine z_aload_n (q := 16) C dX11_isGranted_15 0 rfl rfl rfl ?_
    refine z_callV (q := 19) (o := 14) (av := []) (rest := [.int (zi 0), .ref (zα κ 57)]) (stk2 := [.int (zi (fX11_time h)), .int (zi 0), .ref (zα κ 57)]) C hR clX11 (zon C zo_14) kd_14 (M_fX11_time (zlv hd rfl) rfl) mY_X11_time q_1454 (Nat.le_of_ble_eq_true rfl) dX11_isGranted_16 rfl rfl rfl ?_
    obtain ⟨h2, eh2, hF⟩ := zlet_e hF
    refine z_iastc (q := 20) (j := 0) C (zon C zo_57) kd_57 zwk_0 (by rw [ln_57]; decide) dX11_isGranted_19 rfl eh2 ?_
    refine z_aload_n (q := 21) C dX11_isGranted_20 0 rfl rfl rfl ?_
    refine z_getf (q := 24) C clX11 (zon C zo_14) kd_14 (k := 15) (by decide) q_1117 rfl (zfv_r kd_14 rfl fr_14_15) dX11_isGranted_21 rfl ?_
    refine z_iconst (q := 25) C dX11_isGranted_24 rfl ?_
    refine z_aload_n (q := 26) C dX11_isGranted_25 0 rfl rfl rfl ?_
    refine z_getf (q := 29) C clX11 (zon C zo_14) kd_14 (k := 34) (by decide) q_1136 rfl (zfv_r kd_14 rfl fr_14_34) dX11_isGranted_26 rfl ?_
    refine z_bipush (q := 31) C dX11_isGranted_29 bp_42 rfl ?_
    refine z_ialdc (q := 32) (j := 42) C (zon C zo_69) kd_69 zwk_42 (by rw [ln_69]; decide) dX11_isGranted_31 rfl ?_
    refine z_bipush (q := 34) C dX11_isGranted_32 bp_24 rfl ?_
    refine z_idiv (q := 35) C (by decide) dX11_isGranted_34 rfl ?_
    obtain ⟨h3, eh3, hF⟩ := zlet_e hF
    refine z_iastc (q := 36) (j := 1) C (zon C zo_57) kd_57 zwk_1 (by rw [ln_57]; decide) dX11_isGranted_35 rfl eh3 ?_
    refine z_aload_n (q := 37) C dX11_isGranted_36 0 rfl rfl rfl ?_
    refine z_getf (q := 40) C clX11 (zon C zo_14) kd_14 (k := 15) (by decide) q_1117 rfl (zfv_r kd_14 rfl fr_14_15) dX11_isGranted_37 rfl ?_
    refine z_iconst (q := 41) C dX11_isGranted_40 rfl ?_
    refine z_iload_n (q := 42) C dX11_isGranted_41 3 rfl rfl rfl ?_
    obtain ⟨h4, eh4, hF⟩ := zlet_e hF
    refine z_iastc (q := 43) (j := 2) C (zon C zo_57) kd_57 zwk_2 (by rw [ln_57]; decide) dX11_isGranted_42 rfl eh4 ?_
    refine z_aload_n (q := 44) C dX11_isGranted_43 0 rfl rfl rfl ?_
    refine z_getf (q := 47) C clX11 (zon C zo_14) kd_14 (k := 15) (by decide) q_1117 rfl (zfv_r kd_14 rfl fr_14_15) dX11_isGranted_44 rfl ?_
    refine z_iconst (q := 48) C dX11_isGranted_47 rfl ?_
    refine z_aload_n (q := 49) C dX11_isGranted_48 0 rfl rfl rfl ?_
    refine z_iload_n (q := 50) C dX11_isGranted_49 1 rfl rfl rfl ?_
    refine z_iconst (q := 51) C dX11_isGranted_50 rfl ?_
    obtain ⟨v5, ev5, hF⟩ := zb_e hF
    refine z_callV (q := 54) (o := 14) (av := [.int (zi a1), .int (zi 0)]) (rest := [.int (zi 3), .ref (zα κ 57)]) (stk2 := [.int (zi v5), .int (zi 3), .ref (zα κ 57)]) C hR clX11 (zon C zo_14) kd_14 (M_fX11_of (zlv hd rfl) ev5) mY_X11_of q_1430 (Nat.le_of_ble_eq_true rfl) dX11_isGranted_51 rfl rfl rfl ?_
    refine z_callS (q := 57) (av := [.int (zi v5)]) (rest := [.int (zi 3), .ref (zα κ 57)]) (stk2 := [.int (zi (fJ6_bitCount_0f7a4 v5)), .int (zi 3), .ref (zα κ 57)]) C hR (M_fJ6_bitCount_0f7a4 (zlv hd rfl) rfl) mY_J6_bitCount_0f7a4 q_1555 (Nat.le_of_ble_eq_true rfl) dX11_isGranted_54 rfl rfl rfl ?_
    obtain ⟨h6, eh6, hF⟩ := zlet_e hF
    refine z_iastc (q := 58) (j := 3) C (zon C zo_57) kd_57 zwk_3 (by rw [ln_57]; decide) dX11_isGranted_57 rfl eh6 ?_
    refine z_aload_n (q := 59) C dX11_isGranted_58 0 rfl rfl rfl ?_
    refine z_getf (q := 62) C clX11 (zon C zo_14) kd_14 (k := 15) (by decide) q_1117 rfl (zfv_r kd_14 rfl fr_14_15) dX11_isGranted_59 rfl ?_
    refine z_iconst (q := 63) C dX11_isGranted_62 rfl ?_
    refine z_iload_n (q := 64) C dX11_isGranted_63 1 rfl rfl rfl ?_
    obtain ⟨h7, eh7, hF⟩ := zlet_e hF
    refine z_iastc (q := 65) (j := 4) C (zon C zo_57) kd_57 zwk_4 (by rw [ln_57]; decide) dX11_isGranted_64 rfl eh7 ?_
    refine z_aload_n (q := 66) C dX11_isGranted_65 0 rfl rfl rfl ?_
    refine z_getf (q := 69) C clX11 (zon C zo_14) kd_14 (k := 15) (by decide) q_1117 rfl (zfv_r kd_14 rfl fr_14_15) dX11_isGranted_66 rfl ?_
    refine z_iconst (q := 70) C dX11_isGranted_69 rfl ?_
    refine z_iload_n (q := 71) C dX11_isGranted_70 2 rfl rfl rfl ?_
    obtain ⟨h8, eh8, hF⟩ := zlet_e hF
    refine z_iastc (q := 72) (j := 5) C (zon C zo_57) kd_57 zwk_5 (by rw [ln_57]; decide) dX11_isGranted_71 rfl eh8 ?_
    refine z_aload_n (q := 73) C dX11_isGranted_72 0 rfl rfl rfl ?_
    refine z_getf (q := 76) C clX11 (zon C zo_14) kd_14 (k := 15) (by decide) q_1117 rfl (zfv_r kd_14 rfl fr_14_15) dX11_isGranted_73 rfl ?_
    refine z_bipush (q := 78) C dX11_isGranted_76 bp_6 rfl ?_
    refine z_aload_n (q := 79) C dX11_isGranted_78 0 rfl rfl rfl ?_
    refine z_getf (q := 82) C clX11 (zon C zo_14) kd_14 (k := 25) (by decide) q_1127 rfl (zfv_r kd_14 rfl fr_14_25) dX11_isGranted_79 rfl ?_
    refine z_iconst (q := 83) C dX11_isGranted_82 rfl ?_
    refine z_iload_n (q := 84) C dX11_isGranted_83 1 rfl rfl rfl ?_
    refine z_imul (q := 85) C dX11_isGranted_84 rfl ?_
    refine z_iconst (q := 86) C dX11_isGranted_85 rfl ?_
    refine z_iadd (q := 87) C dX11_isGranted_86 rfl ?_
    obtain ⟨g9, hF⟩ := zif_none hF
    refine z_iald (q := 88) C (zon C zo_64) kd_64 g9.1 (by rw [ln_64]; exact g9.2) dX11_isGranted_87 rfl ?_
    obtain ⟨h10, eh10, hF⟩ := zlet_e hF
    refine z_iastc (q := 89) (j := 6) C (zon C zo_57) kd_57 zwk_6 (by rw [ln_57]; decide) dX11_isGranted_88 rfl eh10 ?_
    refine z_aload_n (q := 90) C dX11_isGranted_89 0 rfl rfl rfl ?_
    refine z_aload_n (q := 91) C dX11_isGranted_90 0 rfl rfl rfl ?_
    refine z_getf (q := 94) C clX11 (zon C zo_14) kd_14 (k := 35) (by decide) q_1137 rfl (zfv_i kd_14 rfl) dX11_isGranted_91 rfl ?_
    obtain ⟨v12, h11, ev12, hF⟩ := z2_e hF
    refine z_callV (q := 97) (o := 14) (av := [.int (zi (h10 14 35))]) (rest := []) (stk2 := [.int (zi v12)]) C hR clX11 (zon C zo_14) kd_14 (M_fX11_worthOf (zlv hd rfl) ev12) mY_X11_worthOf q_1556 (Nat.le_of_ble_eq_true rfl) dX11_isGranted_94 rfl rfl rfl ?_
    refine z_if_le (tgt := 104) (q := 100) C dX11_isGranted_97 (by decide) rfl (fun c13 => ?_) (fun c13 => ?_)
    · have hF := (if_pos c13).symm.trans hF
      refine z_iconst (q := 105) C dX11_isGranted_104 rfl ?_
      have hF := Option.some.inj hF
      subst hF
      exact z_zret C (zb01 (Or.inl rfl)) e1 e2 dX11_isGranted_105
    · have hF := (if_neg c13).symm.trans hF
      refine z_iconst (q := 101) C dX11_isGranted_100 rfl ?_
      refine z_goto (q := 105) C dX11_isGranted_101 (by decide) ?_
      have hF := Option.some.inj hF
      subst hF
      exact z_zret C (zb01 (Or.inr rfl)) e1 e2 dX11_isGranted_105
  · have hF := (if_pos c1).symm.trans hF
    refine z_iconst (q := 9) C dX11_isGranted_8 rfl ?_
    have hF := Option.some.inj hF
    subst hF
    exact z_zret C (zb01 (Or.inr rfl)) e1 e2 dX11_isGranted_9
set_option maxRecDepth 20000 in
set_option maxHeartbeats 4000000 in
theorem M_fX11_isGranted {l : Launch} {D : va_G} {cy : ClassId} {α : Nat → Nat} {n : Nat} {σ : zSg} {d : Nat} (hd : 6 ≤ d) {N : Nat} {a1 : Int} {a2 : Int} {a3 : Int} {h : zH} {r : Int} {g : zH} (hF : fX11_isGranted N a1 a2 a3 h = some (r, g)) : zMet l yX11_isGranted cX11_isGranted 4 (some .boolean) (zrm d) D cy α n σ [.ref (α 14), .int (zi a1), .int (zi a2), .int (zi a3)] h (some (.int (zi r))) g := by
  obtain ⟨d, rfl⟩ : ∃ e, d = e + 1 := ⟨d - 1, by omega⟩
  refine z_met (by decide +kernel) (Nat.le_of_ble_eq_true rfl) (fun κ k1 k2 k3 k4 k5 k6 k7 k8 k9 C => ?_)
  subst k1 k3 k4 k5 k6 k7
  exact J_fX11_isGranted C k2 hd k8 k9 hF
set_option maxRecDepth 20000 in
set_option maxHeartbeats 4000000 in
theorem J_fX11_serve_c21 {κ : zT} (C : zC κ RX11 cX11_serve 5 none) {d : Nat} (hR : zR κ = zrm (d + 1)) (hd : 7 ≤ d + 1) {N : Nat} {r : zH} (e1 : zrv κ = none) (e2 : zhf κ = r) (l1 : Int) (s0 : Int) (h : zH) (hF : fX11_serve_c21 N l1 s0 h = some r) : Z κ h 21 [(0, .ref (zα κ 14)), (1, .int (zi l1))] [.int (zi s0)] := by
  unfold fX11_serve_c21 at hF
  refine z_istore_n (q := 22) C dX11_serve_21 (by decide) rfl rfl rfl ?_
  refine z_iload_n (q := 23) C dX11_serve_22 0 rfl rfl rfl ?_
  refine z_iconst (q := 24) C dX11_serve_23 rfl ?_
  refine z_icmp_ne (tgt := 28) (q := 27) C dX11_serve_24 (by decide) rfl (fun c1 => ?_) (fun c1 => ?_)
  · have hF := (if_neg c1).symm.trans hF
    refine z_aload_n (q := 29) C dX11_serve_28 1 rfl rfl rfl ?_
    refine z_iload_n (q := 30) C dX11_serve_29 0 rfl rfl rfl ?_
    refine z_iconst (q := 31) C dX11_serve_30 rfl ?_
    refine z_aload_n (q := 32) C dX11_serve_31 1 rfl rfl rfl ?_
    refine z_iload_n (q := 33) C dX11_serve_32 0 rfl rfl rfl ?_
    refine z_iconst (q := 34) C dX11_serve_33 rfl ?_
    obtain ⟨v2, ev2, hF⟩ := zb_e hF
    refine z_callV (q := 37) (o := 14) (av := [.int (zi s0), .int (zi 3)]) (rest := [.int (zi 3), .int (zi s0), .ref (zα κ 14)]) (stk2 := [.int (zi v2), .int (zi 3), .int (zi s0), .ref (zα κ 14)]) C hR clX11 (zon C zo_14) kd_14 (M_fX11_of (zlv hd rfl) ev2) mY_X11_of q_1430 (Nat.le_of_ble_eq_true rfl) dX11_serve_34 rfl rfl rfl ?_
    refine z_iconst (q := 38) C dX11_serve_37 rfl ?_
    refine z_iadd (q := 39) C dX11_serve_38 rfl ?_
    obtain ⟨h3, eh3, hF⟩ := zb_e hF
    refine z_callV (q := 42) (o := 14) (av := [.int (zi s0), .int (zi 3), .int (zi (v2 + 1))]) (rest := []) (stk2 := []) C hR clX11 (zon C zo_14) kd_14 (M_fX11_put_ (zlv hd rfl) eh3) mY_X11_put_ q_1414 (Nat.le_of_ble_eq_true rfl) dX11_serve_39 rfl rfl rfl ?_
    refine z_aload_n (q := 43) C dX11_serve_42 1 rfl rfl rfl ?_
    refine z_iload_n (q := 44) C dX11_serve_43 0 rfl rfl rfl ?_
    refine z_iconst (q := 45) C dX11_serve_44 rfl ?_
    obtain ⟨v4, ev4, hF⟩ := zb_e hF
    refine z_callV (q := 48) (o := 14) (av := [.int (zi s0), .int (zi 3)]) (rest := []) (stk2 := [.int (zi v4)]) C hR clX11 (zon C zo_14) kd_14 (M_fX11_of (zlv hd rfl) ev4) mY_X11_of q_1430 (Nat.le_of_ble_eq_true rfl) dX11_serve_45 rfl rfl rfl ?_
    refine z_aload_n (q := 49) C dX11_serve_48 1 rfl rfl rfl ?_
    refine z_getf (q := 52) C clX11 (zon C zo_14) kd_14 (k := 26) (by decide) q_1128 rfl (zfv_r kd_14 rfl fr_14_26) dX11_serve_49 rfl ?_
    refine z_iconst (q := 53) C dX11_serve_52 rfl ?_
    refine z_iload_n (q := 54) C dX11_serve_53 2 rfl rfl rfl ?_
    refine z_imul (q := 55) C dX11_serve_54 rfl ?_
    refine z_iconst (q := 56) C dX11_serve_55 rfl ?_
    refine z_iadd (q := 57) C dX11_serve_56 rfl ?_
    obtain ⟨g5, hF⟩ := zif_none hF
    refine z_iald (q := 58) C (zon C zo_65) kd_65 g5.1 (by rw [ln_65]; exact g5.2) dX11_serve_57 rfl ?_
    refine z_icmp_ne (tgt := 149) (q := 61) C dX11_serve_58 (by decide) rfl (fun c6 => ?_) (fun c6 => ?_)
    · have hF := (if_neg c6).symm.trans hF
      have hF := Option.some.inj hF
      subst hF
      exact z_vret C e1 e2 dX11_serve_149
    · have hF := (if_pos c6).symm.trans hF
      refine z_aload_n (q := 62) C dX11_serve_61 1 rfl rfl rfl ?_
      refine z_iload_n (q := 63) C dX11_serve_62 0 rfl rfl rfl ?_
      refine z_iconst (q := 64) C dX11_serve_63 rfl ?_
      obtain ⟨v7, ev7, hF⟩ := zb_e hF
      refine z_callV (q := 67) (o := 14) (av := [.int (zi s0), .int (zi 1)]) (rest := []) (stk2 := [.int (zi v7)]) C hR clX11 (zon C zo_14) kd_14 (M_fX11_of (zlv hd rfl) ev7) mY_X11_of q_1430 (Nat.le_of_ble_eq_true rfl) dX11_serve_64 rfl rfl rfl ?_
      refine z_istore_n (q := 68) C dX11_serve_67 (by decide) rfl rfl rfl ?_
      refine z_aload_n (q := 69) C dX11_serve_68 2 rfl rfl rfl ?_
      refine z_iload_n (q := 70) C dX11_serve_69 3 rfl rfl rfl ?_
      obtain ⟨v8, ev8, hF⟩ := zb_e hF
      refine z_callV (q := 73) (o := 14) (av := [.int (zi l1)]) (rest := []) (stk2 := [.int (zi v8)]) C hR clX11 (zon C zo_14) kd_14 (M_fX11_backlog (zlv hd rfl) ev8) mY_X11_backlog q_1438 (Nat.le_of_ble_eq_true rfl) dX11_serve_70 rfl rfl rfl ?_
      refine z_istore (q := 75) C dX11_serve_73 (by decide) rfl rfl ?_
      refine z_aload_n (q := 76) C dX11_serve_75 3 rfl rfl rfl ?_
      refine z_iload_n (q := 77) C dX11_serve_76 2 rfl rfl rfl ?_
      obtain ⟨h9, eh9, hF⟩ := zb_e hF
      refine z_callV (q := 80) (o := 14) (av := [.int (zi s0)]) (rest := []) (stk2 := []) C hR clX11 (zon C zo_14) kd_14 (M_fX11_goAway (zlv hd rfl) eh9) mY_X11_goAway q_1506 (Nat.le_of_ble_eq_true rfl) dX11_serve_77 rfl rfl rfl ?_
      refine z_aload_n (q := 81) C dX11_serve_80 3 rfl rfl rfl ?_
      refine z_iload_n (q := 82) C dX11_serve_81 2 rfl rfl rfl ?_
      refine z_iconst (q := 83) C dX11_serve_82 rfl ?_
      refine z_aload_n (q := 84) C dX11_serve_83 3 rfl rfl rfl ?_
      refine z_iload_n (q := 85) C dX11_serve_84 2 rfl rfl rfl ?_
      refine z_iconst (q := 86) C dX11_serve_85 rfl ?_
      obtain ⟨v10, ev10, hF⟩ := zb_e hF
      refine z_callV (q := 89) (o := 14) (av := [.int (zi s0), .int (zi 5)]) (rest := [.int (zi 5), .int (zi s0), .ref (zα κ 14)]) (stk2 := [.int (zi v10), .int (zi 5), .int (zi s0), .ref (zα κ 14)]) C hR clX11 (zon C zo_14) kd_14 (M_fX11_of (zlv hd rfl) ev10) mY_X11_of q_1430 (Nat.le_of_ble_eq_true rfl) dX11_serve_86 rfl rfl rfl ?_
      refine z_aload_n (q := 90) C dX11_serve_89 3 rfl rfl rfl ?_
      refine z_getf (q := 93) C clX11 (zon C zo_14) kd_14 (k := 26) (by decide) q_1128 rfl (zfv_r kd_14 rfl fr_14_26) dX11_serve_90 rfl ?_
      refine z_iconst (q := 94) C dX11_serve_93 rfl ?_
      refine z_iload_n (q := 95) C dX11_serve_94 4 rfl rfl rfl ?_
      refine z_imul (q := 96) C dX11_serve_95 rfl ?_
      refine z_iconst (q := 97) C dX11_serve_96 rfl ?_
      refine z_iadd (q := 98) C dX11_serve_97 rfl ?_
      obtain ⟨g11, hF⟩ := zif_none hF
      refine z_iald (q := 99) C (zon C zo_65) kd_65 g11.1 (by rw [ln_65]; exact g11.2) dX11_serve_98 rfl ?_
      refine z_iadd (q := 100) C dX11_serve_99 rfl ?_
      obtain ⟨h12, eh12, hF⟩ := zb_e hF
      refine z_callV (q := 103) (o := 14) (av := [.int (zi s0), .int (zi 5), .int (zi (v10 + (h9 65 (zw ((4 * l1) + 3)).toNat)))]) (rest := []) (stk2 := []) C hR clX11 (zon C zo_14) kd_14 (M_fX11_put_ (zlv hd rfl) eh12) mY_X11_put_ q_1414 (Nat.le_of_ble_eq_true rfl) dX11_serve_100 rfl rfl rfl ?_
      refine z_aload_n (q := 104) C dX11_serve_103 3 rfl rfl rfl ?_
      refine z_iload_n (q := 105) C dX11_serve_104 2 rfl rfl rfl ?_
      refine z_iload_n (q := 106) C dX11_serve_105 1 rfl rfl rfl ?_
      refine z_iload (q := 108) C dX11_serve_106 0 rfl rfl ?_
      obtain ⟨v14, h13, ev14, hF⟩ := z2_e hF
      refine z_callV (q := 111) (o := 14) (av := [.int (zi s0), .int (zi v7), .int (zi v8)]) (rest := []) (stk2 := [.int (zi v14)]) C hR clX11 (zon C zo_14) kd_14 (M_fX11_isGranted (zlv hd rfl) ev14) mY_X11_isGranted q_1551 (Nat.le_of_ble_eq_true rfl) dX11_serve_108 rfl rfl rfl ?_
      refine z_if_eq (tgt := 133) (q := 114) C dX11_serve_111 (by decide) rfl (fun c15 => ?_) (fun c15 => ?_)
      · have hF := (if_pos c15).symm.trans hF
        refine z_aload_n (q := 134) C dX11_serve_133 3 rfl rfl rfl ?_
        refine z_iload_n (q := 135) C dX11_serve_134 2 rfl rfl rfl ?_
        refine z_bipush (q := 137) C dX11_serve_135 bp_6 rfl ?_
        refine z_aload_n (q := 138) C dX11_serve_137 3 rfl rfl rfl ?_
        refine z_iload_n (q := 139) C dX11_serve_138 2 rfl rfl rfl ?_
        refine z_bipush (q := 141) C dX11_serve_139 bp_6 rfl ?_
        obtain ⟨v16, ev16, hF⟩ := zb_e hF
        refine z_callV (q := 144) (o := 14) (av := [.int (zi s0), .int (zi 6)]) (rest := [.int (zi 6), .int (zi s0), .ref (zα κ 14)]) (stk2 := [.int (zi v16), .int (zi 6), .int (zi s0), .ref (zα κ 14)]) C hR clX11 (zon C zo_14) kd_14 (M_fX11_of (zlv hd rfl) ev16) mY_X11_of q_1430 (Nat.le_of_ble_eq_true rfl) dX11_serve_141 rfl rfl rfl ?_
        refine z_iconst (q := 145) C dX11_serve_144 rfl ?_
        refine z_iadd (q := 146) C dX11_serve_145 rfl ?_
        obtain ⟨h17, eh17, hF⟩ := zb_e hF
        refine z_callV (q := 149) (o := 14) (av := [.int (zi s0), .int (zi 6), .int (zi (v16 + 1))]) (rest := []) (stk2 := []) C hR clX11 (zon C zo_14) kd_14 (M_fX11_put_ (zlv hd rfl) eh17) mY_X11_put_ q_1414 (Nat.le_of_ble_eq_true rfl) dX11_serve_146 rfl rfl rfl ?_
        have hF := Option.some.inj hF
        subst hF
        exact z_vret C e1 e2 dX11_serve_149
      · have hF := (if_neg c15).symm.trans hF
        refine z_aload_n (q := 115) C dX11_serve_114 3 rfl rfl rfl ?_
        refine z_iload_n (q := 116) C dX11_serve_115 2 rfl rfl rfl ?_
        refine z_iconst (q := 117) C dX11_serve_116 rfl ?_
        refine z_aload_n (q := 118) C dX11_serve_117 3 rfl rfl rfl ?_
        refine z_iload_n (q := 119) C dX11_serve_118 2 rfl rfl rfl ?_
        refine z_iconst (q := 120) C dX11_serve_119 rfl ?_
        obtain ⟨v18, ev18, hF⟩ := zb_e hF
        refine z_callV (q := 123) (o := 14) (av := [.int (zi s0), .int (zi 0)]) (rest := [.int (zi 0), .int (zi s0), .ref (zα κ 14)]) (stk2 := [.int (zi v18), .int (zi 0), .int (zi s0), .ref (zα κ 14)]) C hR clX11 (zon C zo_14) kd_14 (M_fX11_of (zlv hd rfl) ev18) mY_X11_of q_1430 (Nat.le_of_ble_eq_true rfl) dX11_serve_120 rfl rfl rfl ?_
        refine z_iconst (q := 124) C dX11_serve_123 rfl ?_
        refine z_iload_n (q := 125) C dX11_serve_124 1 rfl rfl rfl ?_
        refine z_ishl (q := 126) C dX11_serve_125 rfl ?_
        refine z_ior (q := 127) C dX11_serve_126 rfl ?_
        obtain ⟨h19, eh19, hF⟩ := zb_e hF
        refine z_callV (q := 130) (o := 14) (av := [.int (zi s0), .int (zi 0), .int (zi (zor v18 (zshl 1 v7)))]) (rest := []) (stk2 := []) C hR clX11 (zon C zo_14) kd_14 (M_fX11_put_ (zlv hd rfl) eh19) mY_X11_put_ q_1414 (Nat.le_of_ble_eq_true rfl) dX11_serve_127 rfl rfl rfl ?_
        refine z_goto (q := 149) C dX11_serve_130 (by decide) ?_
        have hF := Option.some.inj hF
        subst hF
        exact z_vret C e1 e2 dX11_serve_149
  · have hF := (if_pos c1).symm.trans hF
    have hF := Option.some.inj hF
    subst hF
    exact z_vret C e1 e2 dX11_serve_27
set_option maxRecDepth 20000 in
set_option maxHeartbeats 4000000 in
theorem J_fX11_serve {κ : zT} (C : zC κ RX11 cX11_serve 5 none) {d : Nat} (hR : zR κ = zrm (d + 1)) (hd : 7 ≤ d + 1) {N : Nat} {r : zH} (e1 : zrv κ = none) (e2 : zhf κ = r) {a1 : Int} {h : zH} (hF : fX11_serve N a1 h = some r) : Z κ h 0 [(0, .ref (zα κ 14)), (1, .int (zi a1))] [] := by
  unfold fX11_serve at hF
  refine z_aload_n (q := 1) C dX11_serve_0 0 rfl rfl rfl ?_
  refine z_iload_n (q := 2) C dX11_serve_1 1 rfl rfl rfl ?_
  refine z_aload_n (q := 3) C dX11_serve_2 0 rfl rfl rfl ?_
  refine z_callV (q := 6) (o := 14) (av := []) (rest := [.int (zi a1), .ref (zα κ 14)]) (stk2 := [.int (zi (fX11_time h)), .int (zi a1), .ref (zα κ 14)]) C hR clX11 (zon C zo_14) kd_14 (M_fX11_time (zlv hd rfl) rfl) mY_X11_time q_1454 (Nat.le_of_ble_eq_true rfl) dX11_serve_3 rfl rfl rfl ?_
  obtain ⟨v1, ev1, hF⟩ := zb_e hF
  refine z_callV (q := 9) (o := 14) (av := [.int (zi a1), .int (zi (fX11_time h))]) (rest := []) (stk2 := [.int (zi v1)]) C hR clX11 (zon C zo_14) kd_14 (M_fX11_isOpen (zlv hd rfl) ev1) mY_X11_isOpen q_1458 (Nat.le_of_ble_eq_true rfl) dX11_serve_6 rfl rfl rfl ?_
  refine z_if_eq (tgt := 20) (q := 12) C dX11_serve_9 (by decide) rfl (fun c2 => ?_) (fun c2 => ?_)
  · have hF := (if_pos c2).symm.trans hF
    refine z_iconst (q := 21) C dX11_serve_20 rfl ?_
    exact z_sub (J_fX11_serve_c21 C hR hd e1 e2 _ _ _ hF) [0, 1] rfl
  · have hF := (if_neg c2).symm.trans hF
    refine z_aload_n (q := 13) C dX11_serve_12 0 rfl rfl rfl ?_
    refine z_iload_n (q := 14) C dX11_serve_13 1 rfl rfl rfl ?_
    obtain ⟨v3, ev3, hF⟩ := zb_e hF
    refine z_callV (q := 17) (o := 14) (av := [.int (zi a1)]) (rest := []) (stk2 := [.int (zi v3)]) C hR clX11 (zon C zo_14) kd_14 (M_fX11_firstAt (zlv hd rfl) ev3) mY_X11_firstAt q_1450 (Nat.le_of_ble_eq_true rfl) dX11_serve_14 rfl rfl rfl ?_
    refine z_goto (q := 21) C dX11_serve_17 (by decide) ?_
    exact z_sub (J_fX11_serve_c21 C hR hd e1 e2 _ _ _ hF) [0, 1] rfl
set_option maxRecDepth 20000 in
set_option maxHeartbeats 4000000 in
theorem M_fX11_serve {l : Launch} {D : va_G} {cy : ClassId} {α : Nat → Nat} {n : Nat} {σ : zSg} {d : Nat} (hd : 7 ≤ d) {N : Nat} {a1 : Int} {h : zH} {g : zH} (hF : fX11_serve N a1 h = some g) : zMet l yX11_serve cX11_serve 5 none (zrm d) D cy α n σ [.ref (α 14), .int (zi a1)] h (none) g := by
  obtain ⟨d, rfl⟩ : ∃ e, d = e + 1 := ⟨d - 1, by omega⟩
  refine z_met (by decide +kernel) (Nat.le_of_ble_eq_true rfl) (fun κ k1 k2 k3 k4 k5 k6 k7 k8 k9 C => ?_)
  subst k1 k3 k4 k5 k6 k7
  exact J_fX11_serve C k2 hd k8 k9 hF
set_option maxRecDepth 20000 in
set_option maxHeartbeats 4000000 in
theorem J_fX11_pass_c14b {κ : zT} (C : zC κ RX11 cX11_pass 3 none) {d : Nat} (hR : zR κ = zrm (d + 1)) (hd : 8 ≤ d + 1) {N : Nat} {r : zH} (e1 : zrv κ = none) (e2 : zhf κ = r) {K14 : Int → zH → Option zH} (hK14 : ∀ (l2 : Int) (h : zH), K14 l2 h = some r → Z κ h 14 [(0, .ref (zα κ 14)), (2, .int (zi l2))] []) (l2 : Int) (h : zH) (hF : fX11_pass_c14b N K14 l2 h = some r) : Z κ h 14 [(0, .ref (zα κ 14)), (2, .int (zi l2))] [] := by
  unfold fX11_pass_c14b at hF
  refine z_iload_n (q := 15) C dX11_pass_14 1 rfl rfl rfl ?_
  refine z_aload_n (q := 16) C dX11_pass_15 0 rfl rfl rfl ?_
  refine z_getf (q := 19) C clX11 (zon C zo_14) kd_14 (k := 29) (by decide) q_1131 rfl (zfv_i kd_14 rfl) dX11_pass_16 rfl ?_
  refine z_icmp_ge (tgt := 33) (q := 22) C dX11_pass_19 (by decide) rfl (fun c1 => ?_) (fun c1 => ?_)
  · have hF := (if_pos c1).symm.trans hF
    refine z_aload_n (q := 34) C dX11_pass_33 0 rfl rfl rfl ?_
    refine z_getf (q := 37) C clX11 (zon C zo_14) kd_14 (k := 34) (by decide) q_1136 rfl (zfv_r kd_14 rfl fr_14_34) dX11_pass_34 rfl ?_
    refine z_bipush (q := 39) C dX11_pass_37 bp_42 rfl ?_
    refine z_dup2 (q := 40) C dX11_pass_39 rfl rfl rfl ?_
    refine z_ialdc (q := 41) (j := 42) C (zon C zo_69) kd_69 zwk_42 (by rw [ln_69]; decide) dX11_pass_40 rfl ?_
    refine z_iconst (q := 42) C dX11_pass_41 rfl ?_
    refine z_iadd (q := 43) C dX11_pass_42 rfl ?_
    obtain ⟨h2, eh2, hF⟩ := zlet_e hF
    refine z_iastc (q := 44) (j := 42) C (zon C zo_69) kd_69 zwk_42 (by rw [ln_69]; decide) dX11_pass_43 rfl eh2 ?_
    have hF := Option.some.inj hF
    subst hF
    exact z_vret C e1 e2 dX11_pass_44
  · have hF := (if_neg c1).symm.trans hF
    refine z_aload_n (q := 23) C dX11_pass_22 0 rfl rfl rfl ?_
    refine z_iload_n (q := 24) C dX11_pass_23 1 rfl rfl rfl ?_
    obtain ⟨h3, eh3, hF⟩ := zb_e hF
    refine z_callV (q := 27) (o := 14) (av := [.int (zi l2)]) (rest := []) (stk2 := []) C hR clX11 (zon C zo_14) kd_14 (M_fX11_serve (zlv hd rfl) eh3) mY_X11_serve q_1547 (Nat.le_of_ble_eq_true rfl) dX11_pass_24 rfl rfl rfl ?_
    refine z_iinc (q := 30) (x := l2) C dX11_pass_27 (j := 1) rfl (by decide) rfl rfl ?_
    refine z_goto (q := 14) C dX11_pass_30 (by decide) ?_
    exact z_sub (hK14 _ _ hF) [1, 0] rfl
set_option maxRecDepth 20000 in
set_option maxHeartbeats 4000000 in
theorem J_fX11_pass_c14 {κ : zT} (C : zC κ RX11 cX11_pass 3 none) {d : Nat} (hR : zR κ = zrm (d + 1)) (hd : 8 ≤ d + 1) {N : Nat} {r : zH} (e1 : zrv κ = none) (e2 : zhf κ = r) : ∀ (k : Nat) (l2 : Int) (h : zH), fX11_pass_c14 N k l2 h = some r → Z κ h 14 [(0, .ref (zα κ 14)), (2, .int (zi l2))] [] := by
  intro k
  induction k with
  | zero => intro l2 h hF; cases hF
  | succ k ih => intro l2 h hF; exact J_fX11_pass_c14b C hR hd e1 e2 ih l2 h hF
set_option maxRecDepth 20000 in
set_option maxHeartbeats 4000000 in
theorem J_fX11_pass {κ : zT} (C : zC κ RX11 cX11_pass 3 none) {d : Nat} (hR : zR κ = zrm (d + 1)) (hd : 8 ≤ d + 1) {N : Nat} {r : zH} (e1 : zrv κ = none) (e2 : zhf κ = r) {a1 : Int} {h : zH} (hF : fX11_pass N a1 h = some r) : Z κ h 0 [(0, .ref (zα κ 14)), (1, .int (zi a1))] [] := by
  unfold fX11_pass at hF
  refine z_aload_n (q := 1) C dX11_pass_0 0 rfl rfl rfl ?_
  refine z_callV (q := 4) (o := 14) (av := []) (rest := []) (stk2 := [.int (zi (fX11_isDawn h))]) C hR clX11 (zon C zo_14) kd_14 (M_fX11_isDawn (zlv hd rfl) rfl) mY_X11_isDawn q_1522 (Nat.le_of_ble_eq_true rfl) dX11_pass_1 rfl rfl rfl ?_
  refine z_if_eq (tgt := 12) (q := 7) C dX11_pass_4 (by decide) rfl (fun c1 => ?_) (fun c1 => ?_)
  · have hF := (if_pos c1).symm.trans hF
    refine z_iconst (q := 13) C dX11_pass_12 rfl ?_
    refine z_istore_n (q := 14) C dX11_pass_13 (by decide) rfl rfl rfl ?_
    exact z_sub (J_fX11_pass_c14 C hR hd e1 e2 N _ _ hF) [1, 0] rfl
  · have hF := (if_neg c1).symm.trans hF
    refine z_aload_n (q := 8) C dX11_pass_7 0 rfl rfl rfl ?_
    refine z_iload_n (q := 9) C dX11_pass_8 1 rfl rfl rfl ?_
    obtain ⟨h2, eh2, hF⟩ := zb_e hF
    refine z_callV (q := 12) (o := 14) (av := [.int (zi a1)]) (rest := []) (stk2 := []) C hR clX11 (zon C zo_14) kd_14 (M_fX11_dawn (zlv hd rfl) eh2) mY_X11_dawn q_1526 (Nat.le_of_ble_eq_true rfl) dX11_pass_9 rfl rfl rfl ?_
    refine z_iconst (q := 13) C dX11_pass_12 rfl ?_
    refine z_istore_n (q := 14) C dX11_pass_13 (by decide) rfl rfl rfl ?_
    exact z_sub (J_fX11_pass_c14 C hR hd e1 e2 N _ _ hF) [1, 0] rfl
set_option maxRecDepth 20000 in
set_option maxHeartbeats 4000000 in
theorem M_fX11_pass {l : Launch} {D : va_G} {cy : ClassId} {α : Nat → Nat} {n : Nat} {σ : zSg} {d : Nat} (hd : 8 ≤ d) {N : Nat} {a1 : Int} {h : zH} {g : zH} (hF : fX11_pass N a1 h = some g) : zMet l yX11_pass cX11_pass 3 none (zrm d) D cy α n σ [.ref (α 14), .int (zi a1)] h (none) g := by
  obtain ⟨d, rfl⟩ : ∃ e, d = e + 1 := ⟨d - 1, by omega⟩
  refine z_met (by decide +kernel) (Nat.le_of_ble_eq_true rfl) (fun κ k1 k2 k3 k4 k5 k6 k7 k8 k9 C => ?_)
  subst k1 k3 k4 k5 k6 k7
  exact J_fX11_pass C k2 hd k8 k9 hF
set_option maxRecDepth 20000 in
set_option maxHeartbeats 4000000 in
theorem J_fX11_go_c15b {κ : zT} (C : zC κ RX11 cX11_go 3 (some .int)) {d : Nat} (hR : zR κ = zrm (d + 1)) (hd : 9 ≤ d + 1) {N : Nat} {r : Int × zH} (e1 : zrv κ = some (.int (zi r.1))) (e2 : zhf κ = r.2) {K15 : Int → Int → zH → Option (Int × zH)} (hK15 : ∀ (l1 : Int) (l2 : Int) (h : zH), K15 l1 l2 h = some r → Z κ h 15 [(0, .ref (zα κ 14)), (1, .int (zi l1)), (2, .int (zi l2))] []) (l1 : Int) (l2 : Int) (h : zH) (hF : fX11_go_c15b N K15 l1 l2 h = some r) : Z κ h 15 [(0, .ref (zα κ 14)), (1, .int (zi l1)), (2, .int (zi l2))] [] := by
  unfold fX11_go_c15b at hF
  refine z_iload_n (q := 16) C dX11_go_15 2 rfl rfl rfl ?_
  refine z_iload_n (q := 17) C dX11_go_16 1 rfl rfl rfl ?_
  refine z_icmp_ge (tgt := 35) (q := 20) C dX11_go_17 (by decide) rfl (fun c1 => ?_) (fun c1 => ?_)
  · have hF := (if_pos c1).symm.trans hF
    refine z_aload_n (q := 36) C dX11_go_35 0 rfl rfl rfl ?_
    refine z_getf (q := 39) C clX11 (zon C zo_14) kd_14 (k := 34) (by decide) q_1136 rfl (zfv_r kd_14 rfl fr_14_34) dX11_go_36 rfl ?_
    refine z_bipush (q := 41) C dX11_go_39 bp_42 rfl ?_
    refine z_ialdc (q := 42) (j := 42) C (zon C zo_69) kd_69 zwk_42 (by rw [ln_69]; decide) dX11_go_41 rfl ?_
    have hF := Option.some.inj hF
    subst hF
    exact z_iret C e1 e2 dX11_go_42
  · have hF := (if_neg c1).symm.trans hF
    refine z_aload_n (q := 21) C dX11_go_20 0 rfl rfl rfl ?_
    obtain ⟨h2, eh2, hF⟩ := zb_e hF
    refine z_callV (q := 24) (o := 14) (av := []) (rest := []) (stk2 := []) C hR clX11 (zon C zo_14) kd_14 (M_fX11_keep (zlv hd rfl) eh2) mY_X11_keep q_1490 (Nat.le_of_ble_eq_true rfl) dX11_go_21 rfl rfl rfl ?_
    refine z_aload_n (q := 25) C dX11_go_24 0 rfl rfl rfl ?_
    refine z_iconst (q := 26) C dX11_go_25 rfl ?_
    obtain ⟨h3, eh3, hF⟩ := zb_e hF
    refine z_callV (q := 29) (o := 14) (av := [.int (zi 0)]) (rest := []) (stk2 := []) C hR clX11 (zon C zo_14) kd_14 (M_fX11_pass (zlv hd rfl) eh3) mY_X11_pass q_1518 (Nat.le_of_ble_eq_true rfl) dX11_go_26 rfl rfl rfl ?_
    refine z_iinc (q := 32) (x := l2) C dX11_go_29 (j := 2) rfl (by decide) rfl rfl ?_
    refine z_goto (q := 15) C dX11_go_32 (by decide) ?_
    exact z_sub (hK15 _ _ _ hF) [1, 2, 0] rfl
set_option maxRecDepth 20000 in
set_option maxHeartbeats 4000000 in
theorem J_fX11_go_c15 {κ : zT} (C : zC κ RX11 cX11_go 3 (some .int)) {d : Nat} (hR : zR κ = zrm (d + 1)) (hd : 9 ≤ d + 1) {N : Nat} {r : Int × zH} (e1 : zrv κ = some (.int (zi r.1))) (e2 : zhf κ = r.2) : ∀ (k : Nat) (l1 : Int) (l2 : Int) (h : zH), fX11_go_c15 N k l1 l2 h = some r → Z κ h 15 [(0, .ref (zα κ 14)), (1, .int (zi l1)), (2, .int (zi l2))] [] := by
  intro k
  induction k with
  | zero => intro l1 l2 h hF; cases hF
  | succ k ih => intro l1 l2 h hF; exact J_fX11_go_c15b C hR hd e1 e2 ih l1 l2 h hF
set_option maxRecDepth 20000 in
set_option maxHeartbeats 4000000 in
theorem J_fX11_go {κ : zT} (C : zC κ RX11 cX11_go 3 (some .int)) {d : Nat} (hR : zR κ = zrm (d + 1)) (hd : 9 ≤ d + 1) {N : Nat} {r : Int × zH} (e1 : zrv κ = some (.int (zi r.1))) (e2 : zhf κ = r.2) {a1 : Int} {h : zH} (hF : fX11_go N a1 h = some r) : Z κ h 0 [(0, .ref (zα κ 14)), (1, .int (zi a1))] [] := by
  unfold fX11_go at hF
  refine z_aload_n (q := 1) C dX11_go_0 0 rfl rfl rfl ?_
  refine z_iload_n (q := 2) C dX11_go_1 1 rfl rfl rfl ?_
  refine z_sipush (q := 5) C dX11_go_2 sp_240 rfl ?_
  refine z_callV (q := 8) (o := 14) (av := [.int (zi a1), .int (zi 240)]) (rest := []) (stk2 := [.int (zi (fX11_areHours a1 240 h))]) C hR clX11 (zon C zo_14) kd_14 (M_fX11_areHours (zlv hd rfl) rfl) mY_X11_areHours q_1514 (Nat.le_of_ble_eq_true rfl) dX11_go_5 rfl rfl rfl ?_
  refine z_if_ne (tgt := 13) (q := 11) C dX11_go_8 (by decide) rfl (fun c1 => ?_) (fun c1 => ?_)
  · have hF := (if_neg c1).symm.trans hF
    refine z_iconst (q := 14) C dX11_go_13 rfl ?_
    refine z_istore_n (q := 15) C dX11_go_14 (by decide) rfl rfl rfl ?_
    exact z_sub (J_fX11_go_c15 C hR hd e1 e2 N _ _ _ hF) [1, 2, 0] rfl
  · have hF := (if_pos c1).symm.trans hF
    refine z_iconst (q := 12) C dX11_go_11 rfl ?_
    have hF := Option.some.inj hF
    subst hF
    exact z_iret C e1 e2 dX11_go_12
set_option maxRecDepth 20000 in
set_option maxHeartbeats 4000000 in
theorem M_fX11_go {l : Launch} {D : va_G} {cy : ClassId} {α : Nat → Nat} {n : Nat} {σ : zSg} {d : Nat} (hd : 9 ≤ d) {N : Nat} {a1 : Int} {h : zH} {r : Int} {g : zH} (hF : fX11_go N a1 h = some (r, g)) : zMet l yX11_go cX11_go 3 (some .int) (zrm d) D cy α n σ [.ref (α 14), .int (zi a1)] h (some (.int (zi r))) g := by
  obtain ⟨d, rfl⟩ : ∃ e, d = e + 1 := ⟨d - 1, by omega⟩
  refine z_met (by decide +kernel) (Nat.le_of_ble_eq_true rfl) (fun κ k1 k2 k3 k4 k5 k6 k7 k8 k9 C => ?_)
  subst k1 k3 k4 k5 k6 k7
  exact J_fX11_go C k2 hd k8 k9 hF
set_option maxRecDepth 20000 in
set_option maxHeartbeats 4000000 in
theorem J_fX11_undo_c21b {κ : zT} (C : zC κ RX11 cX11_undo 2 (some .int)) {d : Nat} (hR : zR κ = zrm (d + 1)) (hd : 1 ≤ d + 1) {N : Nat} {r : Int × zH} (e1 : zrv κ = some (.int (zi r.1))) (e2 : zhf κ = r.2) {K21 : Int → zH → Option (Int × zH)} (hK21 : ∀ (l1 : Int) (h : zH), K21 l1 h = some r → Z κ h 21 [(0, .ref (zα κ 14)), (1, .int (zi l1))] []) (l1 : Int) (h : zH) (hF : fX11_undo_c21b N K21 l1 h = some r) : Z κ h 21 [(0, .ref (zα κ 14)), (1, .int (zi l1))] [] := by
  unfold fX11_undo_c21b at hF
  refine z_iload_n (q := 22) C dX11_undo_21 1 rfl rfl rfl ?_
  refine z_sipush (q := 25) C dX11_undo_22 sp_165 rfl ?_
  refine z_icmp_ge (tgt := 55) (q := 28) C dX11_undo_25 (by decide) rfl (fun c1 => ?_) (fun c1 => ?_)
  · have hF := (if_pos c1).symm.trans hF
    refine z_aload_n (q := 56) C dX11_undo_55 0 rfl rfl rfl ?_
    refine z_getf (q := 59) C clX11 (zon C zo_14) kd_14 (k := 38) (by decide) q_1140 rfl (zfv_i kd_14 rfl) dX11_undo_56 rfl ?_
    have hF := Option.some.inj hF
    subst hF
    exact z_iret C e1 e2 dX11_undo_59
  · have hF := (if_neg c1).symm.trans hF
    refine z_aload_n (q := 29) C dX11_undo_28 0 rfl rfl rfl ?_
    refine z_getf (q := 32) C clX11 (zon C zo_14) kd_14 (k := 34) (by decide) q_1136 rfl (zfv_r kd_14 rfl fr_14_34) dX11_undo_29 rfl ?_
    refine z_iload_n (q := 33) C dX11_undo_32 1 rfl rfl rfl ?_
    refine z_aload_n (q := 34) C dX11_undo_33 0 rfl rfl rfl ?_
    refine z_getf (q := 37) C clX11 (zon C zo_14) kd_14 (k := 37) (by decide) q_1139 rfl (zfv_r kd_14 rfl fr_14_37) dX11_undo_34 rfl ?_
    refine z_sipush (q := 40) C dX11_undo_37 sp_165 rfl ?_
    refine z_aload_n (q := 41) C dX11_undo_40 0 rfl rfl rfl ?_
    refine z_getf (q := 44) C clX11 (zon C zo_14) kd_14 (k := 38) (by decide) q_1140 rfl (zfv_i kd_14 rfl) dX11_undo_41 rfl ?_
    refine z_imul (q := 45) C dX11_undo_44 rfl ?_
    refine z_iload_n (q := 46) C dX11_undo_45 1 rfl rfl rfl ?_
    refine z_iadd (q := 47) C dX11_undo_46 rfl ?_
    obtain ⟨g2, hF⟩ := zif_none hF
    refine z_iald (q := 48) C (zon C zo_70) kd_70 g2.1 (by rw [ln_70]; exact g2.2) dX11_undo_47 rfl ?_
    obtain ⟨g3, hF⟩ := zif_none hF
    obtain ⟨h4, eh4, hF⟩ := zlet_e hF
    refine z_iast (q := 49) C (zon C zo_69) kd_69 g3.1 (by rw [ln_69]; exact g3.2) dX11_undo_48 rfl eh4 ?_
    refine z_iinc (q := 52) (x := l1) C dX11_undo_49 (j := 1) rfl (by decide) rfl rfl ?_
    refine z_goto (q := 21) C dX11_undo_52 (by decide) ?_
    exact z_sub (hK21 _ _ hF) [1, 0] rfl
set_option maxRecDepth 20000 in
set_option maxHeartbeats 4000000 in
theorem J_fX11_undo_c21 {κ : zT} (C : zC κ RX11 cX11_undo 2 (some .int)) {d : Nat} (hR : zR κ = zrm (d + 1)) (hd : 1 ≤ d + 1) {N : Nat} {r : Int × zH} (e1 : zrv κ = some (.int (zi r.1))) (e2 : zhf κ = r.2) : ∀ (k : Nat) (l1 : Int) (h : zH), fX11_undo_c21 N k l1 h = some r → Z κ h 21 [(0, .ref (zα κ 14)), (1, .int (zi l1))] [] := by
  intro k
  induction k with
  | zero => intro l1 h hF; cases hF
  | succ k ih => intro l1 h hF; exact J_fX11_undo_c21b C hR hd e1 e2 ih l1 h hF
set_option maxRecDepth 20000 in
set_option maxHeartbeats 4000000 in
theorem J_fX11_undo {κ : zT} (C : zC κ RX11 cX11_undo 2 (some .int)) {d : Nat} (hR : zR κ = zrm (d + 1)) (hd : 1 ≤ d + 1) {N : Nat} {r : Int × zH} (e1 : zrv κ = some (.int (zi r.1))) (e2 : zhf κ = r.2) {h : zH} (hF : fX11_undo N h = some r) : Z κ h 0 [(0, .ref (zα κ 14))] [] := by
  unfold fX11_undo at hF
  refine z_aload_n (q := 1) C dX11_undo_0 0 rfl rfl rfl ?_
  refine z_getf (q := 4) C clX11 (zon C zo_14) kd_14 (k := 38) (by decide) q_1140 rfl (zfv_i kd_14 rfl) dX11_undo_1 rfl ?_
  refine z_if_ne (tgt := 9) (q := 7) C dX11_undo_4 (by decide) rfl (fun c1 => ?_) (fun c1 => ?_)
  · have hF := (if_neg c1).symm.trans hF
    refine z_aload_n (q := 10) C dX11_undo_9 0 rfl rfl rfl ?_
    refine z_dup (q := 11) C dX11_undo_10 rfl rfl ?_
    refine z_getf (q := 14) C clX11 (zon C zo_14) kd_14 (k := 38) (by decide) q_1140 rfl (zfv_i kd_14 rfl) dX11_undo_11 rfl ?_
    refine z_iconst (q := 15) C dX11_undo_14 rfl ?_
    refine z_isub (q := 16) C dX11_undo_15 rfl ?_
    obtain ⟨h2, eh2, hF⟩ := zlet_e hF
    refine z_putf (q := 19) C clX11 (zon C zo_14) kd_14 (k := 38) (x := (h 14 38) - 1) (by decide) q_1140 rfl rfl rfl rfl (((zfv_i kd_14 rfl)).trans (by rw [if_pos rfl])) dX11_undo_16 rfl eh2 ?_
    refine z_iconst (q := 20) C dX11_undo_19 rfl ?_
    refine z_istore_n (q := 21) C dX11_undo_20 (by decide) rfl rfl rfl ?_
    exact z_sub (J_fX11_undo_c21 C hR hd e1 e2 N _ _ hF) [1, 0] rfl
  · have hF := (if_pos c1).symm.trans hF
    refine z_iconst (q := 8) C dX11_undo_7 rfl ?_
    have hF := Option.some.inj hF
    subst hF
    exact z_iret C e1 e2 dX11_undo_8
set_option maxRecDepth 20000 in
set_option maxHeartbeats 4000000 in
theorem M_fX11_undo {l : Launch} {D : va_G} {cy : ClassId} {α : Nat → Nat} {n : Nat} {σ : zSg} {d : Nat} (hd : 1 ≤ d) {N : Nat} {h : zH} {r : Int} {g : zH} (hF : fX11_undo N h = some (r, g)) : zMet l yX11_undo cX11_undo 2 (some .int) (zrm d) D cy α n σ [.ref (α 14)] h (some (.int (zi r))) g := by
  obtain ⟨d, rfl⟩ : ∃ e, d = e + 1 := ⟨d - 1, by omega⟩
  refine z_met (by decide +kernel) (Nat.le_of_ble_eq_true rfl) (fun κ k1 k2 k3 k4 k5 k6 k7 k8 k9 C => ?_)
  subst k1 k3 k4 k5 k6 k7
  exact J_fX11_undo C k2 hd k8 k9 hF
set_option maxRecDepth 20000 in
set_option maxHeartbeats 4000000 in
theorem J_fX11_log {κ : zT} (C : zC κ RX11 cX11_log 3 (some .int)) {d : Nat} (hR : zR κ = zrm (d + 1)) (hd : 2 ≤ d + 1) {h : zH} {r : Int} (e1 : zrv κ = some (.int (zi r))) (e2 : zhf κ = h) {a1 : Int} {a2 : Int} (hF : fX11_log a1 a2 h = some r) : Z κ h 0 [(0, .ref (zα κ 14)), (1, .int (zi a1)), (2, .int (zi a2))] [] := by
  unfold fX11_log at hF
  refine z_iload_n (q := 1) C dX11_log_0 1 rfl rfl rfl ?_
  refine z_iconst (q := 2) C dX11_log_1 rfl ?_
  refine z_aload_n (q := 3) C dX11_log_2 0 rfl rfl rfl ?_
  refine z_getf (q := 6) C clX11 (zon C zo_14) kd_14 (k := 34) (by decide) q_1136 rfl (zfv_r kd_14 rfl fr_14_34) dX11_log_3 rfl ?_
  refine z_bipush (q := 8) C dX11_log_6 bp_44 rfl ?_
  refine z_ialdc (q := 9) (j := 44) C (zon C zo_69) kd_69 zwk_44 (by rw [ln_69]; decide) dX11_log_8 rfl ?_
  refine z_iconst (q := 10) C dX11_log_9 rfl ?_
  refine z_isub (q := 11) C dX11_log_10 rfl ?_
  refine z_callS (q := 14) (av := [.int (zi a1), .int (zi 0), .int (zi ((h 69 44) - 1))]) (rest := []) (stk2 := [.int (zi (fX11_in a1 0 ((h 69 44) - 1)))]) C hR (M_fX11_in (zlv hd rfl) rfl) mY_X11_in q_1314 (Nat.le_of_ble_eq_true rfl) dX11_log_11 rfl rfl rfl ?_
  refine z_if_eq (tgt := 52) (q := 17) C dX11_log_14 (by decide) rfl (fun c1 => ?_) (fun c1 => ?_)
  · have hF := (if_pos c1).symm.trans hF
    refine z_iconst (q := 53) C dX11_log_52 rfl ?_
    have hF := Option.some.inj hF
    subst hF
    exact z_iret C e1 e2 dX11_log_53
  · have hF := (if_neg c1).symm.trans hF
    refine z_iload_n (q := 18) C dX11_log_17 2 rfl rfl rfl ?_
    refine z_iconst (q := 19) C dX11_log_18 rfl ?_
    refine z_iconst (q := 20) C dX11_log_19 rfl ?_
    refine z_callS (q := 23) (av := [.int (zi a2), .int (zi 0), .int (zi 1)]) (rest := []) (stk2 := [.int (zi (fX11_in a2 0 1))]) C hR (M_fX11_in (zlv hd rfl) rfl) mY_X11_in q_1314 (Nat.le_of_ble_eq_true rfl) dX11_log_20 rfl rfl rfl ?_
    refine z_if_eq (tgt := 52) (q := 26) C dX11_log_23 (by decide) rfl (fun c2 => ?_) (fun c2 => ?_)
    · have hF := (if_pos c2).symm.trans hF
      refine z_iconst (q := 53) C dX11_log_52 rfl ?_
      have hF := Option.some.inj hF
      subst hF
      exact z_iret C e1 e2 dX11_log_53
    · have hF := (if_neg c2).symm.trans hF
      refine z_aload_n (q := 27) C dX11_log_26 0 rfl rfl rfl ?_
      refine z_getf (q := 30) C clX11 (zon C zo_14) kd_14 (k := 34) (by decide) q_1136 rfl (zfv_r kd_14 rfl fr_14_34) dX11_log_27 rfl ?_
      refine z_bipush (q := 32) C dX11_log_30 bp_45 rfl ?_
      refine z_iconst (q := 33) C dX11_log_32 rfl ?_
      refine z_aload_n (q := 34) C dX11_log_33 0 rfl rfl rfl ?_
      refine z_getf (q := 37) C clX11 (zon C zo_14) kd_14 (k := 34) (by decide) q_1136 rfl (zfv_r kd_14 rfl fr_14_34) dX11_log_34 rfl ?_
      refine z_bipush (q := 39) C dX11_log_37 bp_44 rfl ?_
      refine z_ialdc (q := 40) (j := 44) C (zon C zo_69) kd_69 zwk_44 (by rw [ln_69]; decide) dX11_log_39 rfl ?_
      refine z_iconst (q := 41) C dX11_log_40 rfl ?_
      refine z_isub (q := 42) C dX11_log_41 rfl ?_
      refine z_iload_n (q := 43) C dX11_log_42 1 rfl rfl rfl ?_
      refine z_isub (q := 44) C dX11_log_43 rfl ?_
      refine z_imul (q := 45) C dX11_log_44 rfl ?_
      refine z_iadd (q := 46) C dX11_log_45 rfl ?_
      refine z_iload_n (q := 47) C dX11_log_46 2 rfl rfl rfl ?_
      refine z_iadd (q := 48) C dX11_log_47 rfl ?_
      obtain ⟨g3, hF⟩ := zif_none hF
      refine z_iald (q := 49) C (zon C zo_69) kd_69 g3.1 (by rw [ln_69]; exact g3.2) dX11_log_48 rfl ?_
      refine z_goto (q := 53) C dX11_log_49 (by decide) ?_
      have hF := Option.some.inj hF
      subst hF
      exact z_iret C e1 e2 dX11_log_53
set_option maxRecDepth 20000 in
set_option maxHeartbeats 4000000 in
theorem M_fX11_log {l : Launch} {D : va_G} {cy : ClassId} {α : Nat → Nat} {n : Nat} {σ : zSg} {d : Nat} (hd : 2 ≤ d) {a1 : Int} {a2 : Int} {h : zH} {r : Int} (hF : fX11_log a1 a2 h = some r) : zMet l yX11_log cX11_log 3 (some .int) (zrm d) D cy α n σ [.ref (α 14), .int (zi a1), .int (zi a2)] h (some (.int (zi r))) h := by
  obtain ⟨d, rfl⟩ : ∃ e, d = e + 1 := ⟨d - 1, by omega⟩
  refine z_met (by decide +kernel) (Nat.le_of_ble_eq_true rfl) (fun κ k1 k2 k3 k4 k5 k6 k7 k8 k9 C => ?_)
  subst k1 k3 k4 k5 k6 k7
  exact J_fX11_log C k2 hd k8 k9 hF
set_option maxRecDepth 20000 in
set_option maxHeartbeats 4000000 in
theorem J_fX11_isOrders {κ : zT} (C : zC κ RX11 cX11_isOrders 2 (some .boolean)) {d : Nat} (hR : zR κ = zrm (d + 1)) (hd : 2 ≤ d + 1) {h : zH} {r : Int} (e1 : zrv κ = some (.int (zi r))) (e2 : zhf κ = h) {a1 : Int} (hF : fX11_isOrders a1 h = r) : Z κ h 0 [(0, .ref (zα κ 14)), (1, .int (zi a1))] [] := by
  unfold fX11_isOrders at hF
  refine z_iload_n (q := 1) C dX11_isOrders_0 1 rfl rfl rfl ?_
  refine z_iconst (q := 2) C dX11_isOrders_1 rfl ?_
  refine z_aload_n (q := 3) C dX11_isOrders_2 0 rfl rfl rfl ?_
  refine z_getf (q := 6) C clX11 (zon C zo_14) kd_14 (k := 33) (by decide) q_1135 rfl (zfv_i kd_14 rfl) dX11_isOrders_3 rfl ?_
  refine z_iconst (q := 7) C dX11_isOrders_6 rfl ?_
  refine z_isub (q := 8) C dX11_isOrders_7 rfl ?_
  refine z_callS (q := 11) (av := [.int (zi a1), .int (zi 0), .int (zi ((h 14 33) - 1))]) (rest := []) (stk2 := [.int (zi (fX11_in a1 0 ((h 14 33) - 1)))]) C hR (M_fX11_in (zlv hd rfl) rfl) mY_X11_in q_1314 (Nat.le_of_ble_eq_true rfl) dX11_isOrders_8 rfl rfl rfl ?_
  subst hF
  exact z_zret C (zb01 (B_fX11_in)) e1 e2 dX11_isOrders_11
set_option maxRecDepth 20000 in
set_option maxHeartbeats 4000000 in
theorem M_fX11_isOrders {l : Launch} {D : va_G} {cy : ClassId} {α : Nat → Nat} {n : Nat} {σ : zSg} {d : Nat} (hd : 2 ≤ d) {a1 : Int} {h : zH} {r : Int} (hF : fX11_isOrders a1 h = r) : zMet l yX11_isOrders cX11_isOrders 2 (some .boolean) (zrm d) D cy α n σ [.ref (α 14), .int (zi a1)] h (some (.int (zi r))) h := by
  obtain ⟨d, rfl⟩ : ∃ e, d = e + 1 := ⟨d - 1, by omega⟩
  refine z_met (by decide +kernel) (Nat.le_of_ble_eq_true rfl) (fun κ k1 k2 k3 k4 k5 k6 k7 k8 k9 C => ?_)
  subst k1 k3 k4 k5 k6 k7
  exact J_fX11_isOrders C k2 hd k8 k9 hF
theorem B_fX11_isOrders {a1 : Int} {h : zH} : fX11_isOrders a1 h = 0 ∨ fX11_isOrders a1 h = 1 := by
  unfold fX11_isOrders
  try simp only [zlet, zlet2]
  repeat' (first | exact Or.inl rfl | exact Or.inr rfl | exact B_fX11_in | apply zite01)
set_option maxRecDepth 20000 in
set_option maxHeartbeats 4000000 in
theorem J_fX11_step {κ : zT} (C : zC κ RX11 cX11_step 4 (some .int)) {d : Nat} (hR : zR κ = zrm (d + 1)) (hd : 3 ≤ d + 1) {h : zH} {r : Int} (e1 : zrv κ = some (.int (zi r))) (e2 : zhf κ = h) {a1 : Int} {a2 : Int} {a3 : Int} (hF : fX11_step a1 a2 a3 h = some r) : Z κ h 0 [(0, .ref (zα κ 14)), (1, .int (zi a1)), (2, .int (zi a2)), (3, .int (zi a3))] [] := by
  unfold fX11_step at hF
  refine z_aload_n (q := 1) C dX11_step_0 0 rfl rfl rfl ?_
  refine z_iload_n (q := 2) C dX11_step_1 1 rfl rfl rfl ?_
  refine z_callV (q := 5) (o := 14) (av := [.int (zi a1)]) (rest := []) (stk2 := [.int (zi (fX11_isOrders a1 h))]) C hR clX11 (zon C zo_14) kd_14 (M_fX11_isOrders (zlv hd rfl) rfl) mY_X11_isOrders q_1586 (Nat.le_of_ble_eq_true rfl) dX11_step_2 rfl rfl rfl ?_
  refine z_if_eq (tgt := 51) (q := 8) C dX11_step_5 (by decide) rfl (fun c1 => ?_) (fun c1 => ?_)
  · have hF := (if_pos c1).symm.trans hF
    refine z_iconst (q := 52) C dX11_step_51 rfl ?_
    have hF := Option.some.inj hF
    subst hF
    exact z_iret C e1 e2 dX11_step_52
  · have hF := (if_neg c1).symm.trans hF
    refine z_iload_n (q := 9) C dX11_step_8 2 rfl rfl rfl ?_
    refine z_iconst (q := 10) C dX11_step_9 rfl ?_
    refine z_aload_n (q := 11) C dX11_step_10 0 rfl rfl rfl ?_
    refine z_getf (q := 14) C clX11 (zon C zo_14) kd_14 (k := 32) (by decide) q_1134 rfl (zfv_r kd_14 rfl fr_14_32) dX11_step_11 rfl ?_
    refine z_iload_n (q := 15) C dX11_step_14 1 rfl rfl rfl ?_
    obtain ⟨g2, hF⟩ := zif_none hF
    refine z_iald (q := 16) C (zon C zo_68) kd_68 g2.1 (by rw [ln_68]; exact g2.2) dX11_step_15 rfl ?_
    refine z_iconst (q := 17) C dX11_step_16 rfl ?_
    refine z_isub (q := 18) C dX11_step_17 rfl ?_
    refine z_callS (q := 21) (av := [.int (zi a2), .int (zi 0), .int (zi ((h 68 (zw a1).toNat) - 1))]) (rest := []) (stk2 := [.int (zi (fX11_in a2 0 ((h 68 (zw a1).toNat) - 1)))]) C hR (M_fX11_in (zlv hd rfl) rfl) mY_X11_in q_1314 (Nat.le_of_ble_eq_true rfl) dX11_step_18 rfl rfl rfl ?_
    refine z_if_eq (tgt := 51) (q := 24) C dX11_step_21 (by decide) rfl (fun c3 => ?_) (fun c3 => ?_)
    · have hF := (if_pos c3).symm.trans hF
      refine z_iconst (q := 52) C dX11_step_51 rfl ?_
      have hF := Option.some.inj hF
      subst hF
      exact z_iret C e1 e2 dX11_step_52
    · have hF := (if_neg c3).symm.trans hF
      refine z_iload_n (q := 25) C dX11_step_24 3 rfl rfl rfl ?_
      refine z_iconst (q := 26) C dX11_step_25 rfl ?_
      refine z_iconst (q := 27) C dX11_step_26 rfl ?_
      refine z_callS (q := 30) (av := [.int (zi a3), .int (zi 0), .int (zi 2)]) (rest := []) (stk2 := [.int (zi (fX11_in a3 0 2))]) C hR (M_fX11_in (zlv hd rfl) rfl) mY_X11_in q_1314 (Nat.le_of_ble_eq_true rfl) dX11_step_27 rfl rfl rfl ?_
      refine z_if_eq (tgt := 51) (q := 33) C dX11_step_30 (by decide) rfl (fun c4 => ?_) (fun c4 => ?_)
      · have hF := (if_pos c4).symm.trans hF
        refine z_iconst (q := 52) C dX11_step_51 rfl ?_
        have hF := Option.some.inj hF
        subst hF
        exact z_iret C e1 e2 dX11_step_52
      · have hF := (if_neg c4).symm.trans hF
        refine z_aload_n (q := 34) C dX11_step_33 0 rfl rfl rfl ?_
        refine z_getf (q := 37) C clX11 (zon C zo_14) kd_14 (k := 31) (by decide) q_1133 rfl (zfv_r kd_14 rfl fr_14_31) dX11_step_34 rfl ?_
        refine z_iconst (q := 38) C dX11_step_37 rfl ?_
        refine z_bipush (q := 40) C dX11_step_38 bp_16 rfl ?_
        refine z_iload_n (q := 41) C dX11_step_40 1 rfl rfl rfl ?_
        refine z_imul (q := 42) C dX11_step_41 rfl ?_
        refine z_iload_n (q := 43) C dX11_step_42 2 rfl rfl rfl ?_
        refine z_iadd (q := 44) C dX11_step_43 rfl ?_
        refine z_imul (q := 45) C dX11_step_44 rfl ?_
        refine z_iload_n (q := 46) C dX11_step_45 3 rfl rfl rfl ?_
        refine z_iadd (q := 47) C dX11_step_46 rfl ?_
        obtain ⟨g5, hF⟩ := zif_none hF
        refine z_iald (q := 48) C (zon C zo_67) kd_67 g5.1 (by rw [ln_67]; exact g5.2) dX11_step_47 rfl ?_
        refine z_goto (q := 52) C dX11_step_48 (by decide) ?_
        have hF := Option.some.inj hF
        subst hF
        exact z_iret C e1 e2 dX11_step_52
set_option maxRecDepth 20000 in
set_option maxHeartbeats 4000000 in
theorem M_fX11_step {l : Launch} {D : va_G} {cy : ClassId} {α : Nat → Nat} {n : Nat} {σ : zSg} {d : Nat} (hd : 3 ≤ d) {a1 : Int} {a2 : Int} {a3 : Int} {h : zH} {r : Int} (hF : fX11_step a1 a2 a3 h = some r) : zMet l yX11_step cX11_step 4 (some .int) (zrm d) D cy α n σ [.ref (α 14), .int (zi a1), .int (zi a2), .int (zi a3)] h (some (.int (zi r))) h := by
  obtain ⟨d, rfl⟩ : ∃ e, d = e + 1 := ⟨d - 1, by omega⟩
  refine z_met (by decide +kernel) (Nat.le_of_ble_eq_true rfl) (fun κ k1 k2 k3 k4 k5 k6 k7 k8 k9 C => ?_)
  subst k1 k3 k4 k5 k6 k7
  exact J_fX11_step C k2 hd k8 k9 hF
set_option maxRecDepth 20000 in
set_option maxHeartbeats 4000000 in
theorem J_fX11_putAside_c2b {κ : zT} (C : zC κ RX11 cX11_putAside 2 none) {d : Nat} (hR : zR κ = zrm (d + 1)) (hd : 1 ≤ d + 1) {N : Nat} {r : zH} (e1 : zrv κ = none) (e2 : zhf κ = r) {K2 : Int → zH → Option zH} (hK2 : ∀ (l1 : Int) (h : zH), K2 l1 h = some r → Z κ h 2 [(0, .ref (zα κ 14)), (1, .int (zi l1))] []) (l1 : Int) (h : zH) (hF : fX11_putAside_c2b N K2 l1 h = some r) : Z κ h 2 [(0, .ref (zα κ 14)), (1, .int (zi l1))] [] := by
  unfold fX11_putAside_c2b at hF
  refine z_iload_n (q := 3) C dX11_putAside_2 1 rfl rfl rfl ?_
  refine z_sipush (q := 6) C dX11_putAside_3 sp_165 rfl ?_
  refine z_icmp_ge (tgt := 27) (q := 9) C dX11_putAside_6 (by decide) rfl (fun c1 => ?_) (fun c1 => ?_)
  · have hF := (if_pos c1).symm.trans hF
    have hF := Option.some.inj hF
    subst hF
    exact z_vret C e1 e2 dX11_putAside_27
  · have hF := (if_neg c1).symm.trans hF
    refine z_aload_n (q := 10) C dX11_putAside_9 0 rfl rfl rfl ?_
    refine z_getf (q := 13) C clX11 (zon C zo_14) kd_14 (k := 39) (by decide) q_1141 rfl (zfv_r kd_14 rfl fr_14_39) dX11_putAside_10 rfl ?_
    refine z_iload_n (q := 14) C dX11_putAside_13 1 rfl rfl rfl ?_
    refine z_aload_n (q := 15) C dX11_putAside_14 0 rfl rfl rfl ?_
    refine z_getf (q := 18) C clX11 (zon C zo_14) kd_14 (k := 34) (by decide) q_1136 rfl (zfv_r kd_14 rfl fr_14_34) dX11_putAside_15 rfl ?_
    refine z_iload_n (q := 19) C dX11_putAside_18 1 rfl rfl rfl ?_
    obtain ⟨g2, hF⟩ := zif_none hF
    refine z_iald (q := 20) C (zon C zo_69) kd_69 g2.1 (by rw [ln_69]; exact g2.2) dX11_putAside_19 rfl ?_
    obtain ⟨g3, hF⟩ := zif_none hF
    obtain ⟨h4, eh4, hF⟩ := zlet_e hF
    refine z_iast (q := 21) C (zon C zo_71) kd_71 g3.1 (by rw [ln_71]; exact g3.2) dX11_putAside_20 rfl eh4 ?_
    refine z_iinc (q := 24) (x := l1) C dX11_putAside_21 (j := 1) rfl (by decide) rfl rfl ?_
    refine z_goto (q := 2) C dX11_putAside_24 (by decide) ?_
    exact z_sub (hK2 _ _ hF) [1, 0] rfl
set_option maxRecDepth 20000 in
set_option maxHeartbeats 4000000 in
theorem J_fX11_putAside_c2 {κ : zT} (C : zC κ RX11 cX11_putAside 2 none) {d : Nat} (hR : zR κ = zrm (d + 1)) (hd : 1 ≤ d + 1) {N : Nat} {r : zH} (e1 : zrv κ = none) (e2 : zhf κ = r) : ∀ (k : Nat) (l1 : Int) (h : zH), fX11_putAside_c2 N k l1 h = some r → Z κ h 2 [(0, .ref (zα κ 14)), (1, .int (zi l1))] [] := by
  intro k
  induction k with
  | zero => intro l1 h hF; cases hF
  | succ k ih => intro l1 h hF; exact J_fX11_putAside_c2b C hR hd e1 e2 ih l1 h hF
set_option maxRecDepth 20000 in
set_option maxHeartbeats 4000000 in
theorem J_fX11_putAside {κ : zT} (C : zC κ RX11 cX11_putAside 2 none) {d : Nat} (hR : zR κ = zrm (d + 1)) (hd : 1 ≤ d + 1) {N : Nat} {r : zH} (e1 : zrv κ = none) (e2 : zhf κ = r) {h : zH} (hF : fX11_putAside N h = some r) : Z κ h 0 [(0, .ref (zα κ 14))] [] := by
  unfold fX11_putAside at hF
  refine z_iconst (q := 1) C dX11_putAside_0 rfl ?_
  refine z_istore_n (q := 2) C dX11_putAside_1 (by decide) rfl rfl rfl ?_
  exact z_sub (J_fX11_putAside_c2 C hR hd e1 e2 N _ _ hF) [1, 0] rfl
set_option maxRecDepth 20000 in
set_option maxHeartbeats 4000000 in
theorem M_fX11_putAside {l : Launch} {D : va_G} {cy : ClassId} {α : Nat → Nat} {n : Nat} {σ : zSg} {d : Nat} (hd : 1 ≤ d) {N : Nat} {h : zH} {g : zH} (hF : fX11_putAside N h = some g) : zMet l yX11_putAside cX11_putAside 2 none (zrm d) D cy α n σ [.ref (α 14)] h (none) g := by
  obtain ⟨d, rfl⟩ : ∃ e, d = e + 1 := ⟨d - 1, by omega⟩
  refine z_met (by decide +kernel) (Nat.le_of_ble_eq_true rfl) (fun κ k1 k2 k3 k4 k5 k6 k7 k8 k9 C => ?_)
  subst k1 k3 k4 k5 k6 k7
  exact J_fX11_putAside C k2 hd k8 k9 hF
set_option maxRecDepth 20000 in
set_option maxHeartbeats 4000000 in
theorem J_fX11_canStep {κ : zT} (C : zC κ RX11 cX11_canStep 3 (some .boolean)) {d : Nat} (hR : zR κ = zrm (d + 1)) (hd : 4 ≤ d + 1) {N : Nat} {h : zH} {r : Int} (e1 : zrv κ = some (.int (zi r))) (e2 : zhf κ = h) {a1 : Int} (hF : fX11_canStep N a1 h = some r) : Z κ h 0 [(0, .ref (zα κ 14)), (1, .int (zi a1))] [] := by
  unfold fX11_canStep at hF
  refine z_aload_n (q := 1) C dX11_canStep_0 0 rfl rfl rfl ?_
  refine z_getf (q := 4) C clX11 (zon C zo_14) kd_14 (k := 31) (by decide) q_1133 rfl (zfv_r kd_14 rfl fr_14_31) dX11_canStep_1 rfl ?_
  refine z_iload_n (q := 5) C dX11_canStep_4 1 rfl rfl rfl ?_
  obtain ⟨g1, hF⟩ := zif_none hF
  refine z_iald (q := 6) C (zon C zo_67) kd_67 g1.1 (by rw [ln_67]; exact g1.2) dX11_canStep_5 rfl ?_
  obtain ⟨v2, ev2, hF⟩ := zlet_e hF
  refine z_istoreE_n (q := 7) C ev2 dX11_canStep_6 (by decide) rfl rfl rfl ?_
  refine z_iload_n (q := 8) C dX11_canStep_7 0 rfl rfl rfl ?_
  refine z_if_ne (tgt := 34) (q := 11) C dX11_canStep_8 (by decide) rfl (fun c3 => ?_) (fun c3 => ?_)
  · have hF := (if_neg c3).symm.trans hF
    refine z_iload_n (q := 35) C dX11_canStep_34 0 rfl rfl rfl ?_
    refine z_iconst (q := 36) C dX11_canStep_35 rfl ?_
    refine z_icmp_ne (tgt := 54) (q := 39) C dX11_canStep_36 (by decide) rfl (fun c8 => ?_) (fun c8 => ?_)
    · have hF := (if_neg c8).symm.trans hF
      refine z_aload_n (q := 55) C dX11_canStep_54 1 rfl rfl rfl ?_
      refine z_getf (q := 58) C clX11 (zon C zo_14) kd_14 (k := 34) (by decide) q_1136 rfl (zfv_r kd_14 rfl fr_14_34) dX11_canStep_55 rfl ?_
      refine z_bipush (q := 60) C dX11_canStep_58 bp_42 rfl ?_
      refine z_ialdc (q := 61) (j := 42) C (zon C zo_69) kd_69 zwk_42 (by rw [ln_69]; decide) dX11_canStep_60 rfl ?_
      refine z_sipush (q := 64) C dX11_canStep_61 sp_9999 rfl ?_
      refine z_icmp_ge (tgt := 71) (q := 67) C dX11_canStep_64 (by decide) rfl (fun c12 => ?_) (fun c12 => ?_)
      · have hF := (if_pos c12).symm.trans hF
        refine z_iconst (q := 72) C dX11_canStep_71 rfl ?_
        have hF := Option.some.inj hF
        subst hF
        exact z_zret C (zb01 (Or.inl rfl)) e1 e2 dX11_canStep_72
      · have hF := (if_neg c12).symm.trans hF
        refine z_iconst (q := 68) C dX11_canStep_67 rfl ?_
        refine z_goto (q := 72) C dX11_canStep_68 (by decide) ?_
        have hF := Option.some.inj hF
        subst hF
        exact z_zret C (zb01 (Or.inr rfl)) e1 e2 dX11_canStep_72
    · have hF := (if_pos c8).symm.trans hF
      refine z_aload_n (q := 40) C dX11_canStep_39 1 rfl rfl rfl ?_
      refine z_aload_n (q := 41) C dX11_canStep_40 1 rfl rfl rfl ?_
      refine z_getf (q := 44) C clX11 (zon C zo_14) kd_14 (k := 31) (by decide) q_1133 rfl (zfv_r kd_14 rfl fr_14_31) dX11_canStep_41 rfl ?_
      refine z_iload_n (q := 45) C dX11_canStep_44 2 rfl rfl rfl ?_
      refine z_iconst (q := 46) C dX11_canStep_45 rfl ?_
      refine z_iadd (q := 47) C dX11_canStep_46 rfl ?_
      obtain ⟨g9, hF⟩ := zif_none hF
      refine z_iald (q := 48) C (zon C zo_67) kd_67 g9.1 (by rw [ln_67]; exact g9.2) dX11_canStep_47 rfl ?_
      obtain ⟨v10, ev10, hF⟩ := zb_e hF
      refine z_callV (q := 51) (o := 14) (av := [.int (zi (h 67 (zw (a1 + 1)).toNat))]) (rest := []) (stk2 := [.int (zi v10)]) C hR clX11 (zon C zo_14) kd_14 (M_fX11_canWithdraw (zlv hd rfl) ev10) mY_X11_canWithdraw q_1502 (Nat.le_of_ble_eq_true rfl) dX11_canStep_48 rfl rfl rfl ?_
      refine z_goto (q := 72) C dX11_canStep_51 (by decide) ?_
      obtain ⟨g11, hF⟩ := zif_none hF
      have hF := Option.some.inj hF
      subst hF
      exact z_zret C (zb01 g11) e1 e2 dX11_canStep_72
  · have hF := (if_pos c3).symm.trans hF
    refine z_aload_n (q := 12) C dX11_canStep_11 1 rfl rfl rfl ?_
    refine z_aload_n (q := 13) C dX11_canStep_12 1 rfl rfl rfl ?_
    refine z_getf (q := 16) C clX11 (zon C zo_14) kd_14 (k := 31) (by decide) q_1133 rfl (zfv_r kd_14 rfl fr_14_31) dX11_canStep_13 rfl ?_
    refine z_iload_n (q := 17) C dX11_canStep_16 2 rfl rfl rfl ?_
    refine z_iconst (q := 18) C dX11_canStep_17 rfl ?_
    refine z_iadd (q := 19) C dX11_canStep_18 rfl ?_
    obtain ⟨g4, hF⟩ := zif_none hF
    refine z_iald (q := 20) C (zon C zo_67) kd_67 g4.1 (by rw [ln_67]; exact g4.2) dX11_canStep_19 rfl ?_
    refine z_aload_n (q := 21) C dX11_canStep_20 1 rfl rfl rfl ?_
    refine z_getf (q := 24) C clX11 (zon C zo_14) kd_14 (k := 31) (by decide) q_1133 rfl (zfv_r kd_14 rfl fr_14_31) dX11_canStep_21 rfl ?_
    refine z_iload_n (q := 25) C dX11_canStep_24 2 rfl rfl rfl ?_
    refine z_iconst (q := 26) C dX11_canStep_25 rfl ?_
    refine z_iadd (q := 27) C dX11_canStep_26 rfl ?_
    obtain ⟨g5, hF⟩ := zif_none hF
    refine z_iald (q := 28) C (zon C zo_67) kd_67 g5.1 (by rw [ln_67]; exact g5.2) dX11_canStep_27 rfl ?_
    obtain ⟨v6, ev6, hF⟩ := zb_e hF
    refine z_callV (q := 31) (o := 14) (av := [.int (zi (h 67 (zw (a1 + 1)).toNat)), .int (zi (h 67 (zw (a1 + 2)).toNat))]) (rest := []) (stk2 := [.int (zi v6)]) C hR clX11 (zon C zo_14) kd_14 (M_fX11_canFile (zlv hd rfl) ev6) mY_X11_canFile q_1482 (Nat.le_of_ble_eq_true rfl) dX11_canStep_28 rfl rfl rfl ?_
    refine z_goto (q := 72) C dX11_canStep_31 (by decide) ?_
    obtain ⟨g7, hF⟩ := zif_none hF
    have hF := Option.some.inj hF
    subst hF
    exact z_zret C (zb01 g7) e1 e2 dX11_canStep_72
set_option maxRecDepth 20000 in
set_option maxHeartbeats 4000000 in
theorem M_fX11_canStep {l : Launch} {D : va_G} {cy : ClassId} {α : Nat → Nat} {n : Nat} {σ : zSg} {d : Nat} (hd : 4 ≤ d) {N : Nat} {a1 : Int} {h : zH} {r : Int} (hF : fX11_canStep N a1 h = some r) : zMet l yX11_canStep cX11_canStep 3 (some .boolean) (zrm d) D cy α n σ [.ref (α 14), .int (zi a1)] h (some (.int (zi r))) h := by
  obtain ⟨d, rfl⟩ : ∃ e, d = e + 1 := ⟨d - 1, by omega⟩
  refine z_met (by decide +kernel) (Nat.le_of_ble_eq_true rfl) (fun κ k1 k2 k3 k4 k5 k6 k7 k8 k9 C => ?_)
  subst k1 k3 k4 k5 k6 k7
  exact J_fX11_canStep C k2 hd k8 k9 hF
set_option maxRecDepth 20000 in
set_option maxHeartbeats 4000000 in
theorem J_fX11_doStep {κ : zT} (C : zC κ RX11 cX11_doStep 2 none) {d : Nat} (hR : zR κ = zrm (d + 1)) (hd : 9 ≤ d + 1) {N : Nat} {r : zH} (e1 : zrv κ = none) (e2 : zhf κ = r) {a1 : Int} {h : zH} (hF : fX11_doStep N a1 h = some r) : Z κ h 0 [(0, .ref (zα κ 14)), (1, .int (zi a1))] [] := by
  unfold fX11_doStep at hF
  refine z_aload_n (q := 1) C dX11_doStep_0 0 rfl rfl rfl ?_
  refine z_getf (q := 4) C clX11 (zon C zo_14) kd_14 (k := 31) (by decide) q_1133 rfl (zfv_r kd_14 rfl fr_14_31) dX11_doStep_1 rfl ?_
  refine z_iload_n (q := 5) C dX11_doStep_4 1 rfl rfl rfl ?_
  obtain ⟨g1, hF⟩ := zif_none hF
  refine z_iald (q := 6) C (zon C zo_67) kd_67 g1.1 (by rw [ln_67]; exact g1.2) dX11_doStep_5 rfl ?_
  refine z_if_ne (tgt := 32) (q := 9) C dX11_doStep_6 (by decide) rfl (fun c2 => ?_) (fun c2 => ?_)
  · have hF := (if_neg c2).symm.trans hF
    refine z_aload_n (q := 33) C dX11_doStep_32 0 rfl rfl rfl ?_
    refine z_getf (q := 36) C clX11 (zon C zo_14) kd_14 (k := 31) (by decide) q_1133 rfl (zfv_r kd_14 rfl fr_14_31) dX11_doStep_33 rfl ?_
    refine z_iload_n (q := 37) C dX11_doStep_36 1 rfl rfl rfl ?_
    obtain ⟨g6, hF⟩ := zif_none hF
    refine z_iald (q := 38) C (zon C zo_67) kd_67 g6.1 (by rw [ln_67]; exact g6.2) dX11_doStep_37 rfl ?_
    refine z_iconst (q := 39) C dX11_doStep_38 rfl ?_
    refine z_icmp_ne (tgt := 57) (q := 42) C dX11_doStep_39 (by decide) rfl (fun c7 => ?_) (fun c7 => ?_)
    · have hF := (if_neg c7).symm.trans hF
      refine z_aload_n (q := 58) C dX11_doStep_57 0 rfl rfl rfl ?_
      refine z_iconst (q := 59) C dX11_doStep_58 rfl ?_
      obtain ⟨h10, eh10, hF⟩ := zb_e hF
      refine z_callV (q := 62) (o := 14) (av := [.int (zi 0)]) (rest := []) (stk2 := []) C hR clX11 (zon C zo_14) kd_14 (M_fX11_pass (zlv hd rfl) eh10) mY_X11_pass q_1518 (Nat.le_of_ble_eq_true rfl) dX11_doStep_59 rfl rfl rfl ?_
      have hF := Option.some.inj hF
      subst hF
      exact z_vret C e1 e2 dX11_doStep_62
    · have hF := (if_pos c7).symm.trans hF
      refine z_aload_n (q := 43) C dX11_doStep_42 0 rfl rfl rfl ?_
      refine z_aload_n (q := 44) C dX11_doStep_43 0 rfl rfl rfl ?_
      refine z_getf (q := 47) C clX11 (zon C zo_14) kd_14 (k := 31) (by decide) q_1133 rfl (zfv_r kd_14 rfl fr_14_31) dX11_doStep_44 rfl ?_
      refine z_iload_n (q := 48) C dX11_doStep_47 1 rfl rfl rfl ?_
      refine z_iconst (q := 49) C dX11_doStep_48 rfl ?_
      refine z_iadd (q := 50) C dX11_doStep_49 rfl ?_
      obtain ⟨g8, hF⟩ := zif_none hF
      refine z_iald (q := 51) C (zon C zo_67) kd_67 g8.1 (by rw [ln_67]; exact g8.2) dX11_doStep_50 rfl ?_
      obtain ⟨h9, eh9, hF⟩ := zb_e hF
      refine z_callV (q := 54) (o := 14) (av := [.int (zi (h 67 (zw (a1 + 1)).toNat))]) (rest := []) (stk2 := []) C hR clX11 (zon C zo_14) kd_14 (M_fX11_goAway (zlv hd rfl) eh9) mY_X11_goAway q_1506 (Nat.le_of_ble_eq_true rfl) dX11_doStep_51 rfl rfl rfl ?_
      refine z_goto (q := 62) C dX11_doStep_54 (by decide) ?_
      have hF := Option.some.inj hF
      subst hF
      exact z_vret C e1 e2 dX11_doStep_62
  · have hF := (if_pos c2).symm.trans hF
    refine z_aload_n (q := 10) C dX11_doStep_9 0 rfl rfl rfl ?_
    refine z_aload_n (q := 11) C dX11_doStep_10 0 rfl rfl rfl ?_
    refine z_getf (q := 14) C clX11 (zon C zo_14) kd_14 (k := 31) (by decide) q_1133 rfl (zfv_r kd_14 rfl fr_14_31) dX11_doStep_11 rfl ?_
    refine z_iload_n (q := 15) C dX11_doStep_14 1 rfl rfl rfl ?_
    refine z_iconst (q := 16) C dX11_doStep_15 rfl ?_
    refine z_iadd (q := 17) C dX11_doStep_16 rfl ?_
    obtain ⟨g3, hF⟩ := zif_none hF
    refine z_iald (q := 18) C (zon C zo_67) kd_67 g3.1 (by rw [ln_67]; exact g3.2) dX11_doStep_17 rfl ?_
    refine z_aload_n (q := 19) C dX11_doStep_18 0 rfl rfl rfl ?_
    refine z_getf (q := 22) C clX11 (zon C zo_14) kd_14 (k := 31) (by decide) q_1133 rfl (zfv_r kd_14 rfl fr_14_31) dX11_doStep_19 rfl ?_
    refine z_iload_n (q := 23) C dX11_doStep_22 1 rfl rfl rfl ?_
    refine z_iconst (q := 24) C dX11_doStep_23 rfl ?_
    refine z_iadd (q := 25) C dX11_doStep_24 rfl ?_
    obtain ⟨g4, hF⟩ := zif_none hF
    refine z_iald (q := 26) C (zon C zo_67) kd_67 g4.1 (by rw [ln_67]; exact g4.2) dX11_doStep_25 rfl ?_
    obtain ⟨h5, eh5, hF⟩ := zb_e hF
    refine z_callV (q := 29) (o := 14) (av := [.int (zi (h 67 (zw (a1 + 1)).toNat)), .int (zi (h 67 (zw (a1 + 2)).toNat))]) (rest := []) (stk2 := []) C hR clX11 (zon C zo_14) kd_14 (M_fX11_fileNow (zlv hd rfl) eh5) mY_X11_fileNow q_1494 (Nat.le_of_ble_eq_true rfl) dX11_doStep_26 rfl rfl rfl ?_
    refine z_goto (q := 62) C dX11_doStep_29 (by decide) ?_
    have hF := Option.some.inj hF
    subst hF
    exact z_vret C e1 e2 dX11_doStep_62
set_option maxRecDepth 20000 in
set_option maxHeartbeats 4000000 in
theorem M_fX11_doStep {l : Launch} {D : va_G} {cy : ClassId} {α : Nat → Nat} {n : Nat} {σ : zSg} {d : Nat} (hd : 9 ≤ d) {N : Nat} {a1 : Int} {h : zH} {g : zH} (hF : fX11_doStep N a1 h = some g) : zMet l yX11_doStep cX11_doStep 2 none (zrm d) D cy α n σ [.ref (α 14), .int (zi a1)] h (none) g := by
  obtain ⟨d, rfl⟩ : ∃ e, d = e + 1 := ⟨d - 1, by omega⟩
  refine z_met (by decide +kernel) (Nat.le_of_ble_eq_true rfl) (fun κ k1 k2 k3 k4 k5 k6 k7 k8 k9 C => ?_)
  subst k1 k3 k4 k5 k6 k7
  exact J_fX11_doStep C k2 hd k8 k9 hF
set_option maxRecDepth 20000 in
set_option maxHeartbeats 4000000 in
theorem J_fX11_takeBack_c2b {κ : zT} (C : zC κ RX11 cX11_takeBack 2 none) {d : Nat} (hR : zR κ = zrm (d + 1)) (hd : 1 ≤ d + 1) {N : Nat} {r : zH} (e1 : zrv κ = none) (e2 : zhf κ = r) {K2 : Int → zH → Option zH} (hK2 : ∀ (l1 : Int) (h : zH), K2 l1 h = some r → Z κ h 2 [(0, .ref (zα κ 14)), (1, .int (zi l1))] []) (l1 : Int) (h : zH) (hF : fX11_takeBack_c2b N K2 l1 h = some r) : Z κ h 2 [(0, .ref (zα κ 14)), (1, .int (zi l1))] [] := by
  unfold fX11_takeBack_c2b at hF
  refine z_iload_n (q := 3) C dX11_takeBack_2 1 rfl rfl rfl ?_
  refine z_sipush (q := 6) C dX11_takeBack_3 sp_165 rfl ?_
  refine z_icmp_ge (tgt := 27) (q := 9) C dX11_takeBack_6 (by decide) rfl (fun c1 => ?_) (fun c1 => ?_)
  · have hF := (if_pos c1).symm.trans hF
    have hF := Option.some.inj hF
    subst hF
    exact z_vret C e1 e2 dX11_takeBack_27
  · have hF := (if_neg c1).symm.trans hF
    refine z_aload_n (q := 10) C dX11_takeBack_9 0 rfl rfl rfl ?_
    refine z_getf (q := 13) C clX11 (zon C zo_14) kd_14 (k := 34) (by decide) q_1136 rfl (zfv_r kd_14 rfl fr_14_34) dX11_takeBack_10 rfl ?_
    refine z_iload_n (q := 14) C dX11_takeBack_13 1 rfl rfl rfl ?_
    refine z_aload_n (q := 15) C dX11_takeBack_14 0 rfl rfl rfl ?_
    refine z_getf (q := 18) C clX11 (zon C zo_14) kd_14 (k := 39) (by decide) q_1141 rfl (zfv_r kd_14 rfl fr_14_39) dX11_takeBack_15 rfl ?_
    refine z_iload_n (q := 19) C dX11_takeBack_18 1 rfl rfl rfl ?_
    obtain ⟨g2, hF⟩ := zif_none hF
    refine z_iald (q := 20) C (zon C zo_71) kd_71 g2.1 (by rw [ln_71]; exact g2.2) dX11_takeBack_19 rfl ?_
    obtain ⟨g3, hF⟩ := zif_none hF
    obtain ⟨h4, eh4, hF⟩ := zlet_e hF
    refine z_iast (q := 21) C (zon C zo_69) kd_69 g3.1 (by rw [ln_69]; exact g3.2) dX11_takeBack_20 rfl eh4 ?_
    refine z_iinc (q := 24) (x := l1) C dX11_takeBack_21 (j := 1) rfl (by decide) rfl rfl ?_
    refine z_goto (q := 2) C dX11_takeBack_24 (by decide) ?_
    exact z_sub (hK2 _ _ hF) [1, 0] rfl
set_option maxRecDepth 20000 in
set_option maxHeartbeats 4000000 in
theorem J_fX11_takeBack_c2 {κ : zT} (C : zC κ RX11 cX11_takeBack 2 none) {d : Nat} (hR : zR κ = zrm (d + 1)) (hd : 1 ≤ d + 1) {N : Nat} {r : zH} (e1 : zrv κ = none) (e2 : zhf κ = r) : ∀ (k : Nat) (l1 : Int) (h : zH), fX11_takeBack_c2 N k l1 h = some r → Z κ h 2 [(0, .ref (zα κ 14)), (1, .int (zi l1))] [] := by
  intro k
  induction k with
  | zero => intro l1 h hF; cases hF
  | succ k ih => intro l1 h hF; exact J_fX11_takeBack_c2b C hR hd e1 e2 ih l1 h hF
set_option maxRecDepth 20000 in
set_option maxHeartbeats 4000000 in
theorem J_fX11_takeBack {κ : zT} (C : zC κ RX11 cX11_takeBack 2 none) {d : Nat} (hR : zR κ = zrm (d + 1)) (hd : 1 ≤ d + 1) {N : Nat} {r : zH} (e1 : zrv κ = none) (e2 : zhf κ = r) {h : zH} (hF : fX11_takeBack N h = some r) : Z κ h 0 [(0, .ref (zα κ 14))] [] := by
  unfold fX11_takeBack at hF
  refine z_iconst (q := 1) C dX11_takeBack_0 rfl ?_
  refine z_istore_n (q := 2) C dX11_takeBack_1 (by decide) rfl rfl rfl ?_
  exact z_sub (J_fX11_takeBack_c2 C hR hd e1 e2 N _ _ hF) [1, 0] rfl
set_option maxRecDepth 20000 in
set_option maxHeartbeats 4000000 in
theorem M_fX11_takeBack {l : Launch} {D : va_G} {cy : ClassId} {α : Nat → Nat} {n : Nat} {σ : zSg} {d : Nat} (hd : 1 ≤ d) {N : Nat} {h : zH} {g : zH} (hF : fX11_takeBack N h = some g) : zMet l yX11_takeBack cX11_takeBack 2 none (zrm d) D cy α n σ [.ref (α 14)] h (none) g := by
  obtain ⟨d, rfl⟩ : ∃ e, d = e + 1 := ⟨d - 1, by omega⟩
  refine z_met (by decide +kernel) (Nat.le_of_ble_eq_true rfl) (fun κ k1 k2 k3 k4 k5 k6 k7 k8 k9 C => ?_)
  subst k1 k3 k4 k5 k6 k7
  exact J_fX11_takeBack C k2 hd k8 k9 hF
