set_option maxRecDepth 20000 in
set_option maxHeartbeats 4000000 in
theorem J_fX11_isWhole_c121b {κ : zT} (C : zC κ RX11 cX11_isWhole 3 (some .boolean)) {d : Nat} (hR : zR κ = zrm (d + 1)) (hd : 2 ≤ d + 1) {N : Nat} {h : zH} {r : Int} (e1 : zrv κ = some (.int (zi r))) (e2 : zhf κ = h) {K121 : Int → Int → Option Int} (hK121 : ∀ (l1 : Int) (l2 : Int), K121 l1 l2 = some r → Z κ h 121 [(0, .ref (zα κ 14)), (1, .int (zi l1)), (2, .int (zi l2))] []) (l1 : Int) (l2 : Int) (hF : fX11_isWhole_c121b N h K121 l1 l2 = some r) : Z κ h 121 [(0, .ref (zα κ 14)), (1, .int (zi l1)), (2, .int (zi l2))] [] := by
  unfold fX11_isWhole_c121b at hF
  refine z_iload_n (q := 122) C dX11_isWhole_121 2 rfl rfl rfl ?_
  refine z_aload_n (q := 123) C dX11_isWhole_122 0 rfl rfl rfl ?_
  refine z_getf (q := 126) C clX11 (zon C zo_14) kd_14 (k := 23) (by decide) q_1125 rfl (zfv_i kd_14 rfl) dX11_isWhole_123 rfl ?_
  refine z_icmp_ge (tgt := 202) (q := 129) C dX11_isWhole_126 (by decide) rfl (fun c1 => ?_) (fun c1 => ?_)
  · have hF := (if_pos c1).symm.trans hF
    refine z_iload_n (q := 203) C dX11_isWhole_202 1 rfl rfl rfl ?_
    obtain ⟨g2, hF⟩ := zif_none hF
    have hF := Option.some.inj hF
    subst hF
    exact z_zret C (zb01 g2) e1 e2 dX11_isWhole_203
  · have hF := (if_neg c1).symm.trans hF
    refine z_iload_n (q := 130) C dX11_isWhole_129 1 rfl rfl rfl ?_
    refine z_if_eq (tgt := 194) (q := 133) C dX11_isWhole_130 (by decide) rfl (fun c3 => ?_) (fun c3 => ?_)
    · have hF := (if_pos c3).symm.trans hF
      refine z_iconst (q := 195) C dX11_isWhole_194 rfl ?_
      refine z_istore_n (q := 196) C dX11_isWhole_195 (by decide) rfl rfl rfl ?_
      refine z_iinc (q := 199) (x := l2) C dX11_isWhole_196 (j := 2) rfl (by decide) rfl rfl ?_
      refine z_goto (q := 121) C dX11_isWhole_199 (by decide) ?_
      exact z_sub (hK121 _ _ hF) [2, 1, 0] rfl
    · have hF := (if_neg c3).symm.trans hF
      refine z_aload_n (q := 134) C dX11_isWhole_133 0 rfl rfl rfl ?_
      refine z_getf (q := 137) C clX11 (zon C zo_14) kd_14 (k := 20) (by decide) q_1122 rfl (zfv_r kd_14 rfl fr_14_20) dX11_isWhole_134 rfl ?_
      refine z_iconst (q := 138) C dX11_isWhole_137 rfl ?_
      refine z_iload_n (q := 139) C dX11_isWhole_138 2 rfl rfl rfl ?_
      refine z_imul (q := 140) C dX11_isWhole_139 rfl ?_
      refine z_iconst (q := 141) C dX11_isWhole_140 rfl ?_
      refine z_iadd (q := 142) C dX11_isWhole_141 rfl ?_
      obtain ⟨g4, hF⟩ := zif_none hF
      refine z_iald (q := 143) C (zon C zo_62) kd_62 g4.1 (by rw [ln_62]; exact g4.2) dX11_isWhole_142 rfl ?_
      refine z_aload_n (q := 144) C dX11_isWhole_143 0 rfl rfl rfl ?_
      refine z_getf (q := 147) C clX11 (zon C zo_14) kd_14 (k := 22) (by decide) q_1124 rfl (zfv_i kd_14 rfl) dX11_isWhole_144 rfl ?_
      refine z_icmp_ge (tgt := 194) (q := 150) C dX11_isWhole_147 (by decide) rfl (fun c5 => ?_) (fun c5 => ?_)
      · have hF := (if_pos c5).symm.trans hF
        refine z_iconst (q := 195) C dX11_isWhole_194 rfl ?_
        refine z_istore_n (q := 196) C dX11_isWhole_195 (by decide) rfl rfl rfl ?_
        refine z_iinc (q := 199) (x := l2) C dX11_isWhole_196 (j := 2) rfl (by decide) rfl rfl ?_
        refine z_goto (q := 121) C dX11_isWhole_199 (by decide) ?_
        exact z_sub (hK121 _ _ hF) [2, 1, 0] rfl
      · have hF := (if_neg c5).symm.trans hF
        refine z_aload_n (q := 151) C dX11_isWhole_150 0 rfl rfl rfl ?_
        refine z_getf (q := 154) C clX11 (zon C zo_14) kd_14 (k := 20) (by decide) q_1122 rfl (zfv_r kd_14 rfl fr_14_20) dX11_isWhole_151 rfl ?_
        refine z_iconst (q := 155) C dX11_isWhole_154 rfl ?_
        refine z_iload_n (q := 156) C dX11_isWhole_155 2 rfl rfl rfl ?_
        refine z_imul (q := 157) C dX11_isWhole_156 rfl ?_
        refine z_iconst (q := 158) C dX11_isWhole_157 rfl ?_
        refine z_iadd (q := 159) C dX11_isWhole_158 rfl ?_
        obtain ⟨g6, hF⟩ := zif_none hF
        refine z_iald (q := 160) C (zon C zo_62) kd_62 g6.1 (by rw [ln_62]; exact g6.2) dX11_isWhole_159 rfl ?_
        refine z_aload_n (q := 161) C dX11_isWhole_160 0 rfl rfl rfl ?_
        refine z_getf (q := 164) C clX11 (zon C zo_14) kd_14 (k := 23) (by decide) q_1125 rfl (zfv_i kd_14 rfl) dX11_isWhole_161 rfl ?_
        obtain ⟨v7, ev7, hF⟩ := zlet_e hF
        refine z_callS (q := 167) (av := [.int (zi (h 62 (zw ((3 * l2) + 1)).toNat)), .int (zi (h 14 23))]) (rest := []) (stk2 := [.int (zi v7)]) C hR (M_fX11_isTold (zlv hd rfl) ev7.symm) mY_X11_isTold q_1321 (Nat.le_of_ble_eq_true rfl) dX11_isWhole_164 rfl rfl rfl ?_
        refine z_if_eq (tgt := 194) (q := 170) C dX11_isWhole_167 (by decide) rfl (fun c8 => ?_) (fun c8 => ?_)
        · have hF := (if_pos c8).symm.trans hF
          refine z_iconst (q := 195) C dX11_isWhole_194 rfl ?_
          refine z_istore_n (q := 196) C dX11_isWhole_195 (by decide) rfl rfl rfl ?_
          refine z_iinc (q := 199) (x := l2) C dX11_isWhole_196 (j := 2) rfl (by decide) rfl rfl ?_
          refine z_goto (q := 121) C dX11_isWhole_199 (by decide) ?_
          exact z_sub (hK121 _ _ hF) [2, 1, 0] rfl
        · have hF := (if_neg c8).symm.trans hF
          refine z_aload_n (q := 171) C dX11_isWhole_170 0 rfl rfl rfl ?_
          refine z_getf (q := 174) C clX11 (zon C zo_14) kd_14 (k := 20) (by decide) q_1122 rfl (zfv_r kd_14 rfl fr_14_20) dX11_isWhole_171 rfl ?_
          refine z_iconst (q := 175) C dX11_isWhole_174 rfl ?_
          refine z_iload_n (q := 176) C dX11_isWhole_175 2 rfl rfl rfl ?_
          refine z_imul (q := 177) C dX11_isWhole_176 rfl ?_
          refine z_iconst (q := 178) C dX11_isWhole_177 rfl ?_
          refine z_iadd (q := 179) C dX11_isWhole_178 rfl ?_
          obtain ⟨g9, hF⟩ := zif_none hF
          refine z_iald (q := 180) C (zon C zo_62) kd_62 g9.1 (by rw [ln_62]; exact g9.2) dX11_isWhole_179 rfl ?_
          refine z_aload_n (q := 181) C dX11_isWhole_180 0 rfl rfl rfl ?_
          refine z_getf (q := 184) C clX11 (zon C zo_14) kd_14 (k := 23) (by decide) q_1125 rfl (zfv_i kd_14 rfl) dX11_isWhole_181 rfl ?_
          obtain ⟨v10, ev10, hF⟩ := zlet_e hF
          refine z_callS (q := 187) (av := [.int (zi (h 62 (zw ((3 * l2) + 2)).toNat)), .int (zi (h 14 23))]) (rest := []) (stk2 := [.int (zi v10)]) C hR (M_fX11_isTold (zlv hd rfl) ev10.symm) mY_X11_isTold q_1321 (Nat.le_of_ble_eq_true rfl) dX11_isWhole_184 rfl rfl rfl ?_
          refine z_if_eq (tgt := 194) (q := 190) C dX11_isWhole_187 (by decide) rfl (fun c11 => ?_) (fun c11 => ?_)
          · have hF := (if_pos c11).symm.trans hF
            refine z_iconst (q := 195) C dX11_isWhole_194 rfl ?_
            refine z_istore_n (q := 196) C dX11_isWhole_195 (by decide) rfl rfl rfl ?_
            refine z_iinc (q := 199) (x := l2) C dX11_isWhole_196 (j := 2) rfl (by decide) rfl rfl ?_
            refine z_goto (q := 121) C dX11_isWhole_199 (by decide) ?_
            exact z_sub (hK121 _ _ hF) [2, 1, 0] rfl
          · have hF := (if_neg c11).symm.trans hF
            refine z_iconst (q := 191) C dX11_isWhole_190 rfl ?_
            refine z_goto (q := 195) C dX11_isWhole_191 (by decide) ?_
            refine z_istore_n (q := 196) C dX11_isWhole_195 (by decide) rfl rfl rfl ?_
            refine z_iinc (q := 199) (x := l2) C dX11_isWhole_196 (j := 2) rfl (by decide) rfl rfl ?_
            refine z_goto (q := 121) C dX11_isWhole_199 (by decide) ?_
            exact z_sub (hK121 _ _ hF) [2, 1, 0] rfl
set_option maxRecDepth 20000 in
set_option maxHeartbeats 4000000 in
theorem J_fX11_isWhole_c121 {κ : zT} (C : zC κ RX11 cX11_isWhole 3 (some .boolean)) {d : Nat} (hR : zR κ = zrm (d + 1)) (hd : 2 ≤ d + 1) {N : Nat} {h : zH} {r : Int} (e1 : zrv κ = some (.int (zi r))) (e2 : zhf κ = h) : ∀ (k : Nat) (l1 : Int) (l2 : Int), fX11_isWhole_c121 N h k l1 l2 = some r → Z κ h 121 [(0, .ref (zα κ 14)), (1, .int (zi l1)), (2, .int (zi l2))] [] := by
  intro k
  induction k with
  | zero => intro l1 l2 hF; cases hF
  | succ k ih => intro l1 l2 hF; exact J_fX11_isWhole_c121b C hR hd e1 e2 ih l1 l2 hF
set_option maxRecDepth 20000 in
set_option maxHeartbeats 4000000 in
theorem J_fX11_isWhole_c78b {κ : zT} (C : zC κ RX11 cX11_isWhole 3 (some .boolean)) {d : Nat} (hR : zR κ = zrm (d + 1)) (hd : 2 ≤ d + 1) {N : Nat} {h : zH} {r : Int} (e1 : zrv κ = some (.int (zi r))) (e2 : zhf κ = h) {K78 : Int → Int → Option Int} (hK78 : ∀ (l1 : Int) (l2 : Int), K78 l1 l2 = some r → Z κ h 78 [(0, .ref (zα κ 14)), (1, .int (zi l1)), (2, .int (zi l2))] []) (l1 : Int) (l2 : Int) (hF : fX11_isWhole_c78b N h K78 l1 l2 = some r) : Z κ h 78 [(0, .ref (zα κ 14)), (1, .int (zi l1)), (2, .int (zi l2))] [] := by
  unfold fX11_isWhole_c78b at hF
  refine z_iload_n (q := 79) C dX11_isWhole_78 2 rfl rfl rfl ?_
  refine z_aload_n (q := 80) C dX11_isWhole_79 0 rfl rfl rfl ?_
  refine z_getf (q := 83) C clX11 (zon C zo_14) kd_14 (k := 21) (by decide) q_1123 rfl (zfv_i kd_14 rfl) dX11_isWhole_80 rfl ?_
  refine z_icmp_ge (tgt := 119) (q := 86) C dX11_isWhole_83 (by decide) rfl (fun c1 => ?_) (fun c1 => ?_)
  · have hF := (if_pos c1).symm.trans hF
    refine z_iconst (q := 120) C dX11_isWhole_119 rfl ?_
    refine z_istore_n (q := 121) C dX11_isWhole_120 (by decide) rfl rfl rfl ?_
    exact z_sub (J_fX11_isWhole_c121 C hR hd e1 e2 N _ _ hF) [1, 2, 0] rfl
  · have hF := (if_neg c1).symm.trans hF
    refine z_iload_n (q := 87) C dX11_isWhole_86 1 rfl rfl rfl ?_
    refine z_if_eq (tgt := 111) (q := 90) C dX11_isWhole_87 (by decide) rfl (fun c2 => ?_) (fun c2 => ?_)
    · have hF := (if_pos c2).symm.trans hF
      refine z_iconst (q := 112) C dX11_isWhole_111 rfl ?_
      refine z_istore_n (q := 113) C dX11_isWhole_112 (by decide) rfl rfl rfl ?_
      refine z_iinc (q := 116) (x := l2) C dX11_isWhole_113 (j := 2) rfl (by decide) rfl rfl ?_
      refine z_goto (q := 78) C dX11_isWhole_116 (by decide) ?_
      exact z_sub (hK78 _ _ hF) [2, 1, 0] rfl
    · have hF := (if_neg c2).symm.trans hF
      refine z_aload_n (q := 91) C dX11_isWhole_90 0 rfl rfl rfl ?_
      refine z_getf (q := 94) C clX11 (zon C zo_14) kd_14 (k := 18) (by decide) q_1120 rfl (zfv_r kd_14 rfl fr_14_18) dX11_isWhole_91 rfl ?_
      refine z_iconst (q := 95) C dX11_isWhole_94 rfl ?_
      refine z_iload_n (q := 96) C dX11_isWhole_95 2 rfl rfl rfl ?_
      refine z_imul (q := 97) C dX11_isWhole_96 rfl ?_
      refine z_iconst (q := 98) C dX11_isWhole_97 rfl ?_
      refine z_iadd (q := 99) C dX11_isWhole_98 rfl ?_
      obtain ⟨g3, hF⟩ := zif_none hF
      refine z_iald (q := 100) C (zon C zo_60) kd_60 g3.1 (by rw [ln_60]; exact g3.2) dX11_isWhole_99 rfl ?_
      refine z_aload_n (q := 101) C dX11_isWhole_100 0 rfl rfl rfl ?_
      refine z_getf (q := 104) C clX11 (zon C zo_14) kd_14 (k := 23) (by decide) q_1125 rfl (zfv_i kd_14 rfl) dX11_isWhole_101 rfl ?_
      refine z_icmp_ge (tgt := 111) (q := 107) C dX11_isWhole_104 (by decide) rfl (fun c4 => ?_) (fun c4 => ?_)
      · have hF := (if_pos c4).symm.trans hF
        refine z_iconst (q := 112) C dX11_isWhole_111 rfl ?_
        refine z_istore_n (q := 113) C dX11_isWhole_112 (by decide) rfl rfl rfl ?_
        refine z_iinc (q := 116) (x := l2) C dX11_isWhole_113 (j := 2) rfl (by decide) rfl rfl ?_
        refine z_goto (q := 78) C dX11_isWhole_116 (by decide) ?_
        exact z_sub (hK78 _ _ hF) [2, 1, 0] rfl
      · have hF := (if_neg c4).symm.trans hF
        refine z_iconst (q := 108) C dX11_isWhole_107 rfl ?_
        refine z_goto (q := 112) C dX11_isWhole_108 (by decide) ?_
        refine z_istore_n (q := 113) C dX11_isWhole_112 (by decide) rfl rfl rfl ?_
        refine z_iinc (q := 116) (x := l2) C dX11_isWhole_113 (j := 2) rfl (by decide) rfl rfl ?_
        refine z_goto (q := 78) C dX11_isWhole_116 (by decide) ?_
        exact z_sub (hK78 _ _ hF) [2, 1, 0] rfl
set_option maxRecDepth 20000 in
set_option maxHeartbeats 4000000 in
theorem J_fX11_isWhole_c78 {κ : zT} (C : zC κ RX11 cX11_isWhole 3 (some .boolean)) {d : Nat} (hR : zR κ = zrm (d + 1)) (hd : 2 ≤ d + 1) {N : Nat} {h : zH} {r : Int} (e1 : zrv κ = some (.int (zi r))) (e2 : zhf κ = h) : ∀ (k : Nat) (l1 : Int) (l2 : Int), fX11_isWhole_c78 N h k l1 l2 = some r → Z κ h 78 [(0, .ref (zα κ 14)), (1, .int (zi l1)), (2, .int (zi l2))] [] := by
  intro k
  induction k with
  | zero => intro l1 l2 hF; cases hF
  | succ k ih => intro l1 l2 hF; exact J_fX11_isWhole_c78b C hR hd e1 e2 ih l1 l2 hF
set_option maxRecDepth 20000 in
set_option maxHeartbeats 4000000 in
theorem J_fX11_isWhole_c29b {κ : zT} (C : zC κ RX11 cX11_isWhole 3 (some .boolean)) {d : Nat} (hR : zR κ = zrm (d + 1)) (hd : 2 ≤ d + 1) {N : Nat} {h : zH} {r : Int} (e1 : zrv κ = some (.int (zi r))) (e2 : zhf κ = h) {K29 : Int → Int → Option Int} (hK29 : ∀ (l1 : Int) (l2 : Int), K29 l1 l2 = some r → Z κ h 29 [(0, .ref (zα κ 14)), (1, .int (zi l1)), (2, .int (zi l2))] []) (l1 : Int) (l2 : Int) (hF : fX11_isWhole_c29b N h K29 l1 l2 = some r) : Z κ h 29 [(0, .ref (zα κ 14)), (1, .int (zi l1)), (2, .int (zi l2))] [] := by
  unfold fX11_isWhole_c29b at hF
  refine z_iload_n (q := 30) C dX11_isWhole_29 2 rfl rfl rfl ?_
  refine z_aload_n (q := 31) C dX11_isWhole_30 0 rfl rfl rfl ?_
  refine z_getf (q := 34) C clX11 (zon C zo_14) kd_14 (k := 22) (by decide) q_1124 rfl (zfv_i kd_14 rfl) dX11_isWhole_31 rfl ?_
  refine z_icmp_ge (tgt := 76) (q := 37) C dX11_isWhole_34 (by decide) rfl (fun c1 => ?_) (fun c1 => ?_)
  · have hF := (if_pos c1).symm.trans hF
    refine z_iconst (q := 77) C dX11_isWhole_76 rfl ?_
    refine z_istore_n (q := 78) C dX11_isWhole_77 (by decide) rfl rfl rfl ?_
    exact z_sub (J_fX11_isWhole_c78 C hR hd e1 e2 N _ _ hF) [1, 2, 0] rfl
  · have hF := (if_neg c1).symm.trans hF
    refine z_iload_n (q := 38) C dX11_isWhole_37 1 rfl rfl rfl ?_
    refine z_if_eq (tgt := 68) (q := 41) C dX11_isWhole_38 (by decide) rfl (fun c2 => ?_) (fun c2 => ?_)
    · have hF := (if_pos c2).symm.trans hF
      refine z_iconst (q := 69) C dX11_isWhole_68 rfl ?_
      refine z_istore_n (q := 70) C dX11_isWhole_69 (by decide) rfl rfl rfl ?_
      refine z_iinc (q := 73) (x := l2) C dX11_isWhole_70 (j := 2) rfl (by decide) rfl rfl ?_
      refine z_goto (q := 29) C dX11_isWhole_73 (by decide) ?_
      exact z_sub (hK29 _ _ hF) [2, 1, 0] rfl
    · have hF := (if_neg c2).symm.trans hF
      refine z_aload_n (q := 42) C dX11_isWhole_41 0 rfl rfl rfl ?_
      refine z_getf (q := 45) C clX11 (zon C zo_14) kd_14 (k := 19) (by decide) q_1121 rfl (zfv_r kd_14 rfl fr_14_19) dX11_isWhole_42 rfl ?_
      refine z_iconst (q := 46) C dX11_isWhole_45 rfl ?_
      refine z_iload_n (q := 47) C dX11_isWhole_46 2 rfl rfl rfl ?_
      refine z_imul (q := 48) C dX11_isWhole_47 rfl ?_
      refine z_iconst (q := 49) C dX11_isWhole_48 rfl ?_
      refine z_iadd (q := 50) C dX11_isWhole_49 rfl ?_
      obtain ⟨g3, hF⟩ := zif_none hF
      refine z_iald (q := 51) C (zon C zo_61) kd_61 g3.1 (by rw [ln_61]; exact g3.2) dX11_isWhole_50 rfl ?_
      refine z_aload_n (q := 52) C dX11_isWhole_51 0 rfl rfl rfl ?_
      refine z_getf (q := 55) C clX11 (zon C zo_14) kd_14 (k := 19) (by decide) q_1121 rfl (zfv_r kd_14 rfl fr_14_19) dX11_isWhole_52 rfl ?_
      refine z_iconst (q := 56) C dX11_isWhole_55 rfl ?_
      refine z_iload_n (q := 57) C dX11_isWhole_56 2 rfl rfl rfl ?_
      refine z_imul (q := 58) C dX11_isWhole_57 rfl ?_
      refine z_iconst (q := 59) C dX11_isWhole_58 rfl ?_
      refine z_iadd (q := 60) C dX11_isWhole_59 rfl ?_
      obtain ⟨g4, hF⟩ := zif_none hF
      refine z_iald (q := 61) C (zon C zo_61) kd_61 g4.1 (by rw [ln_61]; exact g4.2) dX11_isWhole_60 rfl ?_
      refine z_icmp_ge (tgt := 68) (q := 64) C dX11_isWhole_61 (by decide) rfl (fun c5 => ?_) (fun c5 => ?_)
      · have hF := (if_pos c5).symm.trans hF
        refine z_iconst (q := 69) C dX11_isWhole_68 rfl ?_
        refine z_istore_n (q := 70) C dX11_isWhole_69 (by decide) rfl rfl rfl ?_
        refine z_iinc (q := 73) (x := l2) C dX11_isWhole_70 (j := 2) rfl (by decide) rfl rfl ?_
        refine z_goto (q := 29) C dX11_isWhole_73 (by decide) ?_
        exact z_sub (hK29 _ _ hF) [2, 1, 0] rfl
      · have hF := (if_neg c5).symm.trans hF
        refine z_iconst (q := 65) C dX11_isWhole_64 rfl ?_
        refine z_goto (q := 69) C dX11_isWhole_65 (by decide) ?_
        refine z_istore_n (q := 70) C dX11_isWhole_69 (by decide) rfl rfl rfl ?_
        refine z_iinc (q := 73) (x := l2) C dX11_isWhole_70 (j := 2) rfl (by decide) rfl rfl ?_
        refine z_goto (q := 29) C dX11_isWhole_73 (by decide) ?_
        exact z_sub (hK29 _ _ hF) [2, 1, 0] rfl
set_option maxRecDepth 20000 in
set_option maxHeartbeats 4000000 in
theorem J_fX11_isWhole_c29 {κ : zT} (C : zC κ RX11 cX11_isWhole 3 (some .boolean)) {d : Nat} (hR : zR κ = zrm (d + 1)) (hd : 2 ≤ d + 1) {N : Nat} {h : zH} {r : Int} (e1 : zrv κ = some (.int (zi r))) (e2 : zhf κ = h) : ∀ (k : Nat) (l1 : Int) (l2 : Int), fX11_isWhole_c29 N h k l1 l2 = some r → Z κ h 29 [(0, .ref (zα κ 14)), (1, .int (zi l1)), (2, .int (zi l2))] [] := by
  intro k
  induction k with
  | zero => intro l1 l2 hF; cases hF
  | succ k ih => intro l1 l2 hF; exact J_fX11_isWhole_c29b C hR hd e1 e2 ih l1 l2 hF
set_option maxRecDepth 20000 in
set_option maxHeartbeats 4000000 in
theorem J_fX11_isWhole {κ : zT} (C : zC κ RX11 cX11_isWhole 3 (some .boolean)) {d : Nat} (hR : zR κ = zrm (d + 1)) (hd : 2 ≤ d + 1) {N : Nat} {h : zH} {r : Int} (e1 : zrv κ = some (.int (zi r))) (e2 : zhf κ = h) (hF : fX11_isWhole N h = some r) : Z κ h 0 [(0, .ref (zα κ 14))] [] := by
  unfold fX11_isWhole at hF
  refine z_aload_n (q := 1) C dX11_isWhole_0 0 rfl rfl rfl ?_
  refine z_getf (q := 4) C clX11 (zon C zo_14) kd_14 (k := 21) (by decide) q_1123 rfl (zfv_i kd_14 rfl) dX11_isWhole_1 rfl ?_
  refine z_if_le (tgt := 25) (q := 7) C dX11_isWhole_4 (by decide) rfl (fun c1 => ?_) (fun c1 => ?_)
  · have hF := (if_pos c1).symm.trans hF
    refine z_iconst (q := 26) C dX11_isWhole_25 rfl ?_
    refine z_istore_n (q := 27) C dX11_isWhole_26 (by decide) rfl rfl rfl ?_
    refine z_iconst (q := 28) C dX11_isWhole_27 rfl ?_
    refine z_istore_n (q := 29) C dX11_isWhole_28 (by decide) rfl rfl rfl ?_
    exact z_sub (J_fX11_isWhole_c29 C hR hd e1 e2 N _ _ hF) [2, 1, 0] rfl
  · have hF := (if_neg c1).symm.trans hF
    refine z_aload_n (q := 8) C dX11_isWhole_7 0 rfl rfl rfl ?_
    refine z_getf (q := 11) C clX11 (zon C zo_14) kd_14 (k := 22) (by decide) q_1124 rfl (zfv_i kd_14 rfl) dX11_isWhole_8 rfl ?_
    refine z_if_le (tgt := 25) (q := 14) C dX11_isWhole_11 (by decide) rfl (fun c2 => ?_) (fun c2 => ?_)
    · have hF := (if_pos c2).symm.trans hF
      refine z_iconst (q := 26) C dX11_isWhole_25 rfl ?_
      refine z_istore_n (q := 27) C dX11_isWhole_26 (by decide) rfl rfl rfl ?_
      refine z_iconst (q := 28) C dX11_isWhole_27 rfl ?_
      refine z_istore_n (q := 29) C dX11_isWhole_28 (by decide) rfl rfl rfl ?_
      exact z_sub (J_fX11_isWhole_c29 C hR hd e1 e2 N _ _ hF) [2, 1, 0] rfl
    · have hF := (if_neg c2).symm.trans hF
      refine z_aload_n (q := 15) C dX11_isWhole_14 0 rfl rfl rfl ?_
      refine z_getf (q := 18) C clX11 (zon C zo_14) kd_14 (k := 23) (by decide) q_1125 rfl (zfv_i kd_14 rfl) dX11_isWhole_15 rfl ?_
      refine z_if_le (tgt := 25) (q := 21) C dX11_isWhole_18 (by decide) rfl (fun c3 => ?_) (fun c3 => ?_)
      · have hF := (if_pos c3).symm.trans hF
        refine z_iconst (q := 26) C dX11_isWhole_25 rfl ?_
        refine z_istore_n (q := 27) C dX11_isWhole_26 (by decide) rfl rfl rfl ?_
        refine z_iconst (q := 28) C dX11_isWhole_27 rfl ?_
        refine z_istore_n (q := 29) C dX11_isWhole_28 (by decide) rfl rfl rfl ?_
        exact z_sub (J_fX11_isWhole_c29 C hR hd e1 e2 N _ _ hF) [2, 1, 0] rfl
      · have hF := (if_neg c3).symm.trans hF
        refine z_iconst (q := 22) C dX11_isWhole_21 rfl ?_
        refine z_goto (q := 26) C dX11_isWhole_22 (by decide) ?_
        refine z_istore_n (q := 27) C dX11_isWhole_26 (by decide) rfl rfl rfl ?_
        refine z_iconst (q := 28) C dX11_isWhole_27 rfl ?_
        refine z_istore_n (q := 29) C dX11_isWhole_28 (by decide) rfl rfl rfl ?_
        exact z_sub (J_fX11_isWhole_c29 C hR hd e1 e2 N _ _ hF) [2, 1, 0] rfl
set_option maxRecDepth 20000 in
set_option maxHeartbeats 4000000 in
theorem M_fX11_isWhole {l : Launch} {D : va_G} {cy : ClassId} {α : Nat → Nat} {n : Nat} {σ : zSg} {d : Nat} (hd : 2 ≤ d) {N : Nat} {h : zH} {r : Int} (hF : fX11_isWhole N h = some r) : zMet l yX11_isWhole cX11_isWhole 3 (some .boolean) (zrm d) D cy α n σ [.ref (α 14)] h (some (.int (zi r))) h := by
  obtain ⟨d, rfl⟩ : ∃ e, d = e + 1 := ⟨d - 1, by omega⟩
  refine z_met (by decide +kernel) (Nat.le_of_ble_eq_true rfl) (fun κ k1 k2 k3 k4 k5 k6 k7 k8 k9 C => ?_)
  subst k1 k3 k4 k5 k6 k7
  exact J_fX11_isWhole C k2 hd k8 k9 hF
set_option maxRecDepth 20000 in
set_option maxHeartbeats 4000000 in
theorem J_fX11_readHill_c271 {κ : zT} (C : zC κ RX11 cX11_readHill 4 (some .int)) {d : Nat} (hR : zR κ = zrm (d + 1)) (hd : 5 ≤ d + 1) {N : Nat} {r : Int × zH} (e1 : zrv κ = some (.int (zi r.1))) (e2 : zhf κ = r.2) {K53 : Int → Int → zH → Option (Int × zH)} (hK53 : ∀ (l1 : Int) (l2 : Int) (h : zH), K53 l1 l2 h = some r → Z κ h 53 [(0, .ref (zα κ 14)), (1, .int (zi l1)), (2, .int (zi l2))] []) (l1 : Int) (h : zH) (hF : fX11_readHill_c271 N K53 l1 h = some r) : Z κ h 271 [(0, .ref (zα κ 14)), (1, .int (zi l1))] [] := by
  unfold fX11_readHill_c271 at hF
  refine z_aload_n (q := 272) C dX11_readHill_271 0 rfl rfl rfl ?_
  refine z_getf (q := 275) C clX11 (zon C zo_14) kd_14 (k := 4) (by decide) q_1106 rfl (zfv_i kd_14 rfl) dX11_readHill_272 rfl ?_
  refine z_iconst (q := 276) C dX11_readHill_275 rfl ?_
  refine z_icmp_ne (tgt := 292) (q := 279) C dX11_readHill_276 (by decide) rfl (fun c1 => ?_) (fun c1 => ?_)
  · have hF := (if_neg c1).symm.trans hF
    refine z_iconst (q := 293) C dX11_readHill_292 rfl ?_
    refine z_istore_n (q := 294) C dX11_readHill_293 (by decide) rfl rfl rfl ?_
    refine z_aload_n (q := 295) C dX11_readHill_294 1 rfl rfl rfl ?_
    refine z_dup (q := 296) C dX11_readHill_295 rfl rfl ?_
    refine z_getf (q := 299) C clX11 (zon C zo_14) kd_14 (k := 3) (by decide) q_1105 rfl (zfv_i kd_14 rfl) dX11_readHill_296 rfl ?_
    refine z_iload_n (q := 300) C dX11_readHill_299 0 rfl rfl rfl ?_
    refine z_if_eq (tgt := 307) (q := 303) C dX11_readHill_300 (by decide) rfl (fun c11 => ?_) (fun c11 => ?_)
    · have hF := (if_pos c11).symm.trans hF
      refine z_iconst (q := 308) C dX11_readHill_307 rfl ?_
      refine z_iadd (q := 309) C dX11_readHill_308 rfl ?_
      obtain ⟨h12, eh12, hF⟩ := zlet_e hF
      refine z_putf (q := 312) C clX11 (zon C zo_14) kd_14 (k := 3) (x := (h 14 3) + 0) (by decide) q_1105 rfl rfl rfl rfl (((zfv_i kd_14 rfl)).trans (by rw [if_pos rfl])) dX11_readHill_309 rfl eh12 ?_
      refine z_goto (q := 53) C dX11_readHill_312 (by decide) ?_
      exact z_sub (hK53 _ _ _ hF) [1, 2, 0] rfl
    · have hF := (if_neg c11).symm.trans hF
      refine z_iconst (q := 304) C dX11_readHill_303 rfl ?_
      refine z_goto (q := 308) C dX11_readHill_304 (by decide) ?_
      refine z_iadd (q := 309) C dX11_readHill_308 rfl ?_
      obtain ⟨h13, eh13, hF⟩ := zlet_e hF
      refine z_putf (q := 312) C clX11 (zon C zo_14) kd_14 (k := 3) (x := (h 14 3) + 1) (by decide) q_1105 rfl rfl rfl rfl (((zfv_i kd_14 rfl)).trans (by rw [if_pos rfl])) dX11_readHill_309 rfl eh13 ?_
      refine z_goto (q := 53) C dX11_readHill_312 (by decide) ?_
      exact z_sub (hK53 _ _ _ hF) [1, 2, 0] rfl
  · have hF := (if_pos c1).symm.trans hF
    refine z_aload_n (q := 280) C dX11_readHill_279 0 rfl rfl rfl ?_
    obtain ⟨v3, h2, ev3, hF⟩ := z2_e hF
    refine z_callV (q := 283) (o := 14) (av := []) (rest := []) (stk2 := [.int (zi v3)]) C hR clX11 (zon C zo_14) kd_14 (M_fX11_look (zlv hd rfl) ev3) mY_X11_look q_1279 (Nat.le_of_ble_eq_true rfl) dX11_readHill_280 rfl rfl rfl ?_
    refine z_bipush (q := 285) C dX11_readHill_283 bp_59 rfl ?_
    refine z_icmp_ne (tgt := 292) (q := 288) C dX11_readHill_285 (by decide) rfl (fun c4 => ?_) (fun c4 => ?_)
    · have hF := (if_neg c4).symm.trans hF
      refine z_iconst (q := 293) C dX11_readHill_292 rfl ?_
      refine z_istore_n (q := 294) C dX11_readHill_293 (by decide) rfl rfl rfl ?_
      refine z_aload_n (q := 295) C dX11_readHill_294 1 rfl rfl rfl ?_
      refine z_dup (q := 296) C dX11_readHill_295 rfl rfl ?_
      refine z_getf (q := 299) C clX11 (zon C zo_14) kd_14 (k := 3) (by decide) q_1105 rfl (zfv_i kd_14 rfl) dX11_readHill_296 rfl ?_
      refine z_iload_n (q := 300) C dX11_readHill_299 0 rfl rfl rfl ?_
      refine z_if_eq (tgt := 307) (q := 303) C dX11_readHill_300 (by decide) rfl (fun c8 => ?_) (fun c8 => ?_)
      · have hF := (if_pos c8).symm.trans hF
        refine z_iconst (q := 308) C dX11_readHill_307 rfl ?_
        refine z_iadd (q := 309) C dX11_readHill_308 rfl ?_
        obtain ⟨h9, eh9, hF⟩ := zlet_e hF
        refine z_putf (q := 312) C clX11 (zon C zo_14) kd_14 (k := 3) (x := (h2 14 3) + 0) (by decide) q_1105 rfl rfl rfl rfl (((zfv_i kd_14 rfl)).trans (by rw [if_pos rfl])) dX11_readHill_309 rfl eh9 ?_
        refine z_goto (q := 53) C dX11_readHill_312 (by decide) ?_
        exact z_sub (hK53 _ _ _ hF) [1, 2, 0] rfl
      · have hF := (if_neg c8).symm.trans hF
        refine z_iconst (q := 304) C dX11_readHill_303 rfl ?_
        refine z_goto (q := 308) C dX11_readHill_304 (by decide) ?_
        refine z_iadd (q := 309) C dX11_readHill_308 rfl ?_
        obtain ⟨h10, eh10, hF⟩ := zlet_e hF
        refine z_putf (q := 312) C clX11 (zon C zo_14) kd_14 (k := 3) (x := (h2 14 3) + 1) (by decide) q_1105 rfl rfl rfl rfl (((zfv_i kd_14 rfl)).trans (by rw [if_pos rfl])) dX11_readHill_309 rfl eh10 ?_
        refine z_goto (q := 53) C dX11_readHill_312 (by decide) ?_
        exact z_sub (hK53 _ _ _ hF) [1, 2, 0] rfl
    · have hF := (if_pos c4).symm.trans hF
      refine z_iconst (q := 289) C dX11_readHill_288 rfl ?_
      refine z_goto (q := 293) C dX11_readHill_289 (by decide) ?_
      refine z_istore_n (q := 294) C dX11_readHill_293 (by decide) rfl rfl rfl ?_
      refine z_aload_n (q := 295) C dX11_readHill_294 1 rfl rfl rfl ?_
      refine z_dup (q := 296) C dX11_readHill_295 rfl rfl ?_
      refine z_getf (q := 299) C clX11 (zon C zo_14) kd_14 (k := 3) (by decide) q_1105 rfl (zfv_i kd_14 rfl) dX11_readHill_296 rfl ?_
      refine z_iload_n (q := 300) C dX11_readHill_299 0 rfl rfl rfl ?_
      refine z_if_eq (tgt := 307) (q := 303) C dX11_readHill_300 (by decide) rfl (fun c5 => ?_) (fun c5 => ?_)
      · have hF := (if_pos c5).symm.trans hF
        refine z_iconst (q := 308) C dX11_readHill_307 rfl ?_
        refine z_iadd (q := 309) C dX11_readHill_308 rfl ?_
        obtain ⟨h6, eh6, hF⟩ := zlet_e hF
        refine z_putf (q := 312) C clX11 (zon C zo_14) kd_14 (k := 3) (x := (h2 14 3) + 0) (by decide) q_1105 rfl rfl rfl rfl (((zfv_i kd_14 rfl)).trans (by rw [if_pos rfl])) dX11_readHill_309 rfl eh6 ?_
        refine z_goto (q := 53) C dX11_readHill_312 (by decide) ?_
        exact z_sub (hK53 _ _ _ hF) [1, 2, 0] rfl
      · have hF := (if_neg c5).symm.trans hF
        refine z_iconst (q := 304) C dX11_readHill_303 rfl ?_
        refine z_goto (q := 308) C dX11_readHill_304 (by decide) ?_
        refine z_iadd (q := 309) C dX11_readHill_308 rfl ?_
        obtain ⟨h7, eh7, hF⟩ := zlet_e hF
        refine z_putf (q := 312) C clX11 (zon C zo_14) kd_14 (k := 3) (x := (h2 14 3) + 1) (by decide) q_1105 rfl rfl rfl rfl (((zfv_i kd_14 rfl)).trans (by rw [if_pos rfl])) dX11_readHill_309 rfl eh7 ?_
        refine z_goto (q := 53) C dX11_readHill_312 (by decide) ?_
        exact z_sub (hK53 _ _ _ hF) [1, 2, 0] rfl
set_option maxRecDepth 20000 in
set_option maxHeartbeats 4000000 in
theorem J_fX11_readHill_c213 {κ : zT} (C : zC κ RX11 cX11_readHill 4 (some .int)) {d : Nat} (hR : zR κ = zrm (d + 1)) (hd : 5 ≤ d + 1) {N : Nat} {r : Int × zH} (e1 : zrv κ = some (.int (zi r.1))) (e2 : zhf κ = r.2) {K53 : Int → Int → zH → Option (Int × zH)} (hK53 : ∀ (l1 : Int) (l2 : Int) (h : zH), K53 l1 l2 h = some r → Z κ h 53 [(0, .ref (zα κ 14)), (1, .int (zi l1)), (2, .int (zi l2))] []) (l1 : Int) (l3 : Int) (h : zH) (hF : fX11_readHill_c213 N K53 l1 l3 h = some r) : Z κ h 213 [(0, .ref (zα κ 14)), (1, .int (zi l1)), (3, .int (zi l3))] [] := by
  unfold fX11_readHill_c213 at hF
  refine z_iload_n (q := 214) C dX11_readHill_213 2 rfl rfl rfl ?_
  refine z_bipush (q := 216) C dX11_readHill_214 bp_114 rfl ?_
  refine z_icmp_ne (tgt := 267) (q := 219) C dX11_readHill_216 (by decide) rfl (fun c1 => ?_) (fun c1 => ?_)
  · have hF := (if_neg c1).symm.trans hF
    refine z_aload_n (q := 268) C dX11_readHill_267 0 rfl rfl rfl ?_
    obtain ⟨h7, eh7, hF⟩ := zlet_e hF
    refine z_callV (q := 271) (o := 14) (av := []) (rest := []) (stk2 := []) C hR clX11 (zon C zo_14) kd_14 (M_fX11_bad (zlv hd rfl) eh7.symm) mY_X11_bad q_1310 (Nat.le_of_ble_eq_true rfl) dX11_readHill_268 rfl rfl rfl ?_
    exact z_sub (J_fX11_readHill_c271 C hR hd e1 e2 hK53 _ _ hF) [0, 1] rfl
  · have hF := (if_pos c1).symm.trans hF
    refine z_aload_n (q := 220) C dX11_readHill_219 0 rfl rfl rfl ?_
    refine z_getf (q := 223) C clX11 (zon C zo_14) kd_14 (k := 23) (by decide) q_1125 rfl (zfv_i kd_14 rfl) dX11_readHill_220 rfl ?_
    refine z_bipush (q := 225) C dX11_readHill_223 bp_8 rfl ?_
    refine z_icmp_ge (tgt := 267) (q := 228) C dX11_readHill_225 (by decide) rfl (fun c2 => ?_) (fun c2 => ?_)
    · have hF := (if_pos c2).symm.trans hF
      refine z_aload_n (q := 268) C dX11_readHill_267 0 rfl rfl rfl ?_
      obtain ⟨h3, eh3, hF⟩ := zlet_e hF
      refine z_callV (q := 271) (o := 14) (av := []) (rest := []) (stk2 := []) C hR clX11 (zon C zo_14) kd_14 (M_fX11_bad (zlv hd rfl) eh3.symm) mY_X11_bad q_1310 (Nat.le_of_ble_eq_true rfl) dX11_readHill_268 rfl rfl rfl ?_
      exact z_sub (J_fX11_readHill_c271 C hR hd e1 e2 hK53 _ _ hF) [0, 1] rfl
    · have hF := (if_neg c2).symm.trans hF
      refine z_aload_n (q := 229) C dX11_readHill_228 0 rfl rfl rfl ?_
      refine z_dup (q := 230) C dX11_readHill_229 rfl rfl ?_
      refine z_getf (q := 233) C clX11 (zon C zo_14) kd_14 (k := 3) (by decide) q_1105 rfl (zfv_i kd_14 rfl) dX11_readHill_230 rfl ?_
      refine z_iconst (q := 234) C dX11_readHill_233 rfl ?_
      refine z_iadd (q := 235) C dX11_readHill_234 rfl ?_
      obtain ⟨h4, eh4, hF⟩ := zlet_e hF
      refine z_putf (q := 238) C clX11 (zon C zo_14) kd_14 (k := 3) (x := (h 14 3) + 1) (by decide) q_1105 rfl rfl rfl rfl (((zfv_i kd_14 rfl)).trans (by rw [if_pos rfl])) dX11_readHill_235 rfl eh4 ?_
      refine z_aload_n (q := 239) C dX11_readHill_238 0 rfl rfl rfl ?_
      refine z_iload_n (q := 240) C dX11_readHill_239 2 rfl rfl rfl ?_
      refine z_aload_n (q := 241) C dX11_readHill_240 0 rfl rfl rfl ?_
      refine z_getf (q := 244) C clX11 (zon C zo_14) kd_14 (k := 20) (by decide) q_1122 rfl (zfv_r kd_14 rfl fr_14_20) dX11_readHill_241 rfl ?_
      refine z_iconst (q := 245) C dX11_readHill_244 rfl ?_
      refine z_aload_n (q := 246) C dX11_readHill_245 0 rfl rfl rfl ?_
      refine z_getf (q := 249) C clX11 (zon C zo_14) kd_14 (k := 23) (by decide) q_1125 rfl (zfv_i kd_14 rfl) dX11_readHill_246 rfl ?_
      refine z_imul (q := 250) C dX11_readHill_249 rfl ?_
      refine z_iconst (q := 251) C dX11_readHill_250 rfl ?_
      obtain ⟨h5, eh5, hF⟩ := zb_e hF
      refine z_callV (q := 254) (o := 14) (av := [.int (zi l3), .ref (zα κ 62), .int (zi (3 * (h4 14 23))), .int (zi 3)]) (rest := []) (stk2 := []) C hR clX11 (zon C zo_14) kd_14 (M_fX11_items (zlv hd rfl) zo_62 kd_62 eh5) mY_X11_items q_1287 (Nat.le_of_ble_eq_true rfl) dX11_readHill_251 rfl rfl rfl ?_
      refine z_aload_n (q := 255) C dX11_readHill_254 0 rfl rfl rfl ?_
      refine z_dup (q := 256) C dX11_readHill_255 rfl rfl ?_
      refine z_getf (q := 259) C clX11 (zon C zo_14) kd_14 (k := 23) (by decide) q_1125 rfl (zfv_i kd_14 rfl) dX11_readHill_256 rfl ?_
      refine z_iconst (q := 260) C dX11_readHill_259 rfl ?_
      refine z_iadd (q := 261) C dX11_readHill_260 rfl ?_
      obtain ⟨h6, eh6, hF⟩ := zlet_e hF
      refine z_putf (q := 264) C clX11 (zon C zo_14) kd_14 (k := 23) (x := (h5 14 23) + 1) (by decide) q_1125 rfl rfl rfl rfl (((zfv_i kd_14 rfl)).trans (by rw [if_pos rfl])) dX11_readHill_261 rfl eh6 ?_
      refine z_goto (q := 271) C dX11_readHill_264 (by decide) ?_
      exact z_sub (J_fX11_readHill_c271 C hR hd e1 e2 hK53 _ _ hF) [0, 1] rfl
set_option maxRecDepth 20000 in
set_option maxHeartbeats 4000000 in
theorem J_fX11_readHill_c160 {κ : zT} (C : zC κ RX11 cX11_readHill 4 (some .int)) {d : Nat} (hR : zR κ = zrm (d + 1)) (hd : 5 ≤ d + 1) {N : Nat} {r : Int × zH} (e1 : zrv κ = some (.int (zi r.1))) (e2 : zhf κ = r.2) {K53 : Int → Int → zH → Option (Int × zH)} (hK53 : ∀ (l1 : Int) (l2 : Int) (h : zH), K53 l1 l2 h = some r → Z κ h 53 [(0, .ref (zα κ 14)), (1, .int (zi l1)), (2, .int (zi l2))] []) (l1 : Int) (l3 : Int) (h : zH) (hF : fX11_readHill_c160 N K53 l1 l3 h = some r) : Z κ h 160 [(0, .ref (zα κ 14)), (1, .int (zi l1)), (3, .int (zi l3))] [] := by
  unfold fX11_readHill_c160 at hF
  refine z_iload_n (q := 161) C dX11_readHill_160 2 rfl rfl rfl ?_
  refine z_bipush (q := 163) C dX11_readHill_161 bp_100 rfl ?_
  refine z_icmp_ne (tgt := 213) (q := 166) C dX11_readHill_163 (by decide) rfl (fun c1 => ?_) (fun c1 => ?_)
  · have hF := (if_neg c1).symm.trans hF
    exact z_sub (J_fX11_readHill_c213 C hR hd e1 e2 hK53 _ _ _ hF) [0, 1, 2] rfl
  · have hF := (if_pos c1).symm.trans hF
    refine z_aload_n (q := 167) C dX11_readHill_166 0 rfl rfl rfl ?_
    refine z_getf (q := 170) C clX11 (zon C zo_14) kd_14 (k := 22) (by decide) q_1124 rfl (zfv_i kd_14 rfl) dX11_readHill_167 rfl ?_
    refine z_iconst (q := 171) C dX11_readHill_170 rfl ?_
    refine z_icmp_ge (tgt := 213) (q := 174) C dX11_readHill_171 (by decide) rfl (fun c2 => ?_) (fun c2 => ?_)
    · have hF := (if_pos c2).symm.trans hF
      exact z_sub (J_fX11_readHill_c213 C hR hd e1 e2 hK53 _ _ _ hF) [0, 1, 2] rfl
    · have hF := (if_neg c2).symm.trans hF
      refine z_aload_n (q := 175) C dX11_readHill_174 0 rfl rfl rfl ?_
      refine z_dup (q := 176) C dX11_readHill_175 rfl rfl ?_
      refine z_getf (q := 179) C clX11 (zon C zo_14) kd_14 (k := 3) (by decide) q_1105 rfl (zfv_i kd_14 rfl) dX11_readHill_176 rfl ?_
      refine z_iconst (q := 180) C dX11_readHill_179 rfl ?_
      refine z_iadd (q := 181) C dX11_readHill_180 rfl ?_
      obtain ⟨h3, eh3, hF⟩ := zlet_e hF
      refine z_putf (q := 184) C clX11 (zon C zo_14) kd_14 (k := 3) (x := (h 14 3) + 1) (by decide) q_1105 rfl rfl rfl rfl (((zfv_i kd_14 rfl)).trans (by rw [if_pos rfl])) dX11_readHill_181 rfl eh3 ?_
      refine z_aload_n (q := 185) C dX11_readHill_184 0 rfl rfl rfl ?_
      refine z_iload_n (q := 186) C dX11_readHill_185 2 rfl rfl rfl ?_
      refine z_aload_n (q := 187) C dX11_readHill_186 0 rfl rfl rfl ?_
      refine z_getf (q := 190) C clX11 (zon C zo_14) kd_14 (k := 19) (by decide) q_1121 rfl (zfv_r kd_14 rfl fr_14_19) dX11_readHill_187 rfl ?_
      refine z_iconst (q := 191) C dX11_readHill_190 rfl ?_
      refine z_aload_n (q := 192) C dX11_readHill_191 0 rfl rfl rfl ?_
      refine z_getf (q := 195) C clX11 (zon C zo_14) kd_14 (k := 22) (by decide) q_1124 rfl (zfv_i kd_14 rfl) dX11_readHill_192 rfl ?_
      refine z_imul (q := 196) C dX11_readHill_195 rfl ?_
      refine z_iconst (q := 197) C dX11_readHill_196 rfl ?_
      obtain ⟨h4, eh4, hF⟩ := zb_e hF
      refine z_callV (q := 200) (o := 14) (av := [.int (zi l3), .ref (zα κ 61), .int (zi (4 * (h3 14 22))), .int (zi 4)]) (rest := []) (stk2 := []) C hR clX11 (zon C zo_14) kd_14 (M_fX11_items (zlv hd rfl) zo_61 kd_61 eh4) mY_X11_items q_1287 (Nat.le_of_ble_eq_true rfl) dX11_readHill_197 rfl rfl rfl ?_
      refine z_aload_n (q := 201) C dX11_readHill_200 0 rfl rfl rfl ?_
      refine z_dup (q := 202) C dX11_readHill_201 rfl rfl ?_
      refine z_getf (q := 205) C clX11 (zon C zo_14) kd_14 (k := 22) (by decide) q_1124 rfl (zfv_i kd_14 rfl) dX11_readHill_202 rfl ?_
      refine z_iconst (q := 206) C dX11_readHill_205 rfl ?_
      refine z_iadd (q := 207) C dX11_readHill_206 rfl ?_
      obtain ⟨h5, eh5, hF⟩ := zlet_e hF
      refine z_putf (q := 210) C clX11 (zon C zo_14) kd_14 (k := 22) (x := (h4 14 22) + 1) (by decide) q_1124 rfl rfl rfl rfl (((zfv_i kd_14 rfl)).trans (by rw [if_pos rfl])) dX11_readHill_207 rfl eh5 ?_
      refine z_goto (q := 271) C dX11_readHill_210 (by decide) ?_
      exact z_sub (J_fX11_readHill_c271 C hR hd e1 e2 hK53 _ _ hF) [0, 1] rfl
set_option maxRecDepth 20000 in
set_option maxHeartbeats 4000000 in
theorem J_fX11_readHill_c106 {κ : zT} (C : zC κ RX11 cX11_readHill 4 (some .int)) {d : Nat} (hR : zR κ = zrm (d + 1)) (hd : 5 ≤ d + 1) {N : Nat} {r : Int × zH} (e1 : zrv κ = some (.int (zi r.1))) (e2 : zhf κ = r.2) {K53 : Int → Int → zH → Option (Int × zH)} (hK53 : ∀ (l1 : Int) (l2 : Int) (h : zH), K53 l1 l2 h = some r → Z κ h 53 [(0, .ref (zα κ 14)), (1, .int (zi l1)), (2, .int (zi l2))] []) (l1 : Int) (l3 : Int) (h : zH) (hF : fX11_readHill_c106 N K53 l1 l3 h = some r) : Z κ h 106 [(0, .ref (zα κ 14)), (1, .int (zi l1)), (3, .int (zi l3))] [] := by
  unfold fX11_readHill_c106 at hF
  refine z_iload_n (q := 107) C dX11_readHill_106 2 rfl rfl rfl ?_
  refine z_bipush (q := 109) C dX11_readHill_107 bp_112 rfl ?_
  refine z_icmp_ne (tgt := 160) (q := 112) C dX11_readHill_109 (by decide) rfl (fun c1 => ?_) (fun c1 => ?_)
  · have hF := (if_neg c1).symm.trans hF
    exact z_sub (J_fX11_readHill_c160 C hR hd e1 e2 hK53 _ _ _ hF) [0, 1, 2] rfl
  · have hF := (if_pos c1).symm.trans hF
    refine z_aload_n (q := 113) C dX11_readHill_112 0 rfl rfl rfl ?_
    refine z_getf (q := 116) C clX11 (zon C zo_14) kd_14 (k := 21) (by decide) q_1123 rfl (zfv_i kd_14 rfl) dX11_readHill_113 rfl ?_
    refine z_bipush (q := 118) C dX11_readHill_116 bp_6 rfl ?_
    refine z_icmp_ge (tgt := 160) (q := 121) C dX11_readHill_118 (by decide) rfl (fun c2 => ?_) (fun c2 => ?_)
    · have hF := (if_pos c2).symm.trans hF
      exact z_sub (J_fX11_readHill_c160 C hR hd e1 e2 hK53 _ _ _ hF) [0, 1, 2] rfl
    · have hF := (if_neg c2).symm.trans hF
      refine z_aload_n (q := 122) C dX11_readHill_121 0 rfl rfl rfl ?_
      refine z_dup (q := 123) C dX11_readHill_122 rfl rfl ?_
      refine z_getf (q := 126) C clX11 (zon C zo_14) kd_14 (k := 3) (by decide) q_1105 rfl (zfv_i kd_14 rfl) dX11_readHill_123 rfl ?_
      refine z_iconst (q := 127) C dX11_readHill_126 rfl ?_
      refine z_iadd (q := 128) C dX11_readHill_127 rfl ?_
      obtain ⟨h3, eh3, hF⟩ := zlet_e hF
      refine z_putf (q := 131) C clX11 (zon C zo_14) kd_14 (k := 3) (x := (h 14 3) + 1) (by decide) q_1105 rfl rfl rfl rfl (((zfv_i kd_14 rfl)).trans (by rw [if_pos rfl])) dX11_readHill_128 rfl eh3 ?_
      refine z_aload_n (q := 132) C dX11_readHill_131 0 rfl rfl rfl ?_
      refine z_iload_n (q := 133) C dX11_readHill_132 2 rfl rfl rfl ?_
      refine z_aload_n (q := 134) C dX11_readHill_133 0 rfl rfl rfl ?_
      refine z_getf (q := 137) C clX11 (zon C zo_14) kd_14 (k := 18) (by decide) q_1120 rfl (zfv_r kd_14 rfl fr_14_18) dX11_readHill_134 rfl ?_
      refine z_iconst (q := 138) C dX11_readHill_137 rfl ?_
      refine z_aload_n (q := 139) C dX11_readHill_138 0 rfl rfl rfl ?_
      refine z_getf (q := 142) C clX11 (zon C zo_14) kd_14 (k := 21) (by decide) q_1123 rfl (zfv_i kd_14 rfl) dX11_readHill_139 rfl ?_
      refine z_imul (q := 143) C dX11_readHill_142 rfl ?_
      refine z_iconst (q := 144) C dX11_readHill_143 rfl ?_
      obtain ⟨h4, eh4, hF⟩ := zb_e hF
      refine z_callV (q := 147) (o := 14) (av := [.int (zi l3), .ref (zα κ 60), .int (zi (3 * (h3 14 21))), .int (zi 3)]) (rest := []) (stk2 := []) C hR clX11 (zon C zo_14) kd_14 (M_fX11_items (zlv hd rfl) zo_60 kd_60 eh4) mY_X11_items q_1287 (Nat.le_of_ble_eq_true rfl) dX11_readHill_144 rfl rfl rfl ?_
      refine z_aload_n (q := 148) C dX11_readHill_147 0 rfl rfl rfl ?_
      refine z_dup (q := 149) C dX11_readHill_148 rfl rfl ?_
      refine z_getf (q := 152) C clX11 (zon C zo_14) kd_14 (k := 21) (by decide) q_1123 rfl (zfv_i kd_14 rfl) dX11_readHill_149 rfl ?_
      refine z_iconst (q := 153) C dX11_readHill_152 rfl ?_
      refine z_iadd (q := 154) C dX11_readHill_153 rfl ?_
      obtain ⟨h5, eh5, hF⟩ := zlet_e hF
      refine z_putf (q := 157) C clX11 (zon C zo_14) kd_14 (k := 21) (x := (h4 14 21) + 1) (by decide) q_1123 rfl rfl rfl rfl (((zfv_i kd_14 rfl)).trans (by rw [if_pos rfl])) dX11_readHill_154 rfl eh5 ?_
      refine z_goto (q := 271) C dX11_readHill_157 (by decide) ?_
      exact z_sub (J_fX11_readHill_c271 C hR hd e1 e2 hK53 _ _ hF) [0, 1] rfl
set_option maxRecDepth 20000 in
set_option maxHeartbeats 4000000 in
theorem J_fX11_readHill_c315 {κ : zT} (C : zC κ RX11 cX11_readHill 4 (some .int)) {d : Nat} (hR : zR κ = zrm (d + 1)) (hd : 5 ≤ d + 1) {N : Nat} {r : Int × zH} (e1 : zrv κ = some (.int (zi r.1))) (e2 : zhf κ = r.2) (h : zH) (hF : fX11_readHill_c315 N h = some r) : Z κ h 315 [(0, .ref (zα κ 14))] [] := by
  unfold fX11_readHill_c315 at hF
  refine z_aload_n (q := 316) C dX11_readHill_315 0 rfl rfl rfl ?_
  refine z_getf (q := 319) C clX11 (zon C zo_14) kd_14 (k := 4) (by decide) q_1106 rfl (zfv_i kd_14 rfl) dX11_readHill_316 rfl ?_
  refine z_iconst (q := 320) C dX11_readHill_319 rfl ?_
  refine z_icmp_ne (tgt := 342) (q := 323) C dX11_readHill_320 (by decide) rfl (fun c1 => ?_) (fun c1 => ?_)
  · have hF := (if_neg c1).symm.trans hF
    refine z_aload_n (q := 343) C dX11_readHill_342 0 rfl rfl rfl ?_
    refine z_getf (q := 346) C clX11 (zon C zo_14) kd_14 (k := 4) (by decide) q_1106 rfl (zfv_i kd_14 rfl) dX11_readHill_343 rfl ?_
    have hF := Option.some.inj hF
    subst hF
    exact z_iret C e1 e2 dX11_readHill_346
  · have hF := (if_pos c1).symm.trans hF
    refine z_aload_n (q := 324) C dX11_readHill_323 0 rfl rfl rfl ?_
    obtain ⟨v3, h2, ev3, hF⟩ := z2_e hF
    refine z_callV (q := 327) (o := 14) (av := []) (rest := []) (stk2 := [.int (zi v3)]) C hR clX11 (zon C zo_14) kd_14 (M_fX11_look (zlv hd rfl) ev3) mY_X11_look q_1279 (Nat.le_of_ble_eq_true rfl) dX11_readHill_324 rfl rfl rfl ?_
    refine z_iconst (q := 328) C dX11_readHill_327 rfl ?_
    refine z_icmp_ne (tgt := 338) (q := 331) C dX11_readHill_328 (by decide) rfl (fun c4 => ?_) (fun c4 => ?_)
    · have hF := (if_neg c4).symm.trans hF
      refine z_aload_n (q := 339) C dX11_readHill_338 0 rfl rfl rfl ?_
      obtain ⟨h8, eh8, hF⟩ := zlet_e hF
      refine z_callV (q := 342) (o := 14) (av := []) (rest := []) (stk2 := []) C hR clX11 (zon C zo_14) kd_14 (M_fX11_bad (zlv hd rfl) eh8.symm) mY_X11_bad q_1310 (Nat.le_of_ble_eq_true rfl) dX11_readHill_339 rfl rfl rfl ?_
      refine z_aload_n (q := 343) C dX11_readHill_342 0 rfl rfl rfl ?_
      refine z_getf (q := 346) C clX11 (zon C zo_14) kd_14 (k := 4) (by decide) q_1106 rfl (zfv_i kd_14 rfl) dX11_readHill_343 rfl ?_
      have hF := Option.some.inj hF
      subst hF
      exact z_iret C e1 e2 dX11_readHill_346
    · have hF := (if_pos c4).symm.trans hF
      refine z_aload_n (q := 332) C dX11_readHill_331 0 rfl rfl rfl ?_
      obtain ⟨v5, ev5, hF⟩ := zb_e hF
      refine z_callV (q := 335) (o := 14) (av := []) (rest := []) (stk2 := [.int (zi v5)]) C hR clX11 (zon C zo_14) kd_14 (M_fX11_isWhole (zlv hd rfl) ev5) mY_X11_isWhole q_1317 (Nat.le_of_ble_eq_true rfl) dX11_readHill_332 rfl rfl rfl ?_
      refine z_if_ne (tgt := 342) (q := 338) C dX11_readHill_335 (by decide) rfl (fun c6 => ?_) (fun c6 => ?_)
      · have hF := (if_neg c6).symm.trans hF
        refine z_aload_n (q := 343) C dX11_readHill_342 0 rfl rfl rfl ?_
        refine z_getf (q := 346) C clX11 (zon C zo_14) kd_14 (k := 4) (by decide) q_1106 rfl (zfv_i kd_14 rfl) dX11_readHill_343 rfl ?_
        have hF := Option.some.inj hF
        subst hF
        exact z_iret C e1 e2 dX11_readHill_346
      · have hF := (if_pos c6).symm.trans hF
        refine z_aload_n (q := 339) C dX11_readHill_338 0 rfl rfl rfl ?_
        obtain ⟨h7, eh7, hF⟩ := zlet_e hF
        refine z_callV (q := 342) (o := 14) (av := []) (rest := []) (stk2 := []) C hR clX11 (zon C zo_14) kd_14 (M_fX11_bad (zlv hd rfl) eh7.symm) mY_X11_bad q_1310 (Nat.le_of_ble_eq_true rfl) dX11_readHill_339 rfl rfl rfl ?_
        refine z_aload_n (q := 343) C dX11_readHill_342 0 rfl rfl rfl ?_
        refine z_getf (q := 346) C clX11 (zon C zo_14) kd_14 (k := 4) (by decide) q_1106 rfl (zfv_i kd_14 rfl) dX11_readHill_343 rfl ?_
        have hF := Option.some.inj hF
        subst hF
        exact z_iret C e1 e2 dX11_readHill_346
set_option maxRecDepth 20000 in
set_option maxHeartbeats 4000000 in
theorem J_fX11_readHill_c53b {κ : zT} (C : zC κ RX11 cX11_readHill 4 (some .int)) {d : Nat} (hR : zR κ = zrm (d + 1)) (hd : 5 ≤ d + 1) {N : Nat} {r : Int × zH} (e1 : zrv κ = some (.int (zi r.1))) (e2 : zhf κ = r.2) {K53 : Int → Int → zH → Option (Int × zH)} (hK53 : ∀ (l1 : Int) (l2 : Int) (h : zH), K53 l1 l2 h = some r → Z κ h 53 [(0, .ref (zα κ 14)), (1, .int (zi l1)), (2, .int (zi l2))] []) (l1 : Int) (l2 : Int) (h : zH) (hF : fX11_readHill_c53b N K53 l1 l2 h = some r) : Z κ h 53 [(0, .ref (zα κ 14)), (1, .int (zi l1)), (2, .int (zi l2))] [] := by
  unfold fX11_readHill_c53b at hF
  refine z_iload_n (q := 54) C dX11_readHill_53 2 rfl rfl rfl ?_
  refine z_if_eq (tgt := 315) (q := 57) C dX11_readHill_54 (by decide) rfl (fun c1 => ?_) (fun c1 => ?_)
  · have hF := (if_pos c1).symm.trans hF
    exact z_sub (J_fX11_readHill_c315 C hR hd e1 e2 _ hF) [0] rfl
  · have hF := (if_neg c1).symm.trans hF
    refine z_aload_n (q := 58) C dX11_readHill_57 0 rfl rfl rfl ?_
    refine z_getf (q := 61) C clX11 (zon C zo_14) kd_14 (k := 4) (by decide) q_1106 rfl (zfv_i kd_14 rfl) dX11_readHill_58 rfl ?_
    refine z_iconst (q := 62) C dX11_readHill_61 rfl ?_
    refine z_icmp_ne (tgt := 315) (q := 65) C dX11_readHill_62 (by decide) rfl (fun c2 => ?_) (fun c2 => ?_)
    · have hF := (if_neg c2).symm.trans hF
      exact z_sub (J_fX11_readHill_c315 C hR hd e1 e2 _ hF) [0] rfl
    · have hF := (if_pos c2).symm.trans hF
      refine z_aload_n (q := 66) C dX11_readHill_65 0 rfl rfl rfl ?_
      obtain ⟨v4, h3, ev4, hF⟩ := z2_e hF
      refine z_callV (q := 69) (o := 14) (av := []) (rest := []) (stk2 := [.int (zi v4)]) C hR clX11 (zon C zo_14) kd_14 (M_fX11_look (zlv hd rfl) ev4) mY_X11_look q_1279 (Nat.le_of_ble_eq_true rfl) dX11_readHill_66 rfl rfl rfl ?_
      refine z_istore_n (q := 70) C dX11_readHill_69 (by decide) rfl rfl rfl ?_
      refine z_iload_n (q := 71) C dX11_readHill_70 0 rfl rfl rfl ?_
      refine z_bipush (q := 73) C dX11_readHill_71 bp_115 rfl ?_
      refine z_icmp_ne (tgt := 106) (q := 76) C dX11_readHill_73 (by decide) rfl (fun c5 => ?_) (fun c5 => ?_)
      · have hF := (if_neg c5).symm.trans hF
        exact z_sub (J_fX11_readHill_c106 C hR hd e1 e2 hK53 _ _ _ hF) [1, 2, 0] rfl
      · have hF := (if_pos c5).symm.trans hF
        refine z_iload_n (q := 77) C dX11_readHill_76 2 rfl rfl rfl ?_
        refine z_if_ne (tgt := 106) (q := 80) C dX11_readHill_77 (by decide) rfl (fun c6 => ?_) (fun c6 => ?_)
        · have hF := (if_neg c6).symm.trans hF
          exact z_sub (J_fX11_readHill_c106 C hR hd e1 e2 hK53 _ _ _ hF) [1, 2, 0] rfl
        · have hF := (if_pos c6).symm.trans hF
          refine z_iconst (q := 81) C dX11_readHill_80 rfl ?_
          refine z_istore_n (q := 82) C dX11_readHill_81 (by decide) rfl rfl rfl ?_
          refine z_aload_n (q := 83) C dX11_readHill_82 2 rfl rfl rfl ?_
          refine z_dup (q := 84) C dX11_readHill_83 rfl rfl ?_
          refine z_getf (q := 87) C clX11 (zon C zo_14) kd_14 (k := 3) (by decide) q_1105 rfl (zfv_i kd_14 rfl) dX11_readHill_84 rfl ?_
          refine z_iconst (q := 88) C dX11_readHill_87 rfl ?_
          refine z_iadd (q := 89) C dX11_readHill_88 rfl ?_
          obtain ⟨h7, eh7, hF⟩ := zlet_e hF
          refine z_putf (q := 92) C clX11 (zon C zo_14) kd_14 (k := 3) (x := (h3 14 3) + 1) (by decide) q_1105 rfl rfl rfl rfl (((zfv_i kd_14 rfl)).trans (by rw [if_pos rfl])) dX11_readHill_89 rfl eh7 ?_
          refine z_aload_n (q := 93) C dX11_readHill_92 2 rfl rfl rfl ?_
          refine z_iload_n (q := 94) C dX11_readHill_93 1 rfl rfl rfl ?_
          refine z_aload_n (q := 95) C dX11_readHill_94 2 rfl rfl rfl ?_
          refine z_getf (q := 98) C clX11 (zon C zo_14) kd_14 (k := 17) (by decide) q_1119 rfl (zfv_r kd_14 rfl fr_14_17) dX11_readHill_95 rfl ?_
          refine z_iconst (q := 99) C dX11_readHill_98 rfl ?_
          refine z_iconst (q := 100) C dX11_readHill_99 rfl ?_
          obtain ⟨h8, eh8, hF⟩ := zb_e hF
          refine z_callV (q := 103) (o := 14) (av := [.int (zi v4), .ref (zα κ 59), .int (zi 0), .int (zi 2)]) (rest := []) (stk2 := []) C hR clX11 (zon C zo_14) kd_14 (M_fX11_items (zlv hd rfl) zo_59 kd_59 eh8) mY_X11_items q_1287 (Nat.le_of_ble_eq_true rfl) dX11_readHill_100 rfl rfl rfl ?_
          refine z_goto (q := 271) C dX11_readHill_103 (by decide) ?_
          exact z_sub (J_fX11_readHill_c271 C hR hd e1 e2 hK53 _ _ hF) [2, 0] rfl
set_option maxRecDepth 20000 in
set_option maxHeartbeats 4000000 in
theorem J_fX11_readHill_c53 {κ : zT} (C : zC κ RX11 cX11_readHill 4 (some .int)) {d : Nat} (hR : zR κ = zrm (d + 1)) (hd : 5 ≤ d + 1) {N : Nat} {r : Int × zH} (e1 : zrv κ = some (.int (zi r.1))) (e2 : zhf κ = r.2) : ∀ (k : Nat) (l1 : Int) (l2 : Int) (h : zH), fX11_readHill_c53 N k l1 l2 h = some r → Z κ h 53 [(0, .ref (zα κ 14)), (1, .int (zi l1)), (2, .int (zi l2))] [] := by
  intro k
  induction k with
  | zero => intro l1 l2 h hF; cases hF
  | succ k ih => intro l1 l2 h hF; exact J_fX11_readHill_c53b C hR hd e1 e2 ih l1 l2 h hF
set_option maxRecDepth 20000 in
set_option maxHeartbeats 4000000 in
theorem J_fX11_readHill {κ : zT} (C : zC κ RX11 cX11_readHill 4 (some .int)) {d : Nat} (hR : zR κ = zrm (d + 1)) (hd : 5 ≤ d + 1) {N : Nat} {r : Int × zH} (e1 : zrv κ = some (.int (zi r.1))) (e2 : zhf κ = r.2) {h : zH} (hF : fX11_readHill N h = some r) : Z κ h 0 [(0, .ref (zα κ 14))] [] := by
  unfold fX11_readHill at hF
  refine z_aload_n (q := 1) C dX11_readHill_0 0 rfl rfl rfl ?_
  refine z_iconst (q := 2) C dX11_readHill_1 rfl ?_
  obtain ⟨h1, eh1, hF⟩ := zlet_e hF
  refine z_putf (q := 5) C clX11 (zon C zo_14) kd_14 (k := 3) (x := 0) (by decide) q_1105 rfl rfl rfl rfl (((zfv_i kd_14 rfl)).trans (by rw [if_pos rfl])) dX11_readHill_2 rfl eh1 ?_
  refine z_aload_n (q := 6) C dX11_readHill_5 0 rfl rfl rfl ?_
  refine z_iconst (q := 7) C dX11_readHill_6 rfl ?_
  obtain ⟨h2, eh2, hF⟩ := zlet_e hF
  refine z_putf (q := 10) C clX11 (zon C zo_14) kd_14 (k := 4) (x := (-1)) (by decide) q_1106 rfl rfl rfl rfl (((zfv_i kd_14 rfl)).trans (by rw [if_pos rfl])) dX11_readHill_7 rfl eh2 ?_
  refine z_aload_n (q := 11) C dX11_readHill_10 0 rfl rfl rfl ?_
  refine z_iconst (q := 12) C dX11_readHill_11 rfl ?_
  obtain ⟨h3, eh3, hF⟩ := zlet_e hF
  refine z_putf (q := 15) C clX11 (zon C zo_14) kd_14 (k := 21) (x := 0) (by decide) q_1123 rfl rfl rfl rfl (((zfv_i kd_14 rfl)).trans (by rw [if_pos rfl])) dX11_readHill_12 rfl eh3 ?_
  refine z_aload_n (q := 16) C dX11_readHill_15 0 rfl rfl rfl ?_
  refine z_iconst (q := 17) C dX11_readHill_16 rfl ?_
  obtain ⟨h4, eh4, hF⟩ := zlet_e hF
  refine z_putf (q := 20) C clX11 (zon C zo_14) kd_14 (k := 22) (x := 0) (by decide) q_1124 rfl rfl rfl rfl (((zfv_i kd_14 rfl)).trans (by rw [if_pos rfl])) dX11_readHill_17 rfl eh4 ?_
  refine z_aload_n (q := 21) C dX11_readHill_20 0 rfl rfl rfl ?_
  refine z_iconst (q := 22) C dX11_readHill_21 rfl ?_
  obtain ⟨h5, eh5, hF⟩ := zlet_e hF
  refine z_putf (q := 25) C clX11 (zon C zo_14) kd_14 (k := 23) (x := 0) (by decide) q_1125 rfl rfl rfl rfl (((zfv_i kd_14 rfl)).trans (by rw [if_pos rfl])) dX11_readHill_22 rfl eh5 ?_
  refine z_iconst (q := 26) C dX11_readHill_25 rfl ?_
  refine z_istore_n (q := 27) C dX11_readHill_26 (by decide) rfl rfl rfl ?_
  refine z_aload_n (q := 28) C dX11_readHill_27 1 rfl rfl rfl ?_
  refine z_getf (q := 31) C clX11 (zon C zo_14) kd_14 (k := 17) (by decide) q_1119 rfl (zfv_r kd_14 rfl fr_14_17) dX11_readHill_28 rfl ?_
  refine z_iconst (q := 32) C dX11_readHill_31 rfl ?_
  refine z_bipush (q := 34) C dX11_readHill_32 bp_115 rfl ?_
  refine z_iconst (q := 35) C dX11_readHill_34 rfl ?_
  refine z_callS (q := 38) (av := [.int (zi 115), .int (zi 0)]) (rest := [.int (zi 0), .ref (zα κ 59)]) (stk2 := [.int (zi (fX11_usual 115 0)), .int (zi 0), .ref (zα κ 59)]) C hR (M_fX11_usual (zlv hd rfl) rfl) mY_X11_usual q_1276 (Nat.le_of_ble_eq_true rfl) dX11_readHill_35 rfl rfl rfl ?_
  obtain ⟨h6, eh6, hF⟩ := zlet_e hF
  refine z_iastc (q := 39) (j := 0) C (zon C zo_59) kd_59 zwk_0 (by rw [ln_59]; decide) dX11_readHill_38 rfl eh6 ?_
  refine z_aload_n (q := 40) C dX11_readHill_39 1 rfl rfl rfl ?_
  refine z_getf (q := 43) C clX11 (zon C zo_14) kd_14 (k := 17) (by decide) q_1119 rfl (zfv_r kd_14 rfl fr_14_17) dX11_readHill_40 rfl ?_
  refine z_iconst (q := 44) C dX11_readHill_43 rfl ?_
  refine z_bipush (q := 46) C dX11_readHill_44 bp_115 rfl ?_
  refine z_iconst (q := 47) C dX11_readHill_46 rfl ?_
  refine z_callS (q := 50) (av := [.int (zi 115), .int (zi 1)]) (rest := [.int (zi 1), .ref (zα κ 59)]) (stk2 := [.int (zi (fX11_usual 115 1)), .int (zi 1), .ref (zα κ 59)]) C hR (M_fX11_usual (zlv hd rfl) rfl) mY_X11_usual q_1276 (Nat.le_of_ble_eq_true rfl) dX11_readHill_47 rfl rfl rfl ?_
  obtain ⟨h7, eh7, hF⟩ := zlet_e hF
  refine z_iastc (q := 51) (j := 1) C (zon C zo_59) kd_59 zwk_1 (by rw [ln_59]; decide) dX11_readHill_50 rfl eh7 ?_
  refine z_iconst (q := 52) C dX11_readHill_51 rfl ?_
  refine z_istore_n (q := 53) C dX11_readHill_52 (by decide) rfl rfl rfl ?_
  exact z_sub (J_fX11_readHill_c53 C hR hd e1 e2 N _ _ _ hF) [2, 1, 0] rfl
set_option maxRecDepth 20000 in
set_option maxHeartbeats 4000000 in
theorem M_fX11_readHill {l : Launch} {D : va_G} {cy : ClassId} {α : Nat → Nat} {n : Nat} {σ : zSg} {d : Nat} (hd : 5 ≤ d) {N : Nat} {h : zH} {r : Int} {g : zH} (hF : fX11_readHill N h = some (r, g)) : zMet l yX11_readHill cX11_readHill 4 (some .int) (zrm d) D cy α n σ [.ref (α 14)] h (some (.int (zi r))) g := by
  obtain ⟨d, rfl⟩ : ∃ e, d = e + 1 := ⟨d - 1, by omega⟩
  refine z_met (by decide +kernel) (Nat.le_of_ble_eq_true rfl) (fun κ k1 k2 k3 k4 k5 k6 k7 k8 k9 C => ?_)
  subst k1 k3 k4 k5 k6 k7
  exact J_fX11_readHill C k2 hd k8 k9 hF
set_option maxRecDepth 20000 in
set_option maxHeartbeats 4000000 in
theorem J_fX11_open {κ : zT} (C : zC κ RX11 cX11_open 2 none) {d : Nat} (hR : zR κ = zrm (d + 1)) (hd : 1 ≤ d + 1) {r : zH} (e1 : zrv κ = none) (e2 : zhf κ = r) {a1 : Int} {h : zH} (hF : fX11_open a1 h = some r) : Z κ h 0 [(0, .ref (zα κ 14)), (1, .int (zi a1))] [] := by
  unfold fX11_open at hF
  refine z_aload_n (q := 1) C dX11_open_0 0 rfl rfl rfl ?_
  refine z_iload_n (q := 2) C dX11_open_1 1 rfl rfl rfl ?_
  obtain ⟨h1, eh1, hF⟩ := zlet_e hF
  refine z_putf (q := 5) C clX11 (zon C zo_14) kd_14 (k := 14) (x := a1) (by decide) q_1116 rfl rfl rfl rfl (((zfv_i kd_14 rfl)).trans (by rw [if_pos rfl])) dX11_open_2 rfl eh1 ?_
  refine z_aload_n (q := 6) C dX11_open_5 0 rfl rfl rfl ?_
  refine z_iconst (q := 7) C dX11_open_6 rfl ?_
  obtain ⟨h2, eh2, hF⟩ := zlet_e hF
  refine z_putf (q := 10) C clX11 (zon C zo_14) kd_14 (k := 3) (x := 0) (by decide) q_1105 rfl rfl rfl rfl (((zfv_i kd_14 rfl)).trans (by rw [if_pos rfl])) dX11_open_7 rfl eh2 ?_
  refine z_aload_n (q := 11) C dX11_open_10 0 rfl rfl rfl ?_
  refine z_iconst (q := 12) C dX11_open_11 rfl ?_
  obtain ⟨h3, eh3, hF⟩ := zlet_e hF
  refine z_putf (q := 15) C clX11 (zon C zo_14) kd_14 (k := 4) (x := (-1)) (by decide) q_1106 rfl rfl rfl rfl (((zfv_i kd_14 rfl)).trans (by rw [if_pos rfl])) dX11_open_12 rfl eh3 ?_
  refine z_aload_n (q := 16) C dX11_open_15 0 rfl rfl rfl ?_
  refine z_iconst (q := 17) C dX11_open_16 rfl ?_
  obtain ⟨h4, eh4, hF⟩ := zlet_e hF
  refine z_putf (q := 20) C clX11 (zon C zo_14) kd_14 (k := 5) (x := 0) (by decide) q_1107 rfl rfl rfl rfl (((zfv_i kd_14 rfl)).trans (by rw [if_pos rfl])) dX11_open_17 rfl eh4 ?_
  refine z_aload_n (q := 21) C dX11_open_20 0 rfl rfl rfl ?_
  refine z_getf (q := 24) C clX11 (zon C zo_14) kd_14 (k := 8) (by decide) q_1110 rfl (zfv_r kd_14 rfl fr_14_8) dX11_open_21 rfl ?_
  refine z_iload_n (q := 25) C dX11_open_24 1 rfl rfl rfl ?_
  refine z_iconst (q := 26) C dX11_open_25 rfl ?_
  obtain ⟨g5, hF⟩ := zif_none hF
  obtain ⟨h6, eh6, hF⟩ := zlet_e hF
  refine z_iast (q := 27) C (zon C zo_52) kd_52 g5.1 (by rw [ln_52]; exact g5.2) dX11_open_26 rfl eh6 ?_
  refine z_aload_n (q := 28) C dX11_open_27 0 rfl rfl rfl ?_
  refine z_getf (q := 31) C clX11 (zon C zo_14) kd_14 (k := 9) (by decide) q_1111 rfl (zfv_r kd_14 rfl fr_14_9) dX11_open_28 rfl ?_
  refine z_iload_n (q := 32) C dX11_open_31 1 rfl rfl rfl ?_
  refine z_iconst (q := 33) C dX11_open_32 rfl ?_
  obtain ⟨g7, hF⟩ := zif_none hF
  obtain ⟨h8, eh8, hF⟩ := zlet_e hF
  refine z_iast (q := 34) C (zon C zo_53) kd_53 g7.1 (by rw [ln_53]; exact g7.2) dX11_open_33 rfl eh8 ?_
  have hF := Option.some.inj hF
  subst hF
  exact z_vret C e1 e2 dX11_open_34
set_option maxRecDepth 20000 in
set_option maxHeartbeats 4000000 in
theorem M_fX11_open {l : Launch} {D : va_G} {cy : ClassId} {α : Nat → Nat} {n : Nat} {σ : zSg} {d : Nat} (hd : 1 ≤ d) {a1 : Int} {h : zH} {g : zH} (hF : fX11_open a1 h = some g) : zMet l yX11_open cX11_open 2 none (zrm d) D cy α n σ [.ref (α 14), .int (zi a1)] h (none) g := by
  obtain ⟨d, rfl⟩ : ∃ e, d = e + 1 := ⟨d - 1, by omega⟩
  refine z_met (by decide +kernel) (Nat.le_of_ble_eq_true rfl) (fun κ k1 k2 k3 k4 k5 k6 k7 k8 k9 C => ?_)
  subst k1 k3 k4 k5 k6 k7
  exact J_fX11_open C k2 hd k8 k9 hF
set_option maxRecDepth 20000 in
set_option maxHeartbeats 4000000 in
theorem J_fX11_opens {κ : zT} (C : zC κ RX11 cX11_opens 1 none) {d : Nat} (hR : zR κ = zrm (d + 1)) (hd : 2 ≤ d + 1) {r : zH} (e1 : zrv κ = none) (e2 : zhf κ = r) {h : zH} (hF : fX11_opens h = r) : Z κ h 0 [(0, .ref (zα κ 14))] [] := by
  unfold fX11_opens at hF
  refine z_aload_n (q := 1) C dX11_opens_0 0 rfl rfl rfl ?_
  refine z_getf (q := 4) C clX11 (zon C zo_14) kd_14 (k := 5) (by decide) q_1107 rfl (zfv_i kd_14 rfl) dX11_opens_1 rfl ?_
  refine z_bipush (q := 6) C dX11_opens_4 bp_6 rfl ?_
  refine z_icmp_ne (tgt := 13) (q := 9) C dX11_opens_6 (by decide) rfl (fun c1 => ?_) (fun c1 => ?_)
  · have hF := (if_neg c1).symm.trans hF
    refine z_aload_n (q := 14) C dX11_opens_13 0 rfl rfl rfl ?_
    refine z_dup (q := 15) C dX11_opens_14 rfl rfl ?_
    refine z_getf (q := 18) C clX11 (zon C zo_14) kd_14 (k := 5) (by decide) q_1107 rfl (zfv_i kd_14 rfl) dX11_opens_15 rfl ?_
    refine z_iconst (q := 19) C dX11_opens_18 rfl ?_
    refine z_iadd (q := 20) C dX11_opens_19 rfl ?_
    obtain ⟨h5, eh5, hF⟩ := zlet_e hF
    refine z_putf (q := 23) C clX11 (zon C zo_14) kd_14 (k := 5) (x := (h 14 5) + 1) (by decide) q_1107 rfl rfl rfl rfl (((zfv_i kd_14 rfl)).trans (by rw [if_pos rfl])) dX11_opens_20 rfl eh5 ?_
    refine z_aload_n (q := 24) C dX11_opens_23 0 rfl rfl rfl ?_
    refine z_dup (q := 25) C dX11_opens_24 rfl rfl ?_
    refine z_getf (q := 28) C clX11 (zon C zo_14) kd_14 (k := 3) (by decide) q_1105 rfl (zfv_i kd_14 rfl) dX11_opens_25 rfl ?_
    refine z_iconst (q := 29) C dX11_opens_28 rfl ?_
    refine z_iadd (q := 30) C dX11_opens_29 rfl ?_
    obtain ⟨h6, eh6, hF⟩ := zlet_e hF
    refine z_putf (q := 33) C clX11 (zon C zo_14) kd_14 (k := 3) (x := (h5 14 3) + 1) (by decide) q_1105 rfl rfl rfl rfl (((zfv_i kd_14 rfl)).trans (by rw [if_pos rfl])) dX11_opens_30 rfl eh6 ?_
    subst hF
    exact z_vret C e1 e2 dX11_opens_33
  · have hF := (if_pos c1).symm.trans hF
    refine z_aload_n (q := 10) C dX11_opens_9 0 rfl rfl rfl ?_
    obtain ⟨h2, eh2, hF⟩ := zlet_e hF
    refine z_callV (q := 13) (o := 14) (av := []) (rest := []) (stk2 := []) C hR clX11 (zon C zo_14) kd_14 (M_fX11_bad (zlv hd rfl) eh2.symm) mY_X11_bad q_1310 (Nat.le_of_ble_eq_true rfl) dX11_opens_10 rfl rfl rfl ?_
    refine z_aload_n (q := 14) C dX11_opens_13 0 rfl rfl rfl ?_
    refine z_dup (q := 15) C dX11_opens_14 rfl rfl ?_
    refine z_getf (q := 18) C clX11 (zon C zo_14) kd_14 (k := 5) (by decide) q_1107 rfl (zfv_i kd_14 rfl) dX11_opens_15 rfl ?_
    refine z_iconst (q := 19) C dX11_opens_18 rfl ?_
    refine z_iadd (q := 20) C dX11_opens_19 rfl ?_
    obtain ⟨h3, eh3, hF⟩ := zlet_e hF
    refine z_putf (q := 23) C clX11 (zon C zo_14) kd_14 (k := 5) (x := (h2 14 5) + 1) (by decide) q_1107 rfl rfl rfl rfl (((zfv_i kd_14 rfl)).trans (by rw [if_pos rfl])) dX11_opens_20 rfl eh3 ?_
    refine z_aload_n (q := 24) C dX11_opens_23 0 rfl rfl rfl ?_
    refine z_dup (q := 25) C dX11_opens_24 rfl rfl ?_
    refine z_getf (q := 28) C clX11 (zon C zo_14) kd_14 (k := 3) (by decide) q_1105 rfl (zfv_i kd_14 rfl) dX11_opens_25 rfl ?_
    refine z_iconst (q := 29) C dX11_opens_28 rfl ?_
    refine z_iadd (q := 30) C dX11_opens_29 rfl ?_
    obtain ⟨h4, eh4, hF⟩ := zlet_e hF
    refine z_putf (q := 33) C clX11 (zon C zo_14) kd_14 (k := 3) (x := (h3 14 3) + 1) (by decide) q_1105 rfl rfl rfl rfl (((zfv_i kd_14 rfl)).trans (by rw [if_pos rfl])) dX11_opens_30 rfl eh4 ?_
    subst hF
    exact z_vret C e1 e2 dX11_opens_33
set_option maxRecDepth 20000 in
set_option maxHeartbeats 4000000 in
theorem M_fX11_opens {l : Launch} {D : va_G} {cy : ClassId} {α : Nat → Nat} {n : Nat} {σ : zSg} {d : Nat} (hd : 2 ≤ d) {h : zH} {g : zH} (hF : fX11_opens h = g) : zMet l yX11_opens cX11_opens 1 none (zrm d) D cy α n σ [.ref (α 14)] h (none) g := by
  obtain ⟨d, rfl⟩ : ∃ e, d = e + 1 := ⟨d - 1, by omega⟩
  refine z_met (by decide +kernel) (Nat.le_of_ble_eq_true rfl) (fun κ k1 k2 k3 k4 k5 k6 k7 k8 k9 C => ?_)
  subst k1 k3 k4 k5 k6 k7
  exact J_fX11_opens C k2 hd k8 k9 hF
set_option maxRecDepth 20000 in
set_option maxHeartbeats 4000000 in
theorem J_fX11_put {κ : zT} (C : zC κ RX11 cX11_put 3 none) {d : Nat} (hR : zR κ = zrm (d + 1)) (hd : 1 ≤ d + 1) {r : zH} (e1 : zrv κ = none) (e2 : zhf κ = r) {a1 : Int} {a2 : Int} {h : zH} (hF : fX11_put a1 a2 h = some r) : Z κ h 0 [(0, .ref (zα κ 14)), (1, .int (zi a1)), (2, .int (zi a2))] [] := by
  unfold fX11_put at hF
  refine z_aload_n (q := 1) C dX11_put_0 0 rfl rfl rfl ?_
  refine z_getf (q := 4) C clX11 (zon C zo_14) kd_14 (k := 6) (by decide) q_1108 rfl (zfv_r kd_14 rfl fr_14_6) dX11_put_1 rfl ?_
  refine z_sipush (q := 7) C dX11_put_4 sp_520 rfl ?_
  refine z_aload_n (q := 8) C dX11_put_7 0 rfl rfl rfl ?_
  refine z_getf (q := 11) C clX11 (zon C zo_14) kd_14 (k := 14) (by decide) q_1116 rfl (zfv_i kd_14 rfl) dX11_put_8 rfl ?_
  refine z_imul (q := 12) C dX11_put_11 rfl ?_
  refine z_aload_n (q := 13) C dX11_put_12 0 rfl rfl rfl ?_
  refine z_getf (q := 16) C clX11 (zon C zo_14) kd_14 (k := 8) (by decide) q_1110 rfl (zfv_r kd_14 rfl fr_14_8) dX11_put_13 rfl ?_
  refine z_aload_n (q := 17) C dX11_put_16 0 rfl rfl rfl ?_
  refine z_getf (q := 20) C clX11 (zon C zo_14) kd_14 (k := 14) (by decide) q_1116 rfl (zfv_i kd_14 rfl) dX11_put_17 rfl ?_
  obtain ⟨g1, hF⟩ := zif_none hF
  refine z_iald (q := 21) C (zon C zo_52) kd_52 g1.1 (by rw [ln_52]; exact g1.2) dX11_put_20 rfl ?_
  refine z_iadd (q := 22) C dX11_put_21 rfl ?_
  refine z_iload_n (q := 23) C dX11_put_22 1 rfl rfl rfl ?_
  obtain ⟨g2, hF⟩ := zif_none hF
  obtain ⟨h3, eh3, hF⟩ := zlet_e hF
  refine z_iast (q := 24) C (zon C zo_50) kd_50 g2.1 (by rw [ln_50]; exact g2.2) dX11_put_23 rfl eh3 ?_
  refine z_aload_n (q := 25) C dX11_put_24 0 rfl rfl rfl ?_
  refine z_getf (q := 28) C clX11 (zon C zo_14) kd_14 (k := 7) (by decide) q_1109 rfl (zfv_r kd_14 rfl fr_14_7) dX11_put_25 rfl ?_
  refine z_sipush (q := 31) C dX11_put_28 sp_520 rfl ?_
  refine z_aload_n (q := 32) C dX11_put_31 0 rfl rfl rfl ?_
  refine z_getf (q := 35) C clX11 (zon C zo_14) kd_14 (k := 14) (by decide) q_1116 rfl (zfv_i kd_14 rfl) dX11_put_32 rfl ?_
  refine z_imul (q := 36) C dX11_put_35 rfl ?_
  refine z_aload_n (q := 37) C dX11_put_36 0 rfl rfl rfl ?_
  refine z_getf (q := 40) C clX11 (zon C zo_14) kd_14 (k := 8) (by decide) q_1110 rfl (zfv_r kd_14 rfl fr_14_8) dX11_put_37 rfl ?_
  refine z_aload_n (q := 41) C dX11_put_40 0 rfl rfl rfl ?_
  refine z_getf (q := 44) C clX11 (zon C zo_14) kd_14 (k := 14) (by decide) q_1116 rfl (zfv_i kd_14 rfl) dX11_put_41 rfl ?_
  obtain ⟨g4, hF⟩ := zif_none hF
  refine z_iald (q := 45) C (zon C zo_52) kd_52 g4.1 (by rw [ln_52]; exact g4.2) dX11_put_44 rfl ?_
  refine z_iadd (q := 46) C dX11_put_45 rfl ?_
  refine z_iload_n (q := 47) C dX11_put_46 2 rfl rfl rfl ?_
  obtain ⟨g5, hF⟩ := zif_none hF
  obtain ⟨h6, eh6, hF⟩ := zlet_e hF
  refine z_iast (q := 48) C (zon C zo_51) kd_51 g5.1 (by rw [ln_51]; exact g5.2) dX11_put_47 rfl eh6 ?_
  refine z_aload_n (q := 49) C dX11_put_48 0 rfl rfl rfl ?_
  refine z_getf (q := 52) C clX11 (zon C zo_14) kd_14 (k := 8) (by decide) q_1110 rfl (zfv_r kd_14 rfl fr_14_8) dX11_put_49 rfl ?_
  refine z_aload_n (q := 53) C dX11_put_52 0 rfl rfl rfl ?_
  refine z_getf (q := 56) C clX11 (zon C zo_14) kd_14 (k := 14) (by decide) q_1116 rfl (zfv_i kd_14 rfl) dX11_put_53 rfl ?_
  obtain ⟨v7, ev7, hF⟩ := zlet_e hF
  refine z_topE ev7 ?_
  refine z_dup2 (q := 57) C dX11_put_56 rfl rfl rfl ?_
  obtain ⟨g8, hF⟩ := zif_none hF
  refine z_iald (q := 58) C (zon C zo_52) kd_52 g8.1 (by rw [ln_52]; exact g8.2) dX11_put_57 rfl ?_
  refine z_iconst (q := 59) C dX11_put_58 rfl ?_
  refine z_iadd (q := 60) C dX11_put_59 rfl ?_
  obtain ⟨g9, hF⟩ := zif_none hF
  obtain ⟨h10, eh10, hF⟩ := zlet_e hF
  refine z_iast (q := 61) C (zon C zo_52) kd_52 g9.1 (by rw [ln_52]; exact g9.2) dX11_put_60 rfl eh10 ?_
  have hF := Option.some.inj hF
  subst hF
  exact z_vret C e1 e2 dX11_put_61
set_option maxRecDepth 20000 in
set_option maxHeartbeats 4000000 in
theorem M_fX11_put {l : Launch} {D : va_G} {cy : ClassId} {α : Nat → Nat} {n : Nat} {σ : zSg} {d : Nat} (hd : 1 ≤ d) {a1 : Int} {a2 : Int} {h : zH} {g : zH} (hF : fX11_put a1 a2 h = some g) : zMet l yX11_put cX11_put 3 none (zrm d) D cy α n σ [.ref (α 14), .int (zi a1), .int (zi a2)] h (none) g := by
  obtain ⟨d, rfl⟩ : ∃ e, d = e + 1 := ⟨d - 1, by omega⟩
  refine z_met (by decide +kernel) (Nat.le_of_ble_eq_true rfl) (fun κ k1 k2 k3 k4 k5 k6 k7 k8 k9 C => ?_)
  subst k1 k3 k4 k5 k6 k7
  exact J_fX11_put C k2 hd k8 k9 hF
set_option maxRecDepth 20000 in
set_option maxHeartbeats 4000000 in
theorem J_fX11_closes_c20 {κ : zT} (C : zC κ RX11 cX11_closes 2 none) {d : Nat} (hR : zR κ = zrm (d + 1)) (hd : 3 ≤ d + 1) {N : Nat} {r : zH} (e1 : zrv κ = none) (e2 : zhf κ = r) (h : zH) (hF : fX11_closes_c20 N h = some r) : Z κ h 20 [(0, .ref (zα κ 14))] [] := by
  unfold fX11_closes_c20 at hF
  refine z_aload_n (q := 21) C dX11_closes_20 0 rfl rfl rfl ?_
  refine z_dup (q := 22) C dX11_closes_21 rfl rfl ?_
  refine z_getf (q := 25) C clX11 (zon C zo_14) kd_14 (k := 3) (by decide) q_1105 rfl (zfv_i kd_14 rfl) dX11_closes_22 rfl ?_
  refine z_iconst (q := 26) C dX11_closes_25 rfl ?_
  refine z_iadd (q := 27) C dX11_closes_26 rfl ?_
  obtain ⟨h1, eh1, hF⟩ := zlet_e hF
  refine z_putf (q := 30) C clX11 (zon C zo_14) kd_14 (k := 3) (x := (h 14 3) + 1) (by decide) q_1105 rfl rfl rfl rfl (((zfv_i kd_14 rfl)).trans (by rw [if_pos rfl])) dX11_closes_27 rfl eh1 ?_
  refine z_aload_n (q := 31) C dX11_closes_30 0 rfl rfl rfl ?_
  refine z_dup (q := 32) C dX11_closes_31 rfl rfl ?_
  refine z_getf (q := 35) C clX11 (zon C zo_14) kd_14 (k := 5) (by decide) q_1107 rfl (zfv_i kd_14 rfl) dX11_closes_32 rfl ?_
  refine z_iconst (q := 36) C dX11_closes_35 rfl ?_
  refine z_isub (q := 37) C dX11_closes_36 rfl ?_
  obtain ⟨h2, eh2, hF⟩ := zlet_e hF
  refine z_putf (q := 40) C clX11 (zon C zo_14) kd_14 (k := 5) (x := (h1 14 5) - 1) (by decide) q_1107 rfl rfl rfl rfl (((zfv_i kd_14 rfl)).trans (by rw [if_pos rfl])) dX11_closes_37 rfl eh2 ?_
  have hF := Option.some.inj hF
  subst hF
  exact z_vret C e1 e2 dX11_closes_40
set_option maxRecDepth 20000 in
set_option maxHeartbeats 4000000 in
theorem J_fX11_closes {κ : zT} (C : zC κ RX11 cX11_closes 2 none) {d : Nat} (hR : zR κ = zrm (d + 1)) (hd : 3 ≤ d + 1) {N : Nat} {r : zH} (e1 : zrv κ = none) (e2 : zhf κ = r) {a1 : Int} {h : zH} (hF : fX11_closes N a1 h = some r) : Z κ h 0 [(0, .ref (zα κ 14)), (1, .int (zi a1))] [] := by
  unfold fX11_closes at hF
  refine z_aload_n (q := 1) C dX11_closes_0 0 rfl rfl rfl ?_
  refine z_getf (q := 4) C clX11 (zon C zo_14) kd_14 (k := 4) (by decide) q_1106 rfl (zfv_i kd_14 rfl) dX11_closes_1 rfl ?_
  refine z_iconst (q := 5) C dX11_closes_4 rfl ?_
  refine z_icmp_ne (tgt := 20) (q := 8) C dX11_closes_5 (by decide) rfl (fun c1 => ?_) (fun c1 => ?_)
  · have hF := (if_neg c1).symm.trans hF
    exact z_sub (J_fX11_closes_c20 C hR hd e1 e2 _ hF) [0] rfl
  · have hF := (if_pos c1).symm.trans hF
    refine z_aload_n (q := 9) C dX11_closes_8 0 rfl rfl rfl ?_
    obtain ⟨v3, h2, ev3, hF⟩ := z2_e hF
    refine z_callV (q := 12) (o := 14) (av := []) (rest := []) (stk2 := [.int (zi v3)]) C hR clX11 (zon C zo_14) kd_14 (M_fX11_look (zlv hd rfl) ev3) mY_X11_look q_1279 (Nat.le_of_ble_eq_true rfl) dX11_closes_9 rfl rfl rfl ?_
    refine z_iload_n (q := 13) C dX11_closes_12 1 rfl rfl rfl ?_
    refine z_icmp_eq (tgt := 20) (q := 16) C dX11_closes_13 (by decide) rfl (fun c4 => ?_) (fun c4 => ?_)
    · have hF := (if_pos c4).symm.trans hF
      exact z_sub (J_fX11_closes_c20 C hR hd e1 e2 _ hF) [0] rfl
    · have hF := (if_neg c4).symm.trans hF
      refine z_aload_n (q := 17) C dX11_closes_16 0 rfl rfl rfl ?_
      obtain ⟨h5, eh5, hF⟩ := zlet_e hF
      refine z_callV (q := 20) (o := 14) (av := []) (rest := []) (stk2 := []) C hR clX11 (zon C zo_14) kd_14 (M_fX11_bad (zlv hd rfl) eh5.symm) mY_X11_bad q_1310 (Nat.le_of_ble_eq_true rfl) dX11_closes_17 rfl rfl rfl ?_
      exact z_sub (J_fX11_closes_c20 C hR hd e1 e2 _ hF) [0] rfl
set_option maxRecDepth 20000 in
set_option maxHeartbeats 4000000 in
theorem M_fX11_closes {l : Launch} {D : va_G} {cy : ClassId} {α : Nat → Nat} {n : Nat} {σ : zSg} {d : Nat} (hd : 3 ≤ d) {N : Nat} {a1 : Int} {h : zH} {g : zH} (hF : fX11_closes N a1 h = some g) : zMet l yX11_closes cX11_closes 2 none (zrm d) D cy α n σ [.ref (α 14), .int (zi a1)] h (none) g := by
  obtain ⟨d, rfl⟩ : ∃ e, d = e + 1 := ⟨d - 1, by omega⟩
  refine z_met (by decide +kernel) (Nat.le_of_ble_eq_true rfl) (fun κ k1 k2 k3 k4 k5 k6 k7 k8 k9 C => ?_)
  subst k1 k3 k4 k5 k6 k7
  exact J_fX11_closes C k2 hd k8 k9 hF
set_option maxRecDepth 20000 in
set_option maxHeartbeats 4000000 in
theorem J_fX11_plainNumber_c4b {κ : zT} (C : zC κ RX11 cX11_plainNumber 3 (some .int)) {d : Nat} (hR : zR κ = zrm (d + 1)) (hd : 2 ≤ d + 1) {N : Nat} {r : Int × zH} (e1 : zrv κ = some (.int (zi r.1))) (e2 : zhf κ = r.2) {K4 : Int → Int → zH → Option (Int × zH)} (hK4 : ∀ (l1 : Int) (l2 : Int) (h : zH), K4 l1 l2 h = some r → Z κ h 4 [(0, .ref (zα κ 14)), (1, .int (zi l1)), (2, .int (zi l2))] []) (l1 : Int) (l2 : Int) (h : zH) (hF : fX11_plainNumber_c4b N K4 l1 l2 h = some r) : Z κ h 4 [(0, .ref (zα κ 14)), (1, .int (zi l1)), (2, .int (zi l2))] [] := by
  unfold fX11_plainNumber_c4b at hF
  refine z_iload_n (q := 5) C dX11_plainNumber_4 2 rfl rfl rfl ?_
  refine z_iconst (q := 6) C dX11_plainNumber_5 rfl ?_
  refine z_icmp_ge (tgt := 48) (q := 9) C dX11_plainNumber_6 (by decide) rfl (fun c1 => ?_) (fun c1 => ?_)
  · have hF := (if_pos c1).symm.trans hF
    refine z_aload_n (q := 49) C dX11_plainNumber_48 0 rfl rfl rfl ?_
    obtain ⟨v2, ev2, hF⟩ := zb_e hF
    refine z_callV (q := 52) (o := 14) (av := []) (rest := []) (stk2 := [.int (zi v2)]) C hR clX11 (zon C zo_14) kd_14 (M_fX11_here (zlv hd rfl) ev2) mY_X11_here q_1283 (Nat.le_of_ble_eq_true rfl) dX11_plainNumber_49 rfl rfl rfl ?_
    refine z_callS (q := 55) (av := [.int (zi v2)]) (rest := []) (stk2 := [.int (zi (fX11_isDigit v2))]) C hR (M_fX11_isDigit (zlv hd rfl) rfl) mY_X11_isDigit q_1307 (Nat.le_of_ble_eq_true rfl) dX11_plainNumber_52 rfl rfl rfl ?_
    refine z_if_eq (tgt := 62) (q := 58) C dX11_plainNumber_55 (by decide) rfl (fun c3 => ?_) (fun c3 => ?_)
    · have hF := (if_pos c3).symm.trans hF
      refine z_iload_n (q := 63) C dX11_plainNumber_62 1 rfl rfl rfl ?_
      have hF := Option.some.inj hF
      subst hF
      exact z_iret C e1 e2 dX11_plainNumber_63
    · have hF := (if_neg c3).symm.trans hF
      refine z_aload_n (q := 59) C dX11_plainNumber_58 0 rfl rfl rfl ?_
      obtain ⟨h4, eh4, hF⟩ := zlet_e hF
      refine z_callV (q := 62) (o := 14) (av := []) (rest := []) (stk2 := []) C hR clX11 (zon C zo_14) kd_14 (M_fX11_bad (zlv hd rfl) eh4.symm) mY_X11_bad q_1310 (Nat.le_of_ble_eq_true rfl) dX11_plainNumber_59 rfl rfl rfl ?_
      refine z_iload_n (q := 63) C dX11_plainNumber_62 1 rfl rfl rfl ?_
      have hF := Option.some.inj hF
      subst hF
      exact z_iret C e1 e2 dX11_plainNumber_63
  · have hF := (if_neg c1).symm.trans hF
    refine z_aload_n (q := 10) C dX11_plainNumber_9 0 rfl rfl rfl ?_
    obtain ⟨v5, ev5, hF⟩ := zb_e hF
    refine z_callV (q := 13) (o := 14) (av := []) (rest := []) (stk2 := [.int (zi v5)]) C hR clX11 (zon C zo_14) kd_14 (M_fX11_here (zlv hd rfl) ev5) mY_X11_here q_1283 (Nat.le_of_ble_eq_true rfl) dX11_plainNumber_10 rfl rfl rfl ?_
    refine z_callS (q := 16) (av := [.int (zi v5)]) (rest := []) (stk2 := [.int (zi (fX11_isDigit v5))]) C hR (M_fX11_isDigit (zlv hd rfl) rfl) mY_X11_isDigit q_1307 (Nat.le_of_ble_eq_true rfl) dX11_plainNumber_13 rfl rfl rfl ?_
    refine z_if_eq (tgt := 48) (q := 19) C dX11_plainNumber_16 (by decide) rfl (fun c6 => ?_) (fun c6 => ?_)
    · have hF := (if_pos c6).symm.trans hF
      refine z_aload_n (q := 49) C dX11_plainNumber_48 0 rfl rfl rfl ?_
      obtain ⟨v7, ev7, hF⟩ := zb_e hF
      refine z_callV (q := 52) (o := 14) (av := []) (rest := []) (stk2 := [.int (zi v7)]) C hR clX11 (zon C zo_14) kd_14 (M_fX11_here (zlv hd rfl) ev7) mY_X11_here q_1283 (Nat.le_of_ble_eq_true rfl) dX11_plainNumber_49 rfl rfl rfl ?_
      refine z_callS (q := 55) (av := [.int (zi v7)]) (rest := []) (stk2 := [.int (zi (fX11_isDigit v7))]) C hR (M_fX11_isDigit (zlv hd rfl) rfl) mY_X11_isDigit q_1307 (Nat.le_of_ble_eq_true rfl) dX11_plainNumber_52 rfl rfl rfl ?_
      refine z_if_eq (tgt := 62) (q := 58) C dX11_plainNumber_55 (by decide) rfl (fun c8 => ?_) (fun c8 => ?_)
      · have hF := (if_pos c8).symm.trans hF
        refine z_iload_n (q := 63) C dX11_plainNumber_62 1 rfl rfl rfl ?_
        have hF := Option.some.inj hF
        subst hF
        exact z_iret C e1 e2 dX11_plainNumber_63
      · have hF := (if_neg c8).symm.trans hF
        refine z_aload_n (q := 59) C dX11_plainNumber_58 0 rfl rfl rfl ?_
        obtain ⟨h9, eh9, hF⟩ := zlet_e hF
        refine z_callV (q := 62) (o := 14) (av := []) (rest := []) (stk2 := []) C hR clX11 (zon C zo_14) kd_14 (M_fX11_bad (zlv hd rfl) eh9.symm) mY_X11_bad q_1310 (Nat.le_of_ble_eq_true rfl) dX11_plainNumber_59 rfl rfl rfl ?_
        refine z_iload_n (q := 63) C dX11_plainNumber_62 1 rfl rfl rfl ?_
        have hF := Option.some.inj hF
        subst hF
        exact z_iret C e1 e2 dX11_plainNumber_63
    · have hF := (if_neg c6).symm.trans hF
      refine z_bipush (q := 21) C dX11_plainNumber_19 bp_10 rfl ?_
      refine z_iload_n (q := 22) C dX11_plainNumber_21 1 rfl rfl rfl ?_
      refine z_imul (q := 23) C dX11_plainNumber_22 rfl ?_
      refine z_aload_n (q := 24) C dX11_plainNumber_23 0 rfl rfl rfl ?_
      obtain ⟨v10, ev10, hF⟩ := zb_e hF
      refine z_callV (q := 27) (o := 14) (av := []) (rest := [.int (zi (10 * l1))]) (stk2 := [.int (zi v10), .int (zi (10 * l1))]) C hR clX11 (zon C zo_14) kd_14 (M_fX11_here (zlv hd rfl) ev10) mY_X11_here q_1283 (Nat.le_of_ble_eq_true rfl) dX11_plainNumber_24 rfl rfl rfl ?_
      refine z_iadd (q := 28) C dX11_plainNumber_27 rfl ?_
      refine z_bipush (q := 30) C dX11_plainNumber_28 bp_48 rfl ?_
      refine z_isub (q := 31) C dX11_plainNumber_30 rfl ?_
      obtain ⟨v11, ev11, hF⟩ := zlet_e hF
      refine z_istoreE_n (q := 32) C ev11 dX11_plainNumber_31 (by decide) rfl rfl rfl ?_
      refine z_aload_n (q := 33) C dX11_plainNumber_32 1 rfl rfl rfl ?_
      refine z_dup (q := 34) C dX11_plainNumber_33 rfl rfl ?_
      refine z_getf (q := 37) C clX11 (zon C zo_14) kd_14 (k := 3) (by decide) q_1105 rfl (zfv_i kd_14 rfl) dX11_plainNumber_34 rfl ?_
      refine z_iconst (q := 38) C dX11_plainNumber_37 rfl ?_
      refine z_iadd (q := 39) C dX11_plainNumber_38 rfl ?_
      obtain ⟨h12, eh12, hF⟩ := zlet_e hF
      refine z_putf (q := 42) C clX11 (zon C zo_14) kd_14 (k := 3) (x := (h 14 3) + 1) (by decide) q_1105 rfl rfl rfl rfl (((zfv_i kd_14 rfl)).trans (by rw [if_pos rfl])) dX11_plainNumber_39 rfl eh12 ?_
      refine z_iinc (q := 45) (x := l2) C dX11_plainNumber_42 (j := 2) rfl (by decide) rfl rfl ?_
      refine z_goto (q := 4) C dX11_plainNumber_45 (by decide) ?_
      exact z_sub (hK4 _ _ _ hF) [2, 1, 0] rfl
set_option maxRecDepth 20000 in
set_option maxHeartbeats 4000000 in
theorem J_fX11_plainNumber_c4 {κ : zT} (C : zC κ RX11 cX11_plainNumber 3 (some .int)) {d : Nat} (hR : zR κ = zrm (d + 1)) (hd : 2 ≤ d + 1) {N : Nat} {r : Int × zH} (e1 : zrv κ = some (.int (zi r.1))) (e2 : zhf κ = r.2) : ∀ (k : Nat) (l1 : Int) (l2 : Int) (h : zH), fX11_plainNumber_c4 N k l1 l2 h = some r → Z κ h 4 [(0, .ref (zα κ 14)), (1, .int (zi l1)), (2, .int (zi l2))] [] := by
  intro k
  induction k with
  | zero => intro l1 l2 h hF; cases hF
  | succ k ih => intro l1 l2 h hF; exact J_fX11_plainNumber_c4b C hR hd e1 e2 ih l1 l2 h hF
set_option maxRecDepth 20000 in
set_option maxHeartbeats 4000000 in
theorem J_fX11_plainNumber {κ : zT} (C : zC κ RX11 cX11_plainNumber 3 (some .int)) {d : Nat} (hR : zR κ = zrm (d + 1)) (hd : 2 ≤ d + 1) {N : Nat} {r : Int × zH} (e1 : zrv κ = some (.int (zi r.1))) (e2 : zhf κ = r.2) {h : zH} (hF : fX11_plainNumber N h = some r) : Z κ h 0 [(0, .ref (zα κ 14))] [] := by
  unfold fX11_plainNumber at hF
  refine z_iconst (q := 1) C dX11_plainNumber_0 rfl ?_
  refine z_istore_n (q := 2) C dX11_plainNumber_1 (by decide) rfl rfl rfl ?_
  refine z_iconst (q := 3) C dX11_plainNumber_2 rfl ?_
  refine z_istore_n (q := 4) C dX11_plainNumber_3 (by decide) rfl rfl rfl ?_
  exact z_sub (J_fX11_plainNumber_c4 C hR hd e1 e2 N _ _ _ hF) [2, 1, 0] rfl
set_option maxRecDepth 20000 in
set_option maxHeartbeats 4000000 in
theorem M_fX11_plainNumber {l : Launch} {D : va_G} {cy : ClassId} {α : Nat → Nat} {n : Nat} {σ : zSg} {d : Nat} (hd : 2 ≤ d) {N : Nat} {h : zH} {r : Int} {g : zH} (hF : fX11_plainNumber N h = some (r, g)) : zMet l yX11_plainNumber cX11_plainNumber 3 (some .int) (zrm d) D cy α n σ [.ref (α 14)] h (some (.int (zi r))) g := by
  obtain ⟨d, rfl⟩ : ∃ e, d = e + 1 := ⟨d - 1, by omega⟩
  refine z_met (by decide +kernel) (Nat.le_of_ble_eq_true rfl) (fun κ k1 k2 k3 k4 k5 k6 k7 k8 k9 C => ?_)
  subst k1 k3 k4 k5 k6 k7
  exact J_fX11_plainNumber C k2 hd k8 k9 hF
set_option maxRecDepth 20000 in
set_option maxHeartbeats 4000000 in
theorem J_fX11_letterOf {κ : zT} (C : zC κ RX11 cX11_letterOf 1 (some .int)) {d : Nat} (hR : zR κ = zrm (d + 1)) (hd : 1 ≤ d + 1) {h : zH} {r : Int} (e1 : zrv κ = some (.int (zi r))) (e2 : zhf κ = h) {a0 : Int} (hF : fX11_letterOf a0 = r) : Z κ h 0 [(0, .int (zi a0))] [] := by
  unfold fX11_letterOf at hF
  refine z_iload_n (q := 1) C dX11_letterOf_0 0 rfl rfl rfl ?_
  refine z_bipush (q := 3) C dX11_letterOf_1 bp_104 rfl ?_
  refine z_icmp_ne (tgt := 10) (q := 6) C dX11_letterOf_3 (by decide) rfl (fun c1 => ?_) (fun c1 => ?_)
  · have hF := (if_neg c1).symm.trans hF
    refine z_iload_n (q := 11) C dX11_letterOf_10 0 rfl rfl rfl ?_
    refine z_bipush (q := 13) C dX11_letterOf_11 bp_100 rfl ?_
    refine z_icmp_ne (tgt := 20) (q := 16) C dX11_letterOf_13 (by decide) rfl (fun c2 => ?_) (fun c2 => ?_)
    · have hF := (if_neg c2).symm.trans hF
      refine z_iload_n (q := 21) C dX11_letterOf_20 0 rfl rfl rfl ?_
      refine z_bipush (q := 23) C dX11_letterOf_21 bp_119 rfl ?_
      refine z_icmp_ne (tgt := 30) (q := 26) C dX11_letterOf_23 (by decide) rfl (fun c3 => ?_) (fun c3 => ?_)
      · have hF := (if_neg c3).symm.trans hF
        refine z_iload_n (q := 31) C dX11_letterOf_30 0 rfl rfl rfl ?_
        refine z_bipush (q := 33) C dX11_letterOf_31 bp_107 rfl ?_
        refine z_icmp_ne (tgt := 40) (q := 36) C dX11_letterOf_33 (by decide) rfl (fun c4 => ?_) (fun c4 => ?_)
        · have hF := (if_neg c4).symm.trans hF
          refine z_iload_n (q := 41) C dX11_letterOf_40 0 rfl rfl rfl ?_
          refine z_bipush (q := 43) C dX11_letterOf_41 bp_112 rfl ?_
          refine z_icmp_ne (tgt := 50) (q := 46) C dX11_letterOf_43 (by decide) rfl (fun c5 => ?_) (fun c5 => ?_)
          · have hF := (if_neg c5).symm.trans hF
            refine z_iload_n (q := 51) C dX11_letterOf_50 0 rfl rfl rfl ?_
            refine z_bipush (q := 53) C dX11_letterOf_51 bp_110 rfl ?_
            refine z_icmp_ne (tgt := 60) (q := 56) C dX11_letterOf_53 (by decide) rfl (fun c6 => ?_) (fun c6 => ?_)
            · have hF := (if_neg c6).symm.trans hF
              refine z_iload_n (q := 61) C dX11_letterOf_60 0 rfl rfl rfl ?_
              refine z_bipush (q := 63) C dX11_letterOf_61 bp_122 rfl ?_
              refine z_icmp_ne (tgt := 71) (q := 66) C dX11_letterOf_63 (by decide) rfl (fun c7 => ?_) (fun c7 => ?_)
              · have hF := (if_neg c7).symm.trans hF
                refine z_iconst (q := 72) C dX11_letterOf_71 rfl ?_
                subst hF
                exact z_iret C e1 e2 dX11_letterOf_72
              · have hF := (if_pos c7).symm.trans hF
                refine z_bipush (q := 68) C dX11_letterOf_66 bp_6 rfl ?_
                refine z_goto (q := 72) C dX11_letterOf_68 (by decide) ?_
                subst hF
                exact z_iret C e1 e2 dX11_letterOf_72
            · have hF := (if_pos c6).symm.trans hF
              refine z_iconst (q := 57) C dX11_letterOf_56 rfl ?_
              refine z_goto (q := 72) C dX11_letterOf_57 (by decide) ?_
              subst hF
              exact z_iret C e1 e2 dX11_letterOf_72
          · have hF := (if_pos c5).symm.trans hF
            refine z_iconst (q := 47) C dX11_letterOf_46 rfl ?_
            refine z_goto (q := 72) C dX11_letterOf_47 (by decide) ?_
            subst hF
            exact z_iret C e1 e2 dX11_letterOf_72
        · have hF := (if_pos c4).symm.trans hF
          refine z_iconst (q := 37) C dX11_letterOf_36 rfl ?_
          refine z_goto (q := 72) C dX11_letterOf_37 (by decide) ?_
          subst hF
          exact z_iret C e1 e2 dX11_letterOf_72
      · have hF := (if_pos c3).symm.trans hF
        refine z_iconst (q := 27) C dX11_letterOf_26 rfl ?_
        refine z_goto (q := 72) C dX11_letterOf_27 (by decide) ?_
        subst hF
        exact z_iret C e1 e2 dX11_letterOf_72
    · have hF := (if_pos c2).symm.trans hF
      refine z_iconst (q := 17) C dX11_letterOf_16 rfl ?_
      refine z_goto (q := 72) C dX11_letterOf_17 (by decide) ?_
      subst hF
      exact z_iret C e1 e2 dX11_letterOf_72
  · have hF := (if_pos c1).symm.trans hF
    refine z_iconst (q := 7) C dX11_letterOf_6 rfl ?_
    refine z_goto (q := 72) C dX11_letterOf_7 (by decide) ?_
    subst hF
    exact z_iret C e1 e2 dX11_letterOf_72
set_option maxRecDepth 20000 in
set_option maxHeartbeats 4000000 in
theorem M_fX11_letterOf {l : Launch} {D : va_G} {cy : ClassId} {α : Nat → Nat} {n : Nat} {σ : zSg} {d : Nat} (hd : 1 ≤ d) {a0 : Int} {h : zH} {r : Int} (hF : fX11_letterOf a0 = r) : zMet l yX11_letterOf cX11_letterOf 1 (some .int) (zrm d) D cy α n σ [.int (zi a0)] h (some (.int (zi r))) h := by
  obtain ⟨d, rfl⟩ : ∃ e, d = e + 1 := ⟨d - 1, by omega⟩
  refine z_met (by decide +kernel) (Nat.le_of_ble_eq_true rfl) (fun κ k1 k2 k3 k4 k5 k6 k7 k8 k9 C => ?_)
  subst k1 k3 k4 k5 k6 k7
  exact J_fX11_letterOf C k2 hd k8 k9 hF
