set_option maxRecDepth 20000 in
set_option maxHeartbeats 4000000 in
theorem J_fX1_has {κ : zT} (C : zC κ RX1 cX1_has 3 (some .boolean)) {d : Nat} (hR : zR κ = zrm (d + 1)) (hd : 3 ≤ d + 1) {o0 : Nat} (ho0 : o0 < zN) (hd0 : zkd o0 = 1) {h : zH} {r : Int} (e1 : zrv κ = some (.int (zi r))) (e2 : zhf κ = h) {a1 : Int} {a2 : Int} (hF : fX1_has o0 a1 a2 h = r) : Z κ h 0 [(0, .ref (zα κ o0)), (1, .int (zi a1)), (2, .int (zi a2))] [] := by
  unfold fX1_has at hF
  refine z_iload_n (q := 1) C dX1_has_0 2 rfl rfl rfl ?_
  refine z_if_lt (tgt := 17) (q := 4) C dX1_has_1 (by decide) rfl (fun c1 => ?_) (fun c1 => ?_)
  · have hF := (if_pos c1).symm.trans hF
    refine z_iconst (q := 18) C dX1_has_17 rfl ?_
    subst hF
    exact z_zret C (zb01 (Or.inl rfl)) e1 e2 dX1_has_18
  · have hF := (if_neg c1).symm.trans hF
    refine z_iload_n (q := 5) C dX1_has_4 2 rfl rfl rfl ?_
    refine z_aload_n (q := 6) C dX1_has_5 0 rfl rfl rfl ?_
    refine z_iload_n (q := 7) C dX1_has_6 1 rfl rfl rfl ?_
    refine z_callV (q := 10) (o := o0) (av := [.int (zi a1)]) (rest := [.int (zi a2)]) (stk2 := [.int (zi (fX1_many o0 a1 h)), .int (zi a2)]) C hR clX1 (zon C ho0) hd0 (M_fX1_many (zlv hd rfl) ho0 hd0 rfl) mY_X1_many q_427 (Nat.le_of_ble_eq_true rfl) dX1_has_7 rfl rfl rfl ?_
    refine z_icmp_ge (tgt := 17) (q := 13) C dX1_has_10 (by decide) rfl (fun c2 => ?_) (fun c2 => ?_)
    · have hF := (if_pos c2).symm.trans hF
      refine z_iconst (q := 18) C dX1_has_17 rfl ?_
      subst hF
      exact z_zret C (zb01 (Or.inl rfl)) e1 e2 dX1_has_18
    · have hF := (if_neg c2).symm.trans hF
      refine z_iconst (q := 14) C dX1_has_13 rfl ?_
      refine z_goto (q := 18) C dX1_has_14 (by decide) ?_
      subst hF
      exact z_zret C (zb01 (Or.inr rfl)) e1 e2 dX1_has_18
set_option maxRecDepth 20000 in
set_option maxHeartbeats 4000000 in
theorem M_fX1_has {l : Launch} {D : va_G} {cy : ClassId} {α : Nat → Nat} {n : Nat} {σ : zSg} {d : Nat} (hd : 3 ≤ d) {o0 : Nat} (ho0 : o0 < zN) (hd0 : zkd o0 = 1) {a1 : Int} {a2 : Int} {h : zH} {r : Int} (hF : fX1_has o0 a1 a2 h = r) : zMet l yX1_has cX1_has 3 (some .boolean) (zrm d) D cy α n σ [.ref (α o0), .int (zi a1), .int (zi a2)] h (some (.int (zi r))) h := by
  obtain ⟨d, rfl⟩ : ∃ e, d = e + 1 := ⟨d - 1, by omega⟩
  refine z_met (by decide +kernel) (Nat.le_of_ble_eq_true rfl) (fun κ k1 k2 k3 k4 k5 k6 k7 k8 k9 C => ?_)
  subst k1 k3 k4 k5 k6 k7
  exact J_fX1_has C k2 hd ho0 hd0 k8 k9 hF
theorem B_fX1_has {o0 : Nat} {a1 : Int} {a2 : Int} {h : zH} : fX1_has o0 a1 a2 h = 0 ∨ fX1_has o0 a1 a2 h = 1 := by
  unfold fX1_has
  try simp only [zlet, zlet2]
  repeat' (first | exact Or.inl rfl | exact Or.inr rfl | apply zite01)
set_option maxRecDepth 20000 in
set_option maxHeartbeats 4000000 in
theorem J_fX1_isWhole_c185 {κ : zT} (C : zC κ RX1 cX1_isWhole 5 (some .boolean)) {d : Nat} (hR : zR κ = zrm (d + 1)) (hd : 4 ≤ d + 1) {N : Nat} {o0 : Nat} (ho0 : o0 < zN) (hd0 : zkd o0 = 1) {r : Int × zH} (e1 : zrv κ = some (.int (zi r.1))) (e2 : zhf κ = r.2) {K106 : Int → Int → zH → Option (Int × zH)} (hK106 : ∀ (l1 : Int) (l2 : Int) (h : zH), K106 l1 l2 h = some r → Z κ h 106 [(0, .ref (zα κ o0)), (1, .int (zi l1)), (2, .int (zi l2))] []) (l2 : Int) (l3 : Int) (l4 : Int) (s0 : Int) (s1 : Int) (h : zH) (hF : fX1_isWhole_c185 N o0 K106 l2 l3 l4 s0 s1 h = some r) : Z κ h 185 [(0, .ref (zα κ o0)), (2, .int (zi l2)), (3, .int (zi l3)), (4, .int (zi l4))] [.int (zi s0), .int (zi s1)] := by
  unfold fX1_isWhole_c185 at hF
  refine z_iand (q := 186) C dX1_isWhole_185 rfl ?_
  refine z_istore_n (q := 187) C dX1_isWhole_186 (by decide) rfl rfl rfl ?_
  refine z_aload_n (q := 188) C dX1_isWhole_187 1 rfl rfl rfl ?_
  refine z_getf (q := 191) C clX1 (zon C ho0) hd0 (k := 2) (by decide) q_68 rfl (zfv_r hd0 rfl rfl) dX1_isWhole_188 rfl ?_
  refine z_iload_n (q := 192) C dX1_isWhole_191 2 rfl rfl rfl ?_
  refine z_iload_n (q := 193) C dX1_isWhole_192 3 rfl rfl rfl ?_
  refine z_bipush (q := 195) C dX1_isWhole_193 bp_8 rfl ?_
  refine z_icmp_ne (tgt := 202) (q := 198) C dX1_isWhole_195 (by decide) rfl (fun c1 => ?_) (fun c1 => ?_)
  · have hF := (if_neg c1).symm.trans hF
    refine z_iconst (q := 203) C dX1_isWhole_202 rfl ?_
    refine z_iload_n (q := 204) C dX1_isWhole_203 3 rfl rfl rfl ?_
    refine z_ishl (q := 205) C dX1_isWhole_204 rfl ?_
    refine z_iload (q := 207) C dX1_isWhole_205 4 rfl rfl ?_
    refine z_bipush (q := 209) C dX1_isWhole_207 bp_8 rfl ?_
    refine z_icmp_ne (tgt := 216) (q := 212) C dX1_isWhole_209 (by decide) rfl (fun c5 => ?_) (fun c5 => ?_)
    · have hF := (if_neg c5).symm.trans hF
      refine z_iconst (q := 217) C dX1_isWhole_216 rfl ?_
      refine z_iload (q := 219) C dX1_isWhole_217 4 rfl rfl ?_
      refine z_ishl (q := 220) C dX1_isWhole_219 rfl ?_
      refine z_ior (q := 221) C dX1_isWhole_220 rfl ?_
      obtain ⟨h7, eh7, hF⟩ := zlet_e hF
      refine z_callSN (q := 224) (av := [.ref (zα κ (zfr o0 2)), .int (zi l2), .int (zi (zor (zshl 1 l3) (zshl 1 l4)))]) (rest := []) (stk2 := []) C hR (M_fX10_put (zlv hd rfl) (frl_1_2 ho0 hd0) (frk_1_2 ho0 hd0) eh7.symm) mY_X10_put q_365 (Nat.le_of_ble_eq_true rfl) dX1_isWhole_221 rfl rfl rfl ?_
      refine z_iinc (q := 227) (x := l2) C dX1_isWhole_224 (j := 2) rfl (by decide) rfl rfl ?_
      refine z_goto (q := 106) C dX1_isWhole_227 (by decide) ?_
      exact z_sub (hK106 _ _ _ hF) [2, 1, 0] rfl
    · have hF := (if_pos c5).symm.trans hF
      refine z_iconst (q := 213) C dX1_isWhole_212 rfl ?_
      refine z_goto (q := 220) C dX1_isWhole_213 (by decide) ?_
      refine z_ior (q := 221) C dX1_isWhole_220 rfl ?_
      obtain ⟨h6, eh6, hF⟩ := zlet_e hF
      refine z_callSN (q := 224) (av := [.ref (zα κ (zfr o0 2)), .int (zi l2), .int (zi (zor (zshl 1 l3) 0))]) (rest := []) (stk2 := []) C hR (M_fX10_put (zlv hd rfl) (frl_1_2 ho0 hd0) (frk_1_2 ho0 hd0) eh6.symm) mY_X10_put q_365 (Nat.le_of_ble_eq_true rfl) dX1_isWhole_221 rfl rfl rfl ?_
      refine z_iinc (q := 227) (x := l2) C dX1_isWhole_224 (j := 2) rfl (by decide) rfl rfl ?_
      refine z_goto (q := 106) C dX1_isWhole_227 (by decide) ?_
      exact z_sub (hK106 _ _ _ hF) [2, 1, 0] rfl
  · have hF := (if_pos c1).symm.trans hF
    refine z_iconst (q := 199) C dX1_isWhole_198 rfl ?_
    refine z_goto (q := 205) C dX1_isWhole_199 (by decide) ?_
    refine z_iload (q := 207) C dX1_isWhole_205 4 rfl rfl ?_
    refine z_bipush (q := 209) C dX1_isWhole_207 bp_8 rfl ?_
    refine z_icmp_ne (tgt := 216) (q := 212) C dX1_isWhole_209 (by decide) rfl (fun c2 => ?_) (fun c2 => ?_)
    · have hF := (if_neg c2).symm.trans hF
      refine z_iconst (q := 217) C dX1_isWhole_216 rfl ?_
      refine z_iload (q := 219) C dX1_isWhole_217 4 rfl rfl ?_
      refine z_ishl (q := 220) C dX1_isWhole_219 rfl ?_
      refine z_ior (q := 221) C dX1_isWhole_220 rfl ?_
      obtain ⟨h4, eh4, hF⟩ := zlet_e hF
      refine z_callSN (q := 224) (av := [.ref (zα κ (zfr o0 2)), .int (zi l2), .int (zi (zor 0 (zshl 1 l4)))]) (rest := []) (stk2 := []) C hR (M_fX10_put (zlv hd rfl) (frl_1_2 ho0 hd0) (frk_1_2 ho0 hd0) eh4.symm) mY_X10_put q_365 (Nat.le_of_ble_eq_true rfl) dX1_isWhole_221 rfl rfl rfl ?_
      refine z_iinc (q := 227) (x := l2) C dX1_isWhole_224 (j := 2) rfl (by decide) rfl rfl ?_
      refine z_goto (q := 106) C dX1_isWhole_227 (by decide) ?_
      exact z_sub (hK106 _ _ _ hF) [2, 1, 0] rfl
    · have hF := (if_pos c2).symm.trans hF
      refine z_iconst (q := 213) C dX1_isWhole_212 rfl ?_
      refine z_goto (q := 220) C dX1_isWhole_213 (by decide) ?_
      refine z_ior (q := 221) C dX1_isWhole_220 rfl ?_
      obtain ⟨h3, eh3, hF⟩ := zlet_e hF
      refine z_callSN (q := 224) (av := [.ref (zα κ (zfr o0 2)), .int (zi l2), .int (zi (zor 0 0))]) (rest := []) (stk2 := []) C hR (M_fX10_put (zlv hd rfl) (frl_1_2 ho0 hd0) (frk_1_2 ho0 hd0) eh3.symm) mY_X10_put q_365 (Nat.le_of_ble_eq_true rfl) dX1_isWhole_221 rfl rfl rfl ?_
      refine z_iinc (q := 227) (x := l2) C dX1_isWhole_224 (j := 2) rfl (by decide) rfl rfl ?_
      refine z_goto (q := 106) C dX1_isWhole_227 (by decide) ?_
      exact z_sub (hK106 _ _ _ hF) [2, 1, 0] rfl
set_option maxRecDepth 20000 in
set_option maxHeartbeats 4000000 in
theorem J_fX1_isWhole_c106b {κ : zT} (C : zC κ RX1 cX1_isWhole 5 (some .boolean)) {d : Nat} (hR : zR κ = zrm (d + 1)) (hd : 4 ≤ d + 1) {N : Nat} {o0 : Nat} (ho0 : o0 < zN) (hd0 : zkd o0 = 1) {r : Int × zH} (e1 : zrv κ = some (.int (zi r.1))) (e2 : zhf κ = r.2) {K106 : Int → Int → zH → Option (Int × zH)} (hK106 : ∀ (l1 : Int) (l2 : Int) (h : zH), K106 l1 l2 h = some r → Z κ h 106 [(0, .ref (zα κ o0)), (1, .int (zi l1)), (2, .int (zi l2))] []) (l1 : Int) (l2 : Int) (h : zH) (hF : fX1_isWhole_c106b N o0 K106 l1 l2 h = some r) : Z κ h 106 [(0, .ref (zα κ o0)), (1, .int (zi l1)), (2, .int (zi l2))] [] := by
  unfold fX1_isWhole_c106b at hF
  refine z_iload_n (q := 107) C dX1_isWhole_106 2 rfl rfl rfl ?_
  refine z_aload_n (q := 108) C dX1_isWhole_107 0 rfl rfl rfl ?_
  refine z_iconst (q := 109) C dX1_isWhole_108 rfl ?_
  refine z_callV (q := 112) (o := o0) (av := [.int (zi 3)]) (rest := [.int (zi l2)]) (stk2 := [.int (zi (fX1_many o0 3 h)), .int (zi l2)]) C hR clX1 (zon C ho0) hd0 (M_fX1_many (zlv hd rfl) ho0 hd0 rfl) mY_X1_many q_427 (Nat.le_of_ble_eq_true rfl) dX1_isWhole_109 rfl rfl rfl ?_
  refine z_icmp_ge (tgt := 230) (q := 115) C dX1_isWhole_112 (by decide) rfl (fun c1 => ?_) (fun c1 => ?_)
  · have hF := (if_pos c1).symm.trans hF
    refine z_iload_n (q := 231) C dX1_isWhole_230 1 rfl rfl rfl ?_
    obtain ⟨g2, hF⟩ := zif_none hF
    have hF := Option.some.inj hF
    subst hF
    exact z_zret C (zb01 g2) e1 e2 dX1_isWhole_231
  · have hF := (if_neg c1).symm.trans hF
    refine z_aload_n (q := 116) C dX1_isWhole_115 0 rfl rfl rfl ?_
    refine z_iconst (q := 117) C dX1_isWhole_116 rfl ?_
    refine z_iload_n (q := 118) C dX1_isWhole_117 2 rfl rfl rfl ?_
    refine z_iconst (q := 119) C dX1_isWhole_118 rfl ?_
    refine z_callV (q := 122) (o := o0) (av := [.int (zi 3), .int (zi l2), .int (zi 1)]) (rest := []) (stk2 := [.int (zi (fX1_item o0 3 l2 1 h))]) C hR clX1 (zon C ho0) hd0 (M_fX1_item (zlv hd rfl) ho0 hd0 rfl) mY_X1_item q_475 (Nat.le_of_ble_eq_true rfl) dX1_isWhole_119 rfl rfl rfl ?_
    obtain ⟨v3, ev3, hF⟩ := zlet_e hF
    refine z_istoreE_n (q := 123) C ev3 dX1_isWhole_122 (by decide) rfl rfl rfl ?_
    refine z_aload_n (q := 124) C dX1_isWhole_123 1 rfl rfl rfl ?_
    refine z_iconst (q := 125) C dX1_isWhole_124 rfl ?_
    refine z_iload_n (q := 126) C dX1_isWhole_125 3 rfl rfl rfl ?_
    refine z_iconst (q := 127) C dX1_isWhole_126 rfl ?_
    refine z_callV (q := 130) (o := o0) (av := [.int (zi 3), .int (zi l2), .int (zi 2)]) (rest := []) (stk2 := [.int (zi (fX1_item o0 3 l2 2 h))]) C hR clX1 (zon C ho0) hd0 (M_fX1_item (zlv hd rfl) ho0 hd0 rfl) mY_X1_item q_475 (Nat.le_of_ble_eq_true rfl) dX1_isWhole_127 rfl rfl rfl ?_
    obtain ⟨v4, ev4, hF⟩ := zlet_e hF
    refine z_istoreE (q := 132) C ev4 dX1_isWhole_130 (by decide) rfl rfl ?_
    refine z_iload_n (q := 133) C dX1_isWhole_132 3 rfl rfl rfl ?_
    refine z_aload_n (q := 134) C dX1_isWhole_133 2 rfl rfl rfl ?_
    refine z_iconst (q := 135) C dX1_isWhole_134 rfl ?_
    refine z_aload_n (q := 136) C dX1_isWhole_135 2 rfl rfl rfl ?_
    refine z_iconst (q := 137) C dX1_isWhole_136 rfl ?_
    refine z_iload_n (q := 138) C dX1_isWhole_137 4 rfl rfl rfl ?_
    refine z_iconst (q := 139) C dX1_isWhole_138 rfl ?_
    refine z_callV (q := 142) (o := o0) (av := [.int (zi 3), .int (zi l2), .int (zi 0)]) (rest := [.int (zi 2), .ref (zα κ o0), .int (zi l1)]) (stk2 := [.int (zi (fX1_item o0 3 l2 0 h)), .int (zi 2), .ref (zα κ o0), .int (zi l1)]) C hR clX1 (zon C ho0) hd0 (M_fX1_item (zlv hd rfl) ho0 hd0 rfl) mY_X1_item q_475 (Nat.le_of_ble_eq_true rfl) dX1_isWhole_139 rfl rfl rfl ?_
    refine z_callV (q := 145) (o := o0) (av := [.int (zi 2), .int (zi (fX1_item o0 3 l2 0 h))]) (rest := [.int (zi l1)]) (stk2 := [.int (zi (fX1_has o0 2 (fX1_item o0 3 l2 0 h) h)), .int (zi l1)]) C hR clX1 (zon C ho0) hd0 (M_fX1_has (zlv hd rfl) ho0 hd0 rfl) mY_X1_has q_479 (Nat.le_of_ble_eq_true rfl) dX1_isWhole_142 rfl rfl rfl ?_
    refine z_iand (q := 146) C dX1_isWhole_145 rfl ?_
    obtain ⟨v5, ev5, hF⟩ := zlet_e hF
    refine z_istoreE_n (q := 147) C ev5 dX1_isWhole_146 (by decide) rfl rfl rfl ?_
    refine z_iload_n (q := 148) C dX1_isWhole_147 0 rfl rfl rfl ?_
    refine z_iload_n (q := 149) C dX1_isWhole_148 2 rfl rfl rfl ?_
    refine z_bipush (q := 151) C dX1_isWhole_149 bp_8 rfl ?_
    refine z_icmp_eq (tgt := 163) (q := 154) C dX1_isWhole_151 (by decide) rfl (fun c6 => ?_) (fun c6 => ?_)
    · have hF := (if_pos c6).symm.trans hF
      refine z_iload (q := 165) C dX1_isWhole_163 1 rfl rfl ?_
      refine z_bipush (q := 167) C dX1_isWhole_165 bp_8 rfl ?_
      refine z_icmp_eq (tgt := 180) (q := 170) C dX1_isWhole_167 (by decide) rfl (fun c7 => ?_) (fun c7 => ?_)
      · have hF := (if_pos c7).symm.trans hF
        refine z_iconst (q := 181) C dX1_isWhole_180 rfl ?_
        refine z_goto (q := 185) C dX1_isWhole_181 (by decide) ?_
        exact z_sub (J_fX1_isWhole_c185 C hR hd ho0 hd0 e1 e2 hK106 _ _ _ _ _ _ hF) [3, 4, 2, 1] rfl
      · have hF := (if_neg c7).symm.trans hF
        refine z_aload_n (q := 171) C dX1_isWhole_170 3 rfl rfl rfl ?_
        refine z_iconst (q := 172) C dX1_isWhole_171 rfl ?_
        refine z_iload (q := 174) C dX1_isWhole_172 1 rfl rfl ?_
        refine z_callV (q := 177) (o := o0) (av := [.int (zi 3), .int (zi v4)]) (rest := [.int (zi v5)]) (stk2 := [.int (zi (fX1_has o0 3 v4 h)), .int (zi v5)]) C hR clX1 (zon C ho0) hd0 (M_fX1_has (zlv hd rfl) ho0 hd0 rfl) mY_X1_has q_479 (Nat.le_of_ble_eq_true rfl) dX1_isWhole_174 rfl rfl rfl ?_
        refine z_if_eq (tgt := 184) (q := 180) C dX1_isWhole_177 (by decide) rfl (fun c8 => ?_) (fun c8 => ?_)
        · have hF := (if_pos c8).symm.trans hF
          refine z_iconst (q := 185) C dX1_isWhole_184 rfl ?_
          exact z_sub (J_fX1_isWhole_c185 C hR hd ho0 hd0 e1 e2 hK106 _ _ _ _ _ _ hF) [3, 4, 2, 1] rfl
        · have hF := (if_neg c8).symm.trans hF
          refine z_iconst (q := 181) C dX1_isWhole_180 rfl ?_
          refine z_goto (q := 185) C dX1_isWhole_181 (by decide) ?_
          exact z_sub (J_fX1_isWhole_c185 C hR hd ho0 hd0 e1 e2 hK106 _ _ _ _ _ _ hF) [3, 4, 2, 1] rfl
    · have hF := (if_neg c6).symm.trans hF
      refine z_aload_n (q := 155) C dX1_isWhole_154 3 rfl rfl rfl ?_
      refine z_iconst (q := 156) C dX1_isWhole_155 rfl ?_
      refine z_iload_n (q := 157) C dX1_isWhole_156 2 rfl rfl rfl ?_
      refine z_callV (q := 160) (o := o0) (av := [.int (zi 3), .int (zi v3)]) (rest := [.int (zi v5)]) (stk2 := [.int (zi (fX1_has o0 3 v3 h)), .int (zi v5)]) C hR clX1 (zon C ho0) hd0 (M_fX1_has (zlv hd rfl) ho0 hd0 rfl) mY_X1_has q_479 (Nat.le_of_ble_eq_true rfl) dX1_isWhole_157 rfl rfl rfl ?_
      refine z_if_eq (tgt := 184) (q := 163) C dX1_isWhole_160 (by decide) rfl (fun c9 => ?_) (fun c9 => ?_)
      · have hF := (if_pos c9).symm.trans hF
        refine z_iconst (q := 185) C dX1_isWhole_184 rfl ?_
        exact z_sub (J_fX1_isWhole_c185 C hR hd ho0 hd0 e1 e2 hK106 _ _ _ _ _ _ hF) [3, 4, 2, 1] rfl
      · have hF := (if_neg c9).symm.trans hF
        refine z_iload (q := 165) C dX1_isWhole_163 1 rfl rfl ?_
        refine z_bipush (q := 167) C dX1_isWhole_165 bp_8 rfl ?_
        refine z_icmp_eq (tgt := 180) (q := 170) C dX1_isWhole_167 (by decide) rfl (fun c10 => ?_) (fun c10 => ?_)
        · have hF := (if_pos c10).symm.trans hF
          refine z_iconst (q := 181) C dX1_isWhole_180 rfl ?_
          refine z_goto (q := 185) C dX1_isWhole_181 (by decide) ?_
          exact z_sub (J_fX1_isWhole_c185 C hR hd ho0 hd0 e1 e2 hK106 _ _ _ _ _ _ hF) [3, 4, 2, 1] rfl
        · have hF := (if_neg c10).symm.trans hF
          refine z_aload_n (q := 171) C dX1_isWhole_170 3 rfl rfl rfl ?_
          refine z_iconst (q := 172) C dX1_isWhole_171 rfl ?_
          refine z_iload (q := 174) C dX1_isWhole_172 1 rfl rfl ?_
          refine z_callV (q := 177) (o := o0) (av := [.int (zi 3), .int (zi v4)]) (rest := [.int (zi v5)]) (stk2 := [.int (zi (fX1_has o0 3 v4 h)), .int (zi v5)]) C hR clX1 (zon C ho0) hd0 (M_fX1_has (zlv hd rfl) ho0 hd0 rfl) mY_X1_has q_479 (Nat.le_of_ble_eq_true rfl) dX1_isWhole_174 rfl rfl rfl ?_
          refine z_if_eq (tgt := 184) (q := 180) C dX1_isWhole_177 (by decide) rfl (fun c11 => ?_) (fun c11 => ?_)
          · have hF := (if_pos c11).symm.trans hF
            refine z_iconst (q := 185) C dX1_isWhole_184 rfl ?_
            exact z_sub (J_fX1_isWhole_c185 C hR hd ho0 hd0 e1 e2 hK106 _ _ _ _ _ _ hF) [3, 4, 2, 1] rfl
          · have hF := (if_neg c11).symm.trans hF
            refine z_iconst (q := 181) C dX1_isWhole_180 rfl ?_
            refine z_goto (q := 185) C dX1_isWhole_181 (by decide) ?_
            exact z_sub (J_fX1_isWhole_c185 C hR hd ho0 hd0 e1 e2 hK106 _ _ _ _ _ _ hF) [3, 4, 2, 1] rfl
set_option maxRecDepth 20000 in
set_option maxHeartbeats 4000000 in
theorem J_fX1_isWhole_c106 {κ : zT} (C : zC κ RX1 cX1_isWhole 5 (some .boolean)) {d : Nat} (hR : zR κ = zrm (d + 1)) (hd : 4 ≤ d + 1) {N : Nat} {o0 : Nat} (ho0 : o0 < zN) (hd0 : zkd o0 = 1) {r : Int × zH} (e1 : zrv κ = some (.int (zi r.1))) (e2 : zhf κ = r.2) : ∀ (k : Nat) (l1 : Int) (l2 : Int) (h : zH), fX1_isWhole_c106 N o0 k l1 l2 h = some r → Z κ h 106 [(0, .ref (zα κ o0)), (1, .int (zi l1)), (2, .int (zi l2))] [] := by
  intro k
  induction k with
  | zero => intro l1 l2 h hF; cases hF
  | succ k ih => intro l1 l2 h hF; exact J_fX1_isWhole_c106b C hR hd ho0 hd0 e1 e2 ih l1 l2 h hF
set_option maxRecDepth 20000 in
set_option maxHeartbeats 4000000 in
theorem J_fX1_isWhole_c74b {κ : zT} (C : zC κ RX1 cX1_isWhole 5 (some .boolean)) {d : Nat} (hR : zR κ = zrm (d + 1)) (hd : 4 ≤ d + 1) {N : Nat} {o0 : Nat} (ho0 : o0 < zN) (hd0 : zkd o0 = 1) {r : Int × zH} (e1 : zrv κ = some (.int (zi r.1))) (e2 : zhf κ = r.2) {K74 : Int → Int → zH → Option (Int × zH)} (hK74 : ∀ (l1 : Int) (l2 : Int) (h : zH), K74 l1 l2 h = some r → Z κ h 74 [(0, .ref (zα κ o0)), (1, .int (zi l1)), (2, .int (zi l2))] []) (l1 : Int) (l2 : Int) (h : zH) (hF : fX1_isWhole_c74b N o0 K74 l1 l2 h = some r) : Z κ h 74 [(0, .ref (zα κ o0)), (1, .int (zi l1)), (2, .int (zi l2))] [] := by
  unfold fX1_isWhole_c74b at hF
  refine z_iload_n (q := 75) C dX1_isWhole_74 2 rfl rfl rfl ?_
  refine z_aload_n (q := 76) C dX1_isWhole_75 0 rfl rfl rfl ?_
  refine z_iconst (q := 77) C dX1_isWhole_76 rfl ?_
  refine z_callV (q := 80) (o := o0) (av := [.int (zi 1)]) (rest := [.int (zi l2)]) (stk2 := [.int (zi (fX1_many o0 1 h)), .int (zi l2)]) C hR clX1 (zon C ho0) hd0 (M_fX1_many (zlv hd rfl) ho0 hd0 rfl) mY_X1_many q_427 (Nat.le_of_ble_eq_true rfl) dX1_isWhole_77 rfl rfl rfl ?_
  refine z_icmp_ge (tgt := 104) (q := 83) C dX1_isWhole_80 (by decide) rfl (fun c1 => ?_) (fun c1 => ?_)
  · have hF := (if_pos c1).symm.trans hF
    refine z_iconst (q := 105) C dX1_isWhole_104 rfl ?_
    refine z_istore_n (q := 106) C dX1_isWhole_105 (by decide) rfl rfl rfl ?_
    exact z_sub (J_fX1_isWhole_c106 C hR hd ho0 hd0 e1 e2 N _ _ _ hF) [1, 2, 0] rfl
  · have hF := (if_neg c1).symm.trans hF
    refine z_iload_n (q := 84) C dX1_isWhole_83 1 rfl rfl rfl ?_
    refine z_aload_n (q := 85) C dX1_isWhole_84 0 rfl rfl rfl ?_
    refine z_iconst (q := 86) C dX1_isWhole_85 rfl ?_
    refine z_aload_n (q := 87) C dX1_isWhole_86 0 rfl rfl rfl ?_
    refine z_iconst (q := 88) C dX1_isWhole_87 rfl ?_
    refine z_iload_n (q := 89) C dX1_isWhole_88 2 rfl rfl rfl ?_
    refine z_iconst (q := 90) C dX1_isWhole_89 rfl ?_
    refine z_callV (q := 93) (o := o0) (av := [.int (zi 1), .int (zi l2), .int (zi 0)]) (rest := [.int (zi 3), .ref (zα κ o0), .int (zi l1)]) (stk2 := [.int (zi (fX1_item o0 1 l2 0 h)), .int (zi 3), .ref (zα κ o0), .int (zi l1)]) C hR clX1 (zon C ho0) hd0 (M_fX1_item (zlv hd rfl) ho0 hd0 rfl) mY_X1_item q_475 (Nat.le_of_ble_eq_true rfl) dX1_isWhole_90 rfl rfl rfl ?_
    refine z_callV (q := 96) (o := o0) (av := [.int (zi 3), .int (zi (fX1_item o0 1 l2 0 h))]) (rest := [.int (zi l1)]) (stk2 := [.int (zi (fX1_has o0 3 (fX1_item o0 1 l2 0 h) h)), .int (zi l1)]) C hR clX1 (zon C ho0) hd0 (M_fX1_has (zlv hd rfl) ho0 hd0 rfl) mY_X1_has q_479 (Nat.le_of_ble_eq_true rfl) dX1_isWhole_93 rfl rfl rfl ?_
    refine z_iand (q := 97) C dX1_isWhole_96 rfl ?_
    obtain ⟨v2, ev2, hF⟩ := zlet_e hF
    refine z_istoreE_n (q := 98) C ev2 dX1_isWhole_97 (by decide) rfl rfl rfl ?_
    refine z_iinc (q := 101) (x := l2) C dX1_isWhole_98 (j := 2) rfl (by decide) rfl rfl ?_
    refine z_goto (q := 74) C dX1_isWhole_101 (by decide) ?_
    exact z_sub (hK74 _ _ _ hF) [2, 1, 0] rfl
set_option maxRecDepth 20000 in
set_option maxHeartbeats 4000000 in
theorem J_fX1_isWhole_c74 {κ : zT} (C : zC κ RX1 cX1_isWhole 5 (some .boolean)) {d : Nat} (hR : zR κ = zrm (d + 1)) (hd : 4 ≤ d + 1) {N : Nat} {o0 : Nat} (ho0 : o0 < zN) (hd0 : zkd o0 = 1) {r : Int × zH} (e1 : zrv κ = some (.int (zi r.1))) (e2 : zhf κ = r.2) : ∀ (k : Nat) (l1 : Int) (l2 : Int) (h : zH), fX1_isWhole_c74 N o0 k l1 l2 h = some r → Z κ h 74 [(0, .ref (zα κ o0)), (1, .int (zi l1)), (2, .int (zi l2))] [] := by
  intro k
  induction k with
  | zero => intro l1 l2 h hF; cases hF
  | succ k ih => intro l1 l2 h hF; exact J_fX1_isWhole_c74b C hR hd ho0 hd0 e1 e2 ih l1 l2 h hF
set_option maxRecDepth 20000 in
set_option maxHeartbeats 4000000 in
theorem J_fX1_isWhole_c32b {κ : zT} (C : zC κ RX1 cX1_isWhole 5 (some .boolean)) {d : Nat} (hR : zR κ = zrm (d + 1)) (hd : 4 ≤ d + 1) {N : Nat} {o0 : Nat} (ho0 : o0 < zN) (hd0 : zkd o0 = 1) {r : Int × zH} (e1 : zrv κ = some (.int (zi r.1))) (e2 : zhf κ = r.2) {K32 : Int → Int → zH → Option (Int × zH)} (hK32 : ∀ (l1 : Int) (l2 : Int) (h : zH), K32 l1 l2 h = some r → Z κ h 32 [(0, .ref (zα κ o0)), (1, .int (zi l1)), (2, .int (zi l2))] []) (l1 : Int) (l2 : Int) (h : zH) (hF : fX1_isWhole_c32b N o0 K32 l1 l2 h = some r) : Z κ h 32 [(0, .ref (zα κ o0)), (1, .int (zi l1)), (2, .int (zi l2))] [] := by
  unfold fX1_isWhole_c32b at hF
  refine z_iload_n (q := 33) C dX1_isWhole_32 2 rfl rfl rfl ?_
  refine z_aload_n (q := 34) C dX1_isWhole_33 0 rfl rfl rfl ?_
  refine z_iconst (q := 35) C dX1_isWhole_34 rfl ?_
  refine z_callV (q := 38) (o := o0) (av := [.int (zi 2)]) (rest := [.int (zi l2)]) (stk2 := [.int (zi (fX1_many o0 2 h)), .int (zi l2)]) C hR clX1 (zon C ho0) hd0 (M_fX1_many (zlv hd rfl) ho0 hd0 rfl) mY_X1_many q_427 (Nat.le_of_ble_eq_true rfl) dX1_isWhole_35 rfl rfl rfl ?_
  refine z_icmp_ge (tgt := 72) (q := 41) C dX1_isWhole_38 (by decide) rfl (fun c1 => ?_) (fun c1 => ?_)
  · have hF := (if_pos c1).symm.trans hF
    refine z_iconst (q := 73) C dX1_isWhole_72 rfl ?_
    refine z_istore_n (q := 74) C dX1_isWhole_73 (by decide) rfl rfl rfl ?_
    exact z_sub (J_fX1_isWhole_c74 C hR hd ho0 hd0 e1 e2 N _ _ _ hF) [1, 2, 0] rfl
  · have hF := (if_neg c1).symm.trans hF
    refine z_iload_n (q := 42) C dX1_isWhole_41 1 rfl rfl rfl ?_
    refine z_aload_n (q := 43) C dX1_isWhole_42 0 rfl rfl rfl ?_
    refine z_iconst (q := 44) C dX1_isWhole_43 rfl ?_
    refine z_iload_n (q := 45) C dX1_isWhole_44 2 rfl rfl rfl ?_
    refine z_iconst (q := 46) C dX1_isWhole_45 rfl ?_
    refine z_callV (q := 49) (o := o0) (av := [.int (zi 2), .int (zi l2), .int (zi 0)]) (rest := [.int (zi l1)]) (stk2 := [.int (zi (fX1_item o0 2 l2 0 h)), .int (zi l1)]) C hR clX1 (zon C ho0) hd0 (M_fX1_item (zlv hd rfl) ho0 hd0 rfl) mY_X1_item q_475 (Nat.le_of_ble_eq_true rfl) dX1_isWhole_46 rfl rfl rfl ?_
    refine z_aload_n (q := 50) C dX1_isWhole_49 0 rfl rfl rfl ?_
    refine z_iconst (q := 51) C dX1_isWhole_50 rfl ?_
    refine z_iload_n (q := 52) C dX1_isWhole_51 2 rfl rfl rfl ?_
    refine z_iconst (q := 53) C dX1_isWhole_52 rfl ?_
    refine z_callV (q := 56) (o := o0) (av := [.int (zi 2), .int (zi l2), .int (zi 1)]) (rest := [.int (zi (fX1_item o0 2 l2 0 h)), .int (zi l1)]) (stk2 := [.int (zi (fX1_item o0 2 l2 1 h)), .int (zi (fX1_item o0 2 l2 0 h)), .int (zi l1)]) C hR clX1 (zon C ho0) hd0 (M_fX1_item (zlv hd rfl) ho0 hd0 rfl) mY_X1_item q_475 (Nat.le_of_ble_eq_true rfl) dX1_isWhole_53 rfl rfl rfl ?_
    refine z_icmp_ge (tgt := 63) (q := 59) C dX1_isWhole_56 (by decide) rfl (fun c2 => ?_) (fun c2 => ?_)
    · have hF := (if_pos c2).symm.trans hF
      refine z_iconst (q := 64) C dX1_isWhole_63 rfl ?_
      refine z_iand (q := 65) C dX1_isWhole_64 rfl ?_
      refine z_istore_n (q := 66) C dX1_isWhole_65 (by decide) rfl rfl rfl ?_
      refine z_iinc (q := 69) (x := l2) C dX1_isWhole_66 (j := 2) rfl (by decide) rfl rfl ?_
      refine z_goto (q := 32) C dX1_isWhole_69 (by decide) ?_
      exact z_sub (hK32 _ _ _ hF) [2, 1, 0] rfl
    · have hF := (if_neg c2).symm.trans hF
      refine z_iconst (q := 60) C dX1_isWhole_59 rfl ?_
      refine z_goto (q := 64) C dX1_isWhole_60 (by decide) ?_
      refine z_iand (q := 65) C dX1_isWhole_64 rfl ?_
      refine z_istore_n (q := 66) C dX1_isWhole_65 (by decide) rfl rfl rfl ?_
      refine z_iinc (q := 69) (x := l2) C dX1_isWhole_66 (j := 2) rfl (by decide) rfl rfl ?_
      refine z_goto (q := 32) C dX1_isWhole_69 (by decide) ?_
      exact z_sub (hK32 _ _ _ hF) [2, 1, 0] rfl
set_option maxRecDepth 20000 in
set_option maxHeartbeats 4000000 in
theorem J_fX1_isWhole_c32 {κ : zT} (C : zC κ RX1 cX1_isWhole 5 (some .boolean)) {d : Nat} (hR : zR κ = zrm (d + 1)) (hd : 4 ≤ d + 1) {N : Nat} {o0 : Nat} (ho0 : o0 < zN) (hd0 : zkd o0 = 1) {r : Int × zH} (e1 : zrv κ = some (.int (zi r.1))) (e2 : zhf κ = r.2) : ∀ (k : Nat) (l1 : Int) (l2 : Int) (h : zH), fX1_isWhole_c32 N o0 k l1 l2 h = some r → Z κ h 32 [(0, .ref (zα κ o0)), (1, .int (zi l1)), (2, .int (zi l2))] [] := by
  intro k
  induction k with
  | zero => intro l1 l2 h hF; cases hF
  | succ k ih => intro l1 l2 h hF; exact J_fX1_isWhole_c32b C hR hd ho0 hd0 e1 e2 ih l1 l2 h hF
set_option maxRecDepth 20000 in
set_option maxHeartbeats 4000000 in
theorem J_fX1_isWhole {κ : zT} (C : zC κ RX1 cX1_isWhole 5 (some .boolean)) {d : Nat} (hR : zR κ = zrm (d + 1)) (hd : 4 ≤ d + 1) {N : Nat} {o0 : Nat} (ho0 : o0 < zN) (hd0 : zkd o0 = 1) {r : Int × zH} (e1 : zrv κ = some (.int (zi r.1))) (e2 : zhf κ = r.2) {h : zH} (hF : fX1_isWhole N o0 h = some r) : Z κ h 0 [(0, .ref (zα κ o0))] [] := by
  unfold fX1_isWhole at hF
  refine z_aload_n (q := 1) C dX1_isWhole_0 0 rfl rfl rfl ?_
  refine z_iconst (q := 2) C dX1_isWhole_1 rfl ?_
  refine z_callV (q := 5) (o := o0) (av := [.int (zi 1)]) (rest := []) (stk2 := [.int (zi (fX1_many o0 1 h))]) C hR clX1 (zon C ho0) hd0 (M_fX1_many (zlv hd rfl) ho0 hd0 rfl) mY_X1_many q_427 (Nat.le_of_ble_eq_true rfl) dX1_isWhole_2 rfl rfl rfl ?_
  refine z_if_le (tgt := 28) (q := 8) C dX1_isWhole_5 (by decide) rfl (fun c1 => ?_) (fun c1 => ?_)
  · have hF := (if_pos c1).symm.trans hF
    refine z_iconst (q := 29) C dX1_isWhole_28 rfl ?_
    refine z_istore_n (q := 30) C dX1_isWhole_29 (by decide) rfl rfl rfl ?_
    refine z_iconst (q := 31) C dX1_isWhole_30 rfl ?_
    refine z_istore_n (q := 32) C dX1_isWhole_31 (by decide) rfl rfl rfl ?_
    exact z_sub (J_fX1_isWhole_c32 C hR hd ho0 hd0 e1 e2 N _ _ _ hF) [2, 1, 0] rfl
  · have hF := (if_neg c1).symm.trans hF
    refine z_aload_n (q := 9) C dX1_isWhole_8 0 rfl rfl rfl ?_
    refine z_iconst (q := 10) C dX1_isWhole_9 rfl ?_
    refine z_callV (q := 13) (o := o0) (av := [.int (zi 2)]) (rest := []) (stk2 := [.int (zi (fX1_many o0 2 h))]) C hR clX1 (zon C ho0) hd0 (M_fX1_many (zlv hd rfl) ho0 hd0 rfl) mY_X1_many q_427 (Nat.le_of_ble_eq_true rfl) dX1_isWhole_10 rfl rfl rfl ?_
    refine z_if_le (tgt := 28) (q := 16) C dX1_isWhole_13 (by decide) rfl (fun c2 => ?_) (fun c2 => ?_)
    · have hF := (if_pos c2).symm.trans hF
      refine z_iconst (q := 29) C dX1_isWhole_28 rfl ?_
      refine z_istore_n (q := 30) C dX1_isWhole_29 (by decide) rfl rfl rfl ?_
      refine z_iconst (q := 31) C dX1_isWhole_30 rfl ?_
      refine z_istore_n (q := 32) C dX1_isWhole_31 (by decide) rfl rfl rfl ?_
      exact z_sub (J_fX1_isWhole_c32 C hR hd ho0 hd0 e1 e2 N _ _ _ hF) [2, 1, 0] rfl
    · have hF := (if_neg c2).symm.trans hF
      refine z_aload_n (q := 17) C dX1_isWhole_16 0 rfl rfl rfl ?_
      refine z_iconst (q := 18) C dX1_isWhole_17 rfl ?_
      refine z_callV (q := 21) (o := o0) (av := [.int (zi 3)]) (rest := []) (stk2 := [.int (zi (fX1_many o0 3 h))]) C hR clX1 (zon C ho0) hd0 (M_fX1_many (zlv hd rfl) ho0 hd0 rfl) mY_X1_many q_427 (Nat.le_of_ble_eq_true rfl) dX1_isWhole_18 rfl rfl rfl ?_
      refine z_if_le (tgt := 28) (q := 24) C dX1_isWhole_21 (by decide) rfl (fun c3 => ?_) (fun c3 => ?_)
      · have hF := (if_pos c3).symm.trans hF
        refine z_iconst (q := 29) C dX1_isWhole_28 rfl ?_
        refine z_istore_n (q := 30) C dX1_isWhole_29 (by decide) rfl rfl rfl ?_
        refine z_iconst (q := 31) C dX1_isWhole_30 rfl ?_
        refine z_istore_n (q := 32) C dX1_isWhole_31 (by decide) rfl rfl rfl ?_
        exact z_sub (J_fX1_isWhole_c32 C hR hd ho0 hd0 e1 e2 N _ _ _ hF) [2, 1, 0] rfl
      · have hF := (if_neg c3).symm.trans hF
        refine z_iconst (q := 25) C dX1_isWhole_24 rfl ?_
        refine z_goto (q := 29) C dX1_isWhole_25 (by decide) ?_
        refine z_istore_n (q := 30) C dX1_isWhole_29 (by decide) rfl rfl rfl ?_
        refine z_iconst (q := 31) C dX1_isWhole_30 rfl ?_
        refine z_istore_n (q := 32) C dX1_isWhole_31 (by decide) rfl rfl rfl ?_
        exact z_sub (J_fX1_isWhole_c32 C hR hd ho0 hd0 e1 e2 N _ _ _ hF) [2, 1, 0] rfl
set_option maxRecDepth 20000 in
set_option maxHeartbeats 4000000 in
theorem M_fX1_isWhole {l : Launch} {D : va_G} {cy : ClassId} {α : Nat → Nat} {n : Nat} {σ : zSg} {d : Nat} (hd : 4 ≤ d) {N : Nat} {o0 : Nat} (ho0 : o0 < zN) (hd0 : zkd o0 = 1) {h : zH} {r : Int} {g : zH} (hF : fX1_isWhole N o0 h = some (r, g)) : zMet l yX1_isWhole cX1_isWhole 5 (some .boolean) (zrm d) D cy α n σ [.ref (α o0)] h (some (.int (zi r))) g := by
  obtain ⟨d, rfl⟩ : ∃ e, d = e + 1 := ⟨d - 1, by omega⟩
  refine z_met (by decide +kernel) (Nat.le_of_ble_eq_true rfl) (fun κ k1 k2 k3 k4 k5 k6 k7 k8 k9 C => ?_)
  subst k1 k3 k4 k5 k6 k7
  exact J_fX1_isWhole C k2 hd ho0 hd0 k8 k9 hF
set_option maxRecDepth 20000 in
set_option maxHeartbeats 4000000 in
theorem J_fX1_read_c25b {κ : zT} (C : zC κ RX1 cX1_read 3 (some .int)) {d : Nat} (hR : zR κ = zrm (d + 1)) (hd : 10 ≤ d + 1) {N : Nat} {o0 : Nat} (ho0 : o0 < zN) (hd0 : zkd o0 = 1) {r : Int × zH} (e1 : zrv κ = some (.int (zi r.1))) (e2 : zhf κ = r.2) {K25 : Int → zH → Option (Int × zH)} (hK25 : ∀ (l2 : Int) (h : zH), K25 l2 h = some r → Z κ h 25 [(0, .ref (zα κ o0)), (1, .ref (zα κ 1)), (2, .int (zi l2))] []) (l2 : Int) (h : zH) (hF : fX1_read_c25b N o0 K25 l2 h = some r) : Z κ h 25 [(0, .ref (zα κ o0)), (1, .ref (zα κ 1)), (2, .int (zi l2))] [] := by
  unfold fX1_read_c25b at hF
  refine z_iload_n (q := 26) C dX1_read_25 2 rfl rfl rfl ?_
  refine z_sipush (q := 29) C dX1_read_26 sp_240 rfl ?_
  refine z_icmp_ge (tgt := 52) (q := 32) C dX1_read_29 (by decide) rfl (fun c1 => ?_) (fun c1 => ?_)
  · have hF := (if_pos c1).symm.trans hF
    refine z_aload_n (q := 53) C dX1_read_52 1 rfl rfl rfl ?_
    obtain ⟨v3, h2, ev3, hF⟩ := z2_e hF
    refine z_callV (q := 56) (o := 1) (av := []) (rest := []) (stk2 := [.int (zi v3)]) C hR clX9 (zon C zo_1) kd_1 (M_fX9_close (zlv hd rfl) ev3) mY_X9_close q_467 (Nat.le_of_ble_eq_true rfl) dX1_read_53 rfl rfl rfl ?_
    refine z_iconst (q := 57) C dX1_read_56 rfl ?_
    refine z_icmp_ne (tgt := 75) (q := 60) C dX1_read_57 (by decide) rfl (fun c4 => ?_) (fun c4 => ?_)
    · have hF := (if_neg c4).symm.trans hF
      refine z_aload_n (q := 76) C dX1_read_75 1 rfl rfl rfl ?_
      refine z_getf (q := 79) C clX9 (zon C zo_1) kd_1 (k := 3) (by decide) q_49 rfl (zfv_i kd_1 rfl) dX1_read_76 rfl ?_
      have hF := Option.some.inj hF
      subst hF
      exact z_iret C e1 e2 dX1_read_79
    · have hF := (if_pos c4).symm.trans hF
      refine z_aload_n (q := 61) C dX1_read_60 0 rfl rfl rfl ?_
      obtain ⟨v6, h5, ev6, hF⟩ := z2_e hF
      refine z_callV (q := 64) (o := o0) (av := []) (rest := []) (stk2 := [.int (zi v6)]) C hR clX1 (zon C ho0) hd0 (M_fX1_isWhole (zlv hd rfl) ho0 hd0 ev6) mY_X1_isWhole q_471 (Nat.le_of_ble_eq_true rfl) dX1_read_61 rfl rfl rfl ?_
      refine z_if_ne (tgt := 75) (q := 67) C dX1_read_64 (by decide) rfl (fun c7 => ?_) (fun c7 => ?_)
      · have hF := (if_neg c7).symm.trans hF
        refine z_aload_n (q := 76) C dX1_read_75 1 rfl rfl rfl ?_
        refine z_getf (q := 79) C clX9 (zon C zo_1) kd_1 (k := 3) (by decide) q_49 rfl (zfv_i kd_1 rfl) dX1_read_76 rfl ?_
        have hF := Option.some.inj hF
        subst hF
        exact z_iret C e1 e2 dX1_read_79
      · have hF := (if_pos c7).symm.trans hF
        refine z_aload_n (q := 68) C dX1_read_67 1 rfl rfl rfl ?_
        refine z_aload_n (q := 69) C dX1_read_68 1 rfl rfl rfl ?_
        refine z_getf (q := 72) C clX9 (zon C zo_1) kd_1 (k := 1) (by decide) q_42 rfl (zfv_i kd_1 rfl) dX1_read_69 rfl ?_
        obtain ⟨h8, eh8, hF⟩ := zlet_e hF
        refine z_callV (q := 75) (o := 1) (av := [.int (zi (h5 1 1))]) (rest := []) (stk2 := []) C hR clX9 (zon C zo_1) kd_1 (M_fX9_blame (zlv hd rfl) eh8.symm) mY_X9_blame q_433 (Nat.le_of_ble_eq_true rfl) dX1_read_72 rfl rfl rfl ?_
        refine z_aload_n (q := 76) C dX1_read_75 1 rfl rfl rfl ?_
        refine z_getf (q := 79) C clX9 (zon C zo_1) kd_1 (k := 3) (by decide) q_49 rfl (zfv_i kd_1 rfl) dX1_read_76 rfl ?_
        have hF := Option.some.inj hF
        subst hF
        exact z_iret C e1 e2 dX1_read_79
  · have hF := (if_neg c1).symm.trans hF
    refine z_aload_n (q := 33) C dX1_read_32 1 rfl rfl rfl ?_
    refine z_bipush (q := 35) C dX1_read_33 bp_59 rfl ?_
    obtain ⟨v10, h9, ev10, hF⟩ := z2_e hF
    refine z_callV (q := 38) (o := 1) (av := [.int (zi 59)]) (rest := []) (stk2 := [.int (zi v10)]) C hR clX9 (zon C zo_1) kd_1 (M_fX9_take (zlv hd rfl) ev10) mY_X9_take q_463 (Nat.le_of_ble_eq_true rfl) dX1_read_35 rfl rfl rfl ?_
    refine z_if_eq (tgt := 52) (q := 41) C dX1_read_38 (by decide) rfl (fun c11 => ?_) (fun c11 => ?_)
    · have hF := (if_pos c11).symm.trans hF
      refine z_aload_n (q := 53) C dX1_read_52 1 rfl rfl rfl ?_
      obtain ⟨v13, h12, ev13, hF⟩ := z2_e hF
      refine z_callV (q := 56) (o := 1) (av := []) (rest := []) (stk2 := [.int (zi v13)]) C hR clX9 (zon C zo_1) kd_1 (M_fX9_close (zlv hd rfl) ev13) mY_X9_close q_467 (Nat.le_of_ble_eq_true rfl) dX1_read_53 rfl rfl rfl ?_
      refine z_iconst (q := 57) C dX1_read_56 rfl ?_
      refine z_icmp_ne (tgt := 75) (q := 60) C dX1_read_57 (by decide) rfl (fun c14 => ?_) (fun c14 => ?_)
      · have hF := (if_neg c14).symm.trans hF
        refine z_aload_n (q := 76) C dX1_read_75 1 rfl rfl rfl ?_
        refine z_getf (q := 79) C clX9 (zon C zo_1) kd_1 (k := 3) (by decide) q_49 rfl (zfv_i kd_1 rfl) dX1_read_76 rfl ?_
        have hF := Option.some.inj hF
        subst hF
        exact z_iret C e1 e2 dX1_read_79
      · have hF := (if_pos c14).symm.trans hF
        refine z_aload_n (q := 61) C dX1_read_60 0 rfl rfl rfl ?_
        obtain ⟨v16, h15, ev16, hF⟩ := z2_e hF
        refine z_callV (q := 64) (o := o0) (av := []) (rest := []) (stk2 := [.int (zi v16)]) C hR clX1 (zon C ho0) hd0 (M_fX1_isWhole (zlv hd rfl) ho0 hd0 ev16) mY_X1_isWhole q_471 (Nat.le_of_ble_eq_true rfl) dX1_read_61 rfl rfl rfl ?_
        refine z_if_ne (tgt := 75) (q := 67) C dX1_read_64 (by decide) rfl (fun c17 => ?_) (fun c17 => ?_)
        · have hF := (if_neg c17).symm.trans hF
          refine z_aload_n (q := 76) C dX1_read_75 1 rfl rfl rfl ?_
          refine z_getf (q := 79) C clX9 (zon C zo_1) kd_1 (k := 3) (by decide) q_49 rfl (zfv_i kd_1 rfl) dX1_read_76 rfl ?_
          have hF := Option.some.inj hF
          subst hF
          exact z_iret C e1 e2 dX1_read_79
        · have hF := (if_pos c17).symm.trans hF
          refine z_aload_n (q := 68) C dX1_read_67 1 rfl rfl rfl ?_
          refine z_aload_n (q := 69) C dX1_read_68 1 rfl rfl rfl ?_
          refine z_getf (q := 72) C clX9 (zon C zo_1) kd_1 (k := 1) (by decide) q_42 rfl (zfv_i kd_1 rfl) dX1_read_69 rfl ?_
          obtain ⟨h18, eh18, hF⟩ := zlet_e hF
          refine z_callV (q := 75) (o := 1) (av := [.int (zi (h15 1 1))]) (rest := []) (stk2 := []) C hR clX9 (zon C zo_1) kd_1 (M_fX9_blame (zlv hd rfl) eh18.symm) mY_X9_blame q_433 (Nat.le_of_ble_eq_true rfl) dX1_read_72 rfl rfl rfl ?_
          refine z_aload_n (q := 76) C dX1_read_75 1 rfl rfl rfl ?_
          refine z_getf (q := 79) C clX9 (zon C zo_1) kd_1 (k := 3) (by decide) q_49 rfl (zfv_i kd_1 rfl) dX1_read_76 rfl ?_
          have hF := Option.some.inj hF
          subst hF
          exact z_iret C e1 e2 dX1_read_79
    · have hF := (if_neg c11).symm.trans hF
      refine z_aload_n (q := 42) C dX1_read_41 0 rfl rfl rfl ?_
      refine z_aload_n (q := 43) C dX1_read_42 1 rfl rfl rfl ?_
      obtain ⟨h19, eh19, hF⟩ := zb_e hF
      refine z_callV (q := 46) (o := o0) (av := [.ref (zα κ 1)]) (rest := []) (stk2 := []) C hR clX1 (zon C ho0) hd0 (M_fX1_readClause (zlv hd rfl) ho0 hd0 eh19) mY_X1_readClause q_366 (Nat.le_of_ble_eq_true rfl) dX1_read_43 rfl rfl rfl ?_
      refine z_iinc (q := 49) (x := l2) C dX1_read_46 (j := 2) rfl (by decide) rfl rfl ?_
      refine z_goto (q := 25) C dX1_read_49 (by decide) ?_
      exact z_sub (hK25 _ _ hF) [1, 2, 0] rfl
set_option maxRecDepth 20000 in
set_option maxHeartbeats 4000000 in
theorem J_fX1_read_c25 {κ : zT} (C : zC κ RX1 cX1_read 3 (some .int)) {d : Nat} (hR : zR κ = zrm (d + 1)) (hd : 10 ≤ d + 1) {N : Nat} {o0 : Nat} (ho0 : o0 < zN) (hd0 : zkd o0 = 1) {r : Int × zH} (e1 : zrv κ = some (.int (zi r.1))) (e2 : zhf κ = r.2) : ∀ (k : Nat) (l2 : Int) (h : zH), fX1_read_c25 N o0 k l2 h = some r → Z κ h 25 [(0, .ref (zα κ o0)), (1, .ref (zα κ 1)), (2, .int (zi l2))] [] := by
  intro k
  induction k with
  | zero => intro l2 h hF; cases hF
  | succ k ih => intro l2 h hF; exact J_fX1_read_c25b C hR hd ho0 hd0 e1 e2 ih l2 h hF
set_option maxRecDepth 20000 in
set_option maxHeartbeats 4000000 in
theorem J_fX1_read {κ : zT} (C : zC κ RX1 cX1_read 3 (some .int)) {d : Nat} (hR : zR κ = zrm (d + 1)) (hd : 10 ≤ d + 1) {N : Nat} {o0 : Nat} (ho0 : o0 < zN) (hd0 : zkd o0 = 1) {r : Int × zH} (e1 : zrv κ = some (.int (zi r.1))) (e2 : zhf κ = r.2) {h : zH} (hF : fX1_read N o0 h = some r) : Z κ h 0 [(0, .ref (zα κ o0)), (1, .ref (zα κ 1))] [] := by
  unfold fX1_read at hF
  refine z_aload_n (q := 1) C dX1_read_0 1 rfl rfl rfl ?_
  obtain ⟨h1, eh1, hF⟩ := zlet_e hF
  refine z_callV (q := 4) (o := 1) (av := []) (rest := []) (stk2 := []) C hR clX9 (zon C zo_1) kd_1 (M_fX9_rewind (zlv hd rfl) eh1.symm) mY_X9_rewind q_346 (Nat.le_of_ble_eq_true rfl) dX1_read_1 rfl rfl rfl ?_
  refine z_aload_n (q := 5) C dX1_read_4 0 rfl rfl rfl ?_
  refine z_getf (q := 8) C clX1 (zon C ho0) hd0 (k := 1) (by decide) q_67 rfl (zfv_r hd0 rfl rfl) dX1_read_5 rfl ?_
  refine z_iconst (q := 9) C dX1_read_8 rfl ?_
  obtain ⟨h2, eh2, hF⟩ := zb_e hF
  refine z_callS (q := 12) (av := [.ref (zα κ (zfr o0 1)), .int (zi 0)]) (rest := []) (stk2 := []) C hR (M_fJ7_fill_53178 (zlv hd rfl) (frl_1_1 ho0 hd0) (frk_1_1 ho0 hd0) eh2) mY_J7_fill_53178 q_350 (Nat.le_of_ble_eq_true rfl) dX1_read_9 rfl rfl rfl ?_
  refine z_aload_n (q := 13) C dX1_read_12 0 rfl rfl rfl ?_
  refine z_iconst (q := 14) C dX1_read_13 rfl ?_
  refine z_iconst (q := 15) C dX1_read_14 rfl ?_
  obtain ⟨h3, eh3, hF⟩ := zb_e hF
  refine z_callV (q := 18) (o := o0) (av := [.int (zi 0), .int (zi 0)]) (rest := []) (stk2 := []) C hR clX1 (zon C ho0) hd0 (M_fX1_useUntold (zlv hd rfl) ho0 hd0 eh3) mY_X1_useUntold q_353 (Nat.le_of_ble_eq_true rfl) dX1_read_15 rfl rfl rfl ?_
  refine z_aload_n (q := 19) C dX1_read_18 0 rfl rfl rfl ?_
  refine z_aload_n (q := 20) C dX1_read_19 1 rfl rfl rfl ?_
  obtain ⟨h4, eh4, hF⟩ := zb_e hF
  refine z_callV (q := 23) (o := o0) (av := [.ref (zα κ 1)]) (rest := []) (stk2 := []) C hR clX1 (zon C ho0) hd0 (M_fX1_readClause (zlv hd rfl) ho0 hd0 eh4) mY_X1_readClause q_366 (Nat.le_of_ble_eq_true rfl) dX1_read_20 rfl rfl rfl ?_
  refine z_iconst (q := 24) C dX1_read_23 rfl ?_
  refine z_istore_n (q := 25) C dX1_read_24 (by decide) rfl rfl rfl ?_
  exact z_sub (J_fX1_read_c25 C hR hd ho0 hd0 e1 e2 N _ _ hF) [1, 2, 0] rfl
set_option maxRecDepth 20000 in
set_option maxHeartbeats 4000000 in
theorem M_fX1_read {l : Launch} {D : va_G} {cy : ClassId} {α : Nat → Nat} {n : Nat} {σ : zSg} {d : Nat} (hd : 10 ≤ d) {N : Nat} {o0 : Nat} (ho0 : o0 < zN) (hd0 : zkd o0 = 1) {h : zH} {r : Int} {g : zH} (hF : fX1_read N o0 h = some (r, g)) : zMet l yX1_read cX1_read 3 (some .int) (zrm d) D cy α n σ [.ref (α o0), .ref (α 1)] h (some (.int (zi r))) g := by
  obtain ⟨d, rfl⟩ : ∃ e, d = e + 1 := ⟨d - 1, by omega⟩
  refine z_met (by decide +kernel) (Nat.le_of_ble_eq_true rfl) (fun κ k1 k2 k3 k4 k5 k6 k7 k8 k9 C => ?_)
  subst k1 k3 k4 k5 k6 k7
  exact J_fX1_read C k2 hd ho0 hd0 k8 k9 hF
set_option maxRecDepth 20000 in
set_option maxHeartbeats 4000000 in
theorem J_fJ9_min_7cf53 {κ : zT} (C : zC κ RJ9 cJ9_min_7cf53 2 (some .int)) {d : Nat} (hR : zR κ = zrm (d + 1)) (hd : 1 ≤ d + 1) {h : zH} {r : Int} (e1 : zrv κ = some (.int (zi r))) (e2 : zhf κ = h) {a0 : Int} {a1 : Int} (hF : fJ9_min_7cf53 a0 a1 = r) : Z κ h 0 [(0, .int (zi a0)), (1, .int (zi a1))] [] := by
  unfold fJ9_min_7cf53 at hF
  refine z_iload_n (q := 1) C dJ9_min_7cf53_0 0 rfl rfl rfl ?_
  refine z_iload_n (q := 2) C dJ9_min_7cf53_1 1 rfl rfl rfl ?_
  refine z_icmp_gt (tgt := 9) (q := 5) C dJ9_min_7cf53_2 (by decide) rfl (fun c1 => ?_) (fun c1 => ?_)
  · have hF := (if_pos c1).symm.trans hF
    refine z_iload_n (q := 10) C dJ9_min_7cf53_9 1 rfl rfl rfl ?_
    subst hF
    exact z_iret C e1 e2 dJ9_min_7cf53_10
  · have hF := (if_neg c1).symm.trans hF
    refine z_iload_n (q := 6) C dJ9_min_7cf53_5 0 rfl rfl rfl ?_
    refine z_goto (q := 10) C dJ9_min_7cf53_6 (by decide) ?_
    subst hF
    exact z_iret C e1 e2 dJ9_min_7cf53_10
set_option maxRecDepth 20000 in
set_option maxHeartbeats 4000000 in
theorem M_fJ9_min_7cf53 {l : Launch} {D : va_G} {cy : ClassId} {α : Nat → Nat} {n : Nat} {σ : zSg} {d : Nat} (hd : 1 ≤ d) {a0 : Int} {a1 : Int} {h : zH} {r : Int} (hF : fJ9_min_7cf53 a0 a1 = r) : zMet l yJ9_min_7cf53 cJ9_min_7cf53 2 (some .int) (zrm d) D cy α n σ [.int (zi a0), .int (zi a1)] h (some (.int (zi r))) h := by
  obtain ⟨d, rfl⟩ : ∃ e, d = e + 1 := ⟨d - 1, by omega⟩
  refine z_met (by decide +kernel) (Nat.le_of_ble_eq_true rfl) (fun κ k1 k2 k3 k4 k5 k6 k7 k8 k9 C => ?_)
  subst k1 k3 k4 k5 k6 k7
  exact J_fJ9_min_7cf53 C k2 hd k8 k9 hF
set_option maxRecDepth 20000 in
set_option maxHeartbeats 4000000 in
theorem J_fX4_emit {κ : zT} (C : zC κ RX4 cX4_emit 2 none) {d : Nat} (hR : zR κ = zrm (d + 1)) (hd : 2 ≤ d + 1) {r : zH} (e1 : zrv κ = none) (e2 : zhf κ = r) {a1 : Int} {h : zH} (hF : fX4_emit a1 h = r) : Z κ h 0 [(0, .ref (zα κ 4)), (1, .int (zi a1))] [] := by
  unfold fX4_emit at hF
  refine z_aload_n (q := 1) C dX4_emit_0 0 rfl rfl rfl ?_
  refine z_getf (q := 4) C clX4 (zon C zo_4) kd_4 (k := 0) (by decide) q_82 rfl (zfv_r kd_4 rfl fr_4_0) dX4_emit_1 rfl ?_
  refine z_aload_n (q := 5) C dX4_emit_4 0 rfl rfl rfl ?_
  refine z_getf (q := 8) C clX4 (zon C zo_4) kd_4 (k := 1) (by decide) q_84 rfl (zfv_i kd_4 rfl) dX4_emit_5 rfl ?_
  refine z_iload_n (q := 9) C dX4_emit_8 1 rfl rfl rfl ?_
  obtain ⟨h1, eh1, hF⟩ := zlet_e hF
  refine z_callSN (q := 12) (av := [.ref (zα κ 22), .int (zi (h 4 1)), .int (zi a1)]) (rest := []) (stk2 := []) C hR (M_fX10_put (zlv hd rfl) zo_22 kd_22 eh1.symm) mY_X10_put q_507 (Nat.le_of_ble_eq_true rfl) dX4_emit_9 rfl rfl rfl ?_
  refine z_aload_n (q := 13) C dX4_emit_12 0 rfl rfl rfl ?_
  refine z_aload_n (q := 14) C dX4_emit_13 0 rfl rfl rfl ?_
  refine z_getf (q := 17) C clX4 (zon C zo_4) kd_4 (k := 1) (by decide) q_84 rfl (zfv_i kd_4 rfl) dX4_emit_14 rfl ?_
  refine z_iconst (q := 18) C dX4_emit_17 rfl ?_
  refine z_iadd (q := 19) C dX4_emit_18 rfl ?_
  refine z_sipush (q := 22) C dX4_emit_19 sp_240 rfl ?_
  refine z_callS (q := 25) (av := [.int (zi ((h1 4 1) + 1)), .int (zi 240)]) (rest := [.ref (zα κ 4)]) (stk2 := [.int (zi (fJ9_min_7cf53 ((h1 4 1) + 1) 240)), .ref (zα κ 4)]) C hR (M_fJ9_min_7cf53 (zlv hd rfl) rfl) mY_J9_min_7cf53 q_508 (Nat.le_of_ble_eq_true rfl) dX4_emit_22 rfl rfl rfl ?_
  obtain ⟨h2, eh2, hF⟩ := zlet_e hF
  refine z_putf (q := 28) C clX4 (zon C zo_4) kd_4 (k := 1) (x := fJ9_min_7cf53 ((h1 4 1) + 1) 240) (by decide) q_84 rfl rfl rfl rfl (((zfv_i kd_4 rfl)).trans (by rw [if_pos rfl])) dX4_emit_25 rfl eh2 ?_
  subst hF
  exact z_vret C e1 e2 dX4_emit_28
set_option maxRecDepth 20000 in
set_option maxHeartbeats 4000000 in
theorem M_fX4_emit {l : Launch} {D : va_G} {cy : ClassId} {α : Nat → Nat} {n : Nat} {σ : zSg} {d : Nat} (hd : 2 ≤ d) {a1 : Int} {h : zH} {g : zH} (hF : fX4_emit a1 h = g) : zMet l yX4_emit cX4_emit 2 none (zrm d) D cy α n σ [.ref (α 4), .int (zi a1)] h (none) g := by
  obtain ⟨d, rfl⟩ : ∃ e, d = e + 1 := ⟨d - 1, by omega⟩
  refine z_met (by decide +kernel) (Nat.le_of_ble_eq_true rfl) (fun κ k1 k2 k3 k4 k5 k6 k7 k8 k9 C => ?_)
  subst k1 k3 k4 k5 k6 k7
  exact J_fX4_emit C k2 hd k8 k9 hF
set_option maxRecDepth 20000 in
set_option maxHeartbeats 4000000 in
theorem J_fX4_push {κ : zT} (C : zC κ RX4 cX4_push 2 none) {d : Nat} (hR : zR κ = zrm (d + 1)) (hd : 2 ≤ d + 1) {r : zH} (e1 : zrv κ = none) (e2 : zhf κ = r) {a1 : Int} {h : zH} (hF : fX4_push a1 h = r) : Z κ h 0 [(0, .ref (zα κ 4)), (1, .int (zi a1))] [] := by
  unfold fX4_push at hF
  refine z_aload_n (q := 1) C dX4_push_0 0 rfl rfl rfl ?_
  refine z_getf (q := 4) C clX4 (zon C zo_4) kd_4 (k := 2) (by decide) q_86 rfl (zfv_r kd_4 rfl fr_4_2) dX4_push_1 rfl ?_
  refine z_aload_n (q := 5) C dX4_push_4 0 rfl rfl rfl ?_
  refine z_getf (q := 8) C clX4 (zon C zo_4) kd_4 (k := 3) (by decide) q_87 rfl (zfv_i kd_4 rfl) dX4_push_5 rfl ?_
  refine z_iload_n (q := 9) C dX4_push_8 1 rfl rfl rfl ?_
  obtain ⟨h1, eh1, hF⟩ := zlet_e hF
  refine z_callSN (q := 12) (av := [.ref (zα κ 23), .int (zi (h 4 3)), .int (zi a1)]) (rest := []) (stk2 := []) C hR (M_fX10_put (zlv hd rfl) zo_23 kd_23 eh1.symm) mY_X10_put q_507 (Nat.le_of_ble_eq_true rfl) dX4_push_9 rfl rfl rfl ?_
  refine z_aload_n (q := 13) C dX4_push_12 0 rfl rfl rfl ?_
  refine z_aload_n (q := 14) C dX4_push_13 0 rfl rfl rfl ?_
  refine z_getf (q := 17) C clX4 (zon C zo_4) kd_4 (k := 3) (by decide) q_87 rfl (zfv_i kd_4 rfl) dX4_push_14 rfl ?_
  refine z_iconst (q := 18) C dX4_push_17 rfl ?_
  refine z_iadd (q := 19) C dX4_push_18 rfl ?_
  refine z_bipush (q := 21) C dX4_push_19 bp_48 rfl ?_
  refine z_callS (q := 24) (av := [.int (zi ((h1 4 3) + 1)), .int (zi 48)]) (rest := [.ref (zα κ 4)]) (stk2 := [.int (zi (fJ9_min_7cf53 ((h1 4 3) + 1) 48)), .ref (zα κ 4)]) C hR (M_fJ9_min_7cf53 (zlv hd rfl) rfl) mY_J9_min_7cf53 q_508 (Nat.le_of_ble_eq_true rfl) dX4_push_21 rfl rfl rfl ?_
  obtain ⟨h2, eh2, hF⟩ := zlet_e hF
  refine z_putf (q := 27) C clX4 (zon C zo_4) kd_4 (k := 3) (x := fJ9_min_7cf53 ((h1 4 3) + 1) 48) (by decide) q_87 rfl rfl rfl rfl (((zfv_i kd_4 rfl)).trans (by rw [if_pos rfl])) dX4_push_24 rfl eh2 ?_
  subst hF
  exact z_vret C e1 e2 dX4_push_27
set_option maxRecDepth 20000 in
set_option maxHeartbeats 4000000 in
theorem M_fX4_push {l : Launch} {D : va_G} {cy : ClassId} {α : Nat → Nat} {n : Nat} {σ : zSg} {d : Nat} (hd : 2 ≤ d) {a1 : Int} {h : zH} {g : zH} (hF : fX4_push a1 h = g) : zMet l yX4_push cX4_push 2 none (zrm d) D cy α n σ [.ref (α 4), .int (zi a1)] h (none) g := by
  obtain ⟨d, rfl⟩ : ∃ e, d = e + 1 := ⟨d - 1, by omega⟩
  refine z_met (by decide +kernel) (Nat.le_of_ble_eq_true rfl) (fun κ k1 k2 k3 k4 k5 k6 k7 k8 k9 C => ?_)
  subst k1 k3 k4 k5 k6 k7
  exact J_fX4_push C k2 hd k8 k9 hF
set_option maxRecDepth 20000 in
set_option maxHeartbeats 4000000 in
theorem J_fX4_open {κ : zT} (C : zC κ RX4 cX4_open 2 none) {d : Nat} (hR : zR κ = zrm (d + 1)) (hd : 3 ≤ d + 1) {r : zH} (e1 : zrv κ = none) (e2 : zhf κ = r) {a1 : Int} {h : zH} (hF : fX4_open a1 h = r) : Z κ h 0 [(0, .ref (zα κ 4)), (1, .int (zi a1))] [] := by
  unfold fX4_open at hF
  refine z_aload_n (q := 1) C dX4_open_0 0 rfl rfl rfl ?_
  refine z_iload_n (q := 2) C dX4_open_1 1 rfl rfl rfl ?_
  obtain ⟨h1, eh1, hF⟩ := zlet_e hF
  refine z_callV (q := 5) (o := 4) (av := [.int (zi a1)]) (rest := []) (stk2 := []) C hR clX4 (zon C zo_4) kd_4 (M_fX4_push (zlv hd rfl) eh1.symm) mY_X4_push q_515 (Nat.le_of_ble_eq_true rfl) dX4_open_2 rfl rfl rfl ?_
  refine z_aload_n (q := 6) C dX4_open_5 0 rfl rfl rfl ?_
  refine z_dup (q := 7) C dX4_open_6 rfl rfl ?_
  refine z_getf (q := 10) C clX4 (zon C zo_4) kd_4 (k := 4) (by decide) q_88 rfl (zfv_i kd_4 rfl) dX4_open_7 rfl ?_
  refine z_iconst (q := 11) C dX4_open_10 rfl ?_
  refine z_iadd (q := 12) C dX4_open_11 rfl ?_
  obtain ⟨h2, eh2, hF⟩ := zlet_e hF
  refine z_putf (q := 15) C clX4 (zon C zo_4) kd_4 (k := 4) (x := (h1 4 4) + 1) (by decide) q_88 rfl rfl rfl rfl (((zfv_i kd_4 rfl)).trans (by rw [if_pos rfl])) dX4_open_12 rfl eh2 ?_
  refine z_iload_n (q := 16) C dX4_open_15 1 rfl rfl rfl ?_
  refine z_bipush (q := 18) C dX4_open_16 bp_91 rfl ?_
  refine z_icmp_ne (tgt := 39) (q := 21) C dX4_open_18 (by decide) rfl (fun c3 => ?_) (fun c3 => ?_)
  · have hF := (if_neg c3).symm.trans hF
    refine z_aload_n (q := 40) C dX4_open_39 0 rfl rfl rfl ?_
    refine z_iconst (q := 41) C dX4_open_40 rfl ?_
    obtain ⟨h8, eh8, hF⟩ := zlet_e hF
    refine z_putf (q := 44) C clX4 (zon C zo_4) kd_4 (k := 11) (x := 1) (by decide) q_95 rfl rfl (zbn (Or.inr rfl)) (zbf (Or.inr rfl)) (((zfv_i kd_4 rfl)).trans (by rw [if_pos rfl])) dX4_open_41 rfl eh8 ?_
    refine z_iload_n (q := 45) C dX4_open_44 1 rfl rfl rfl ?_
    refine z_bipush (q := 47) C dX4_open_45 bp_40 rfl ?_
    refine z_icmp_ne (tgt := 60) (q := 50) C dX4_open_47 (by decide) rfl (fun c9 => ?_) (fun c9 => ?_)
    · have hF := (if_neg c9).symm.trans hF
      subst hF
      exact z_vret C e1 e2 dX4_open_60
    · have hF := (if_pos c9).symm.trans hF
      refine z_aload_n (q := 51) C dX4_open_50 0 rfl rfl rfl ?_
      refine z_dup (q := 52) C dX4_open_51 rfl rfl ?_
      refine z_getf (q := 55) C clX4 (zon C zo_4) kd_4 (k := 5) (by decide) q_89 rfl (zfv_i kd_4 rfl) dX4_open_52 rfl ?_
      refine z_iconst (q := 56) C dX4_open_55 rfl ?_
      refine z_iadd (q := 57) C dX4_open_56 rfl ?_
      obtain ⟨h10, eh10, hF⟩ := zlet_e hF
      refine z_putf (q := 60) C clX4 (zon C zo_4) kd_4 (k := 5) (x := (h8 4 5) + 1) (by decide) q_89 rfl rfl rfl rfl (((zfv_i kd_4 rfl)).trans (by rw [if_pos rfl])) dX4_open_57 rfl eh10 ?_
      subst hF
      exact z_vret C e1 e2 dX4_open_60
  · have hF := (if_pos c3).symm.trans hF
    refine z_aload_n (q := 22) C dX4_open_21 0 rfl rfl rfl ?_
    refine z_dup (q := 23) C dX4_open_22 rfl rfl ?_
    refine z_getf (q := 26) C clX4 (zon C zo_4) kd_4 (k := 6) (by decide) q_90 rfl (zfv_i kd_4 rfl) dX4_open_23 rfl ?_
    refine z_iconst (q := 27) C dX4_open_26 rfl ?_
    refine z_iadd (q := 28) C dX4_open_27 rfl ?_
    obtain ⟨h4, eh4, hF⟩ := zlet_e hF
    refine z_putf (q := 31) C clX4 (zon C zo_4) kd_4 (k := 6) (x := (h2 4 6) + 1) (by decide) q_90 rfl rfl rfl rfl (((zfv_i kd_4 rfl)).trans (by rw [if_pos rfl])) dX4_open_28 rfl eh4 ?_
    refine z_aload_n (q := 32) C dX4_open_31 0 rfl rfl rfl ?_
    refine z_iconst (q := 33) C dX4_open_32 rfl ?_
    obtain ⟨h5, eh5, hF⟩ := zlet_e hF
    refine z_putf (q := 36) C clX4 (zon C zo_4) kd_4 (k := 8) (x := 0) (by decide) q_92 rfl rfl (zbn (Or.inl rfl)) (zbf (Or.inl rfl)) (((zfv_i kd_4 rfl)).trans (by rw [if_pos rfl])) dX4_open_33 rfl eh5 ?_
    refine z_goto (q := 44) C dX4_open_36 (by decide) ?_
    refine z_iload_n (q := 45) C dX4_open_44 1 rfl rfl rfl ?_
    refine z_bipush (q := 47) C dX4_open_45 bp_40 rfl ?_
    refine z_icmp_ne (tgt := 60) (q := 50) C dX4_open_47 (by decide) rfl (fun c6 => ?_) (fun c6 => ?_)
    · have hF := (if_neg c6).symm.trans hF
      subst hF
      exact z_vret C e1 e2 dX4_open_60
    · have hF := (if_pos c6).symm.trans hF
      refine z_aload_n (q := 51) C dX4_open_50 0 rfl rfl rfl ?_
      refine z_dup (q := 52) C dX4_open_51 rfl rfl ?_
      refine z_getf (q := 55) C clX4 (zon C zo_4) kd_4 (k := 5) (by decide) q_89 rfl (zfv_i kd_4 rfl) dX4_open_52 rfl ?_
      refine z_iconst (q := 56) C dX4_open_55 rfl ?_
      refine z_iadd (q := 57) C dX4_open_56 rfl ?_
      obtain ⟨h7, eh7, hF⟩ := zlet_e hF
      refine z_putf (q := 60) C clX4 (zon C zo_4) kd_4 (k := 5) (x := (h5 4 5) + 1) (by decide) q_89 rfl rfl rfl rfl (((zfv_i kd_4 rfl)).trans (by rw [if_pos rfl])) dX4_open_57 rfl eh7 ?_
      subst hF
      exact z_vret C e1 e2 dX4_open_60
set_option maxRecDepth 20000 in
set_option maxHeartbeats 4000000 in
theorem M_fX4_open {l : Launch} {D : va_G} {cy : ClassId} {α : Nat → Nat} {n : Nat} {σ : zSg} {d : Nat} (hd : 3 ≤ d) {a1 : Int} {h : zH} {g : zH} (hF : fX4_open a1 h = g) : zMet l yX4_open cX4_open 2 none (zrm d) D cy α n σ [.ref (α 4), .int (zi a1)] h (none) g := by
  obtain ⟨d, rfl⟩ : ∃ e, d = e + 1 := ⟨d - 1, by omega⟩
  refine z_met (by decide +kernel) (Nat.le_of_ble_eq_true rfl) (fun κ k1 k2 k3 k4 k5 k6 k7 k8 k9 C => ?_)
  subst k1 k3 k4 k5 k6 k7
  exact J_fX4_open C k2 hd k8 k9 hF
set_option maxRecDepth 20000 in
set_option maxHeartbeats 4000000 in
theorem J_fX4_readOperand_c127 {κ : zT} (C : zC κ RX4 cX4_readOperand 4 (some .boolean)) {d : Nat} (hR : zR κ = zrm (d + 1)) (hd : 8 ≤ d + 1) {N : Nat} {r : Int × zH} (e1 : zrv κ = some (.int (zi r.1))) (e2 : zhf κ = r.2) (h : zH) (hF : fX4_readOperand_c127 N h = some r) : Z κ h 127 [(1, .ref (zα κ 1))] [] := by
  unfold fX4_readOperand_c127 at hF
  refine z_aload_n (q := 128) C dX4_readOperand_127 0 rfl rfl rfl ?_
  refine z_getf (q := 131) C clX9 (zon C zo_1) kd_1 (k := 3) (by decide) q_48 rfl (zfv_i kd_1 rfl) dX4_readOperand_128 rfl ?_
  refine z_iconst (q := 132) C dX4_readOperand_131 rfl ?_
  refine z_icmp_ne (tgt := 139) (q := 135) C dX4_readOperand_132 (by decide) rfl (fun c1 => ?_) (fun c1 => ?_)
  · have hF := (if_neg c1).symm.trans hF
    refine z_iconst (q := 140) C dX4_readOperand_139 rfl ?_
    have hF := Option.some.inj hF
    subst hF
    exact z_zret C (zb01 (Or.inl rfl)) e1 e2 dX4_readOperand_140
  · have hF := (if_pos c1).symm.trans hF
    refine z_iconst (q := 136) C dX4_readOperand_135 rfl ?_
    refine z_goto (q := 140) C dX4_readOperand_136 (by decide) ?_
    have hF := Option.some.inj hF
    subst hF
    exact z_zret C (zb01 (Or.inr rfl)) e1 e2 dX4_readOperand_140
set_option maxRecDepth 20000 in
set_option maxHeartbeats 4000000 in
theorem J_fX4_readOperand {κ : zT} (C : zC κ RX4 cX4_readOperand 4 (some .boolean)) {d : Nat} (hR : zR κ = zrm (d + 1)) (hd : 8 ≤ d + 1) {N : Nat} {r : Int × zH} (e1 : zrv κ = some (.int (zi r.1))) (e2 : zhf κ = r.2) {h : zH} (hF : fX4_readOperand N h = some r) : Z κ h 0 [(0, .ref (zα κ 4)), (1, .ref (zα κ 1))] [] := by
  unfold fX4_readOperand at hF
  refine z_aload_n (q := 1) C dX4_readOperand_0 1 rfl rfl rfl ?_
  obtain ⟨v2, h1, ev2, hF⟩ := z2_e hF
  refine z_callV (q := 4) (o := 1) (av := []) (rest := []) (stk2 := [.int (zi v2)]) C hR clX9 (zon C zo_1) kd_1 (M_fX9_next (zlv hd rfl) ev2) mY_X9_next q_498 (Nat.le_of_ble_eq_true rfl) dX4_readOperand_1 rfl rfl rfl ?_
  refine z_istore_n (q := 5) C dX4_readOperand_4 (by decide) rfl rfl rfl ?_
  refine z_ldcS (q := 7) (i := 2) C (by decide) rfl rfl dX4_readOperand_5 rfl ?_
  refine z_iload_n (q := 8) C dX4_readOperand_7 0 rfl rfl rfl ?_
  obtain ⟨v3, ev3, hF⟩ := zb_e hF
  refine z_callSN (q := 11) (av := [.ref ((zσ κ).2.1 2), .int (zi v2)]) (rest := []) (stk2 := [.int (zi v3)]) C hR (M_fX10_placeIn (zlv hd rfl) (by decide) ev3) mY_X10_placeIn q_500 (Nat.le_of_ble_eq_true rfl) dX4_readOperand_8 rfl rfl rfl ?_
  refine z_istore_n (q := 12) C dX4_readOperand_11 (by decide) rfl rfl rfl ?_
  refine z_iload_n (q := 13) C dX4_readOperand_12 1 rfl rfl rfl ?_
  refine z_callS (q := 16) (av := [.int (zi v2)]) (rest := []) (stk2 := [.int (zi (fX9_isDigit v2))]) C hR (M_fX9_isDigit (zlv hd rfl) rfl) mY_X9_isDigit q_501 (Nat.le_of_ble_eq_true rfl) dX4_readOperand_13 rfl rfl rfl ?_
  refine z_if_eq (tgt := 36) (q := 19) C dX4_readOperand_16 (by decide) rfl (fun c4 => ?_) (fun c4 => ?_)
  · have hF := (if_pos c4).symm.trans hF
    refine z_iload_n (q := 37) C dX4_readOperand_36 0 rfl rfl rfl ?_
    refine z_if_lt (tgt := 67) (q := 40) C dX4_readOperand_37 (by decide) rfl (fun c5 => ?_) (fun c5 => ?_)
    · have hF := (if_pos c5).symm.trans hF
      refine z_aload_n (q := 68) C dX4_readOperand_67 2 rfl rfl rfl ?_
      refine z_getf (q := 71) C clX4 (zon C zo_4) kd_4 (k := 4) (by decide) q_88 rfl (zfv_i kd_4 rfl) dX4_readOperand_68 rfl ?_
      refine z_bipush (q := 73) C dX4_readOperand_71 bp_6 rfl ?_
      refine z_icmp_ge (tgt := 119) (q := 76) C dX4_readOperand_73 (by decide) rfl (fun c6 => ?_) (fun c6 => ?_)
      · have hF := (if_pos c6).symm.trans hF
        refine z_aload_n (q := 120) C dX4_readOperand_119 3 rfl rfl rfl ?_
        refine z_aload_n (q := 121) C dX4_readOperand_120 3 rfl rfl rfl ?_
        refine z_getf (q := 124) C clX9 (zon C zo_1) kd_1 (k := 2) (by decide) q_44 rfl (zfv_i kd_1 rfl) dX4_readOperand_121 rfl ?_
        obtain ⟨h7, eh7, hF⟩ := zlet_e hF
        refine z_callV (q := 127) (o := 1) (av := [.int (zi (h1 1 2))]) (rest := []) (stk2 := []) C hR clX9 (zon C zo_1) kd_1 (M_fX9_blame (zlv hd rfl) eh7.symm) mY_X9_blame q_493 (Nat.le_of_ble_eq_true rfl) dX4_readOperand_124 rfl rfl rfl ?_
        exact z_sub (J_fX4_readOperand_c127 C hR hd e1 e2 _ hF) [3] rfl
      · have hF := (if_neg c6).symm.trans hF
        refine z_iload_n (q := 77) C dX4_readOperand_76 1 rfl rfl rfl ?_
        refine z_bipush (q := 79) C dX4_readOperand_77 bp_91 rfl ?_
        refine z_icmp_eq (tgt := 101) (q := 82) C dX4_readOperand_79 (by decide) rfl (fun c8 => ?_) (fun c8 => ?_)
        · have hF := (if_pos c8).symm.trans hF
          refine z_aload_n (q := 102) C dX4_readOperand_101 3 rfl rfl rfl ?_
          refine z_dup (q := 103) C dX4_readOperand_102 rfl rfl ?_
          refine z_getf (q := 106) C clX9 (zon C zo_1) kd_1 (k := 2) (by decide) q_44 rfl (zfv_i kd_1 rfl) dX4_readOperand_103 rfl ?_
          refine z_iconst (q := 107) C dX4_readOperand_106 rfl ?_
          refine z_iadd (q := 108) C dX4_readOperand_107 rfl ?_
          obtain ⟨h9, eh9, hF⟩ := zlet_e hF
          refine z_putf (q := 111) C clX9 (zon C zo_1) kd_1 (k := 2) (x := (h1 1 2) + 1) (by decide) q_44 rfl rfl rfl rfl (((zfv_i kd_1 rfl)).trans (by rw [if_pos rfl])) dX4_readOperand_108 rfl eh9 ?_
          refine z_aload_n (q := 112) C dX4_readOperand_111 2 rfl rfl rfl ?_
          refine z_iload_n (q := 113) C dX4_readOperand_112 1 rfl rfl rfl ?_
          obtain ⟨h10, eh10, hF⟩ := zlet_e hF
          refine z_callV (q := 116) (o := 4) (av := [.int (zi v2)]) (rest := []) (stk2 := []) C hR clX4 (zon C zo_4) kd_4 (M_fX4_open (zlv hd rfl) eh10.symm) mY_X4_open q_511 (Nat.le_of_ble_eq_true rfl) dX4_readOperand_113 rfl rfl rfl ?_
          refine z_goto (q := 127) C dX4_readOperand_116 (by decide) ?_
          exact z_sub (J_fX4_readOperand_c127 C hR hd e1 e2 _ hF) [3] rfl
        · have hF := (if_neg c8).symm.trans hF
          refine z_aload_n (q := 83) C dX4_readOperand_82 2 rfl rfl rfl ?_
          refine z_getf (q := 86) C clX4 (zon C zo_4) kd_4 (k := 8) (by decide) q_92 rfl (zfv_i kd_4 rfl) dX4_readOperand_83 rfl ?_
          refine z_if_eq (tgt := 119) (q := 89) C dX4_readOperand_86 (by decide) rfl (fun c11 => ?_) (fun c11 => ?_)
          · have hF := (if_pos c11).symm.trans hF
            refine z_aload_n (q := 120) C dX4_readOperand_119 3 rfl rfl rfl ?_
            refine z_aload_n (q := 121) C dX4_readOperand_120 3 rfl rfl rfl ?_
            refine z_getf (q := 124) C clX9 (zon C zo_1) kd_1 (k := 2) (by decide) q_44 rfl (zfv_i kd_1 rfl) dX4_readOperand_121 rfl ?_
            obtain ⟨h12, eh12, hF⟩ := zlet_e hF
            refine z_callV (q := 127) (o := 1) (av := [.int (zi (h1 1 2))]) (rest := []) (stk2 := []) C hR clX9 (zon C zo_1) kd_1 (M_fX9_blame (zlv hd rfl) eh12.symm) mY_X9_blame q_493 (Nat.le_of_ble_eq_true rfl) dX4_readOperand_124 rfl rfl rfl ?_
            exact z_sub (J_fX4_readOperand_c127 C hR hd e1 e2 _ hF) [3] rfl
          · have hF := (if_neg c11).symm.trans hF
            refine z_iload_n (q := 90) C dX4_readOperand_89 1 rfl rfl rfl ?_
            refine z_bipush (q := 92) C dX4_readOperand_90 bp_40 rfl ?_
            refine z_icmp_eq (tgt := 101) (q := 95) C dX4_readOperand_92 (by decide) rfl (fun c13 => ?_) (fun c13 => ?_)
            · have hF := (if_pos c13).symm.trans hF
              refine z_aload_n (q := 102) C dX4_readOperand_101 3 rfl rfl rfl ?_
              refine z_dup (q := 103) C dX4_readOperand_102 rfl rfl ?_
              refine z_getf (q := 106) C clX9 (zon C zo_1) kd_1 (k := 2) (by decide) q_44 rfl (zfv_i kd_1 rfl) dX4_readOperand_103 rfl ?_
              refine z_iconst (q := 107) C dX4_readOperand_106 rfl ?_
              refine z_iadd (q := 108) C dX4_readOperand_107 rfl ?_
              obtain ⟨h14, eh14, hF⟩ := zlet_e hF
              refine z_putf (q := 111) C clX9 (zon C zo_1) kd_1 (k := 2) (x := (h1 1 2) + 1) (by decide) q_44 rfl rfl rfl rfl (((zfv_i kd_1 rfl)).trans (by rw [if_pos rfl])) dX4_readOperand_108 rfl eh14 ?_
              refine z_aload_n (q := 112) C dX4_readOperand_111 2 rfl rfl rfl ?_
              refine z_iload_n (q := 113) C dX4_readOperand_112 1 rfl rfl rfl ?_
              obtain ⟨h15, eh15, hF⟩ := zlet_e hF
              refine z_callV (q := 116) (o := 4) (av := [.int (zi v2)]) (rest := []) (stk2 := []) C hR clX4 (zon C zo_4) kd_4 (M_fX4_open (zlv hd rfl) eh15.symm) mY_X4_open q_511 (Nat.le_of_ble_eq_true rfl) dX4_readOperand_113 rfl rfl rfl ?_
              refine z_goto (q := 127) C dX4_readOperand_116 (by decide) ?_
              exact z_sub (J_fX4_readOperand_c127 C hR hd e1 e2 _ hF) [3] rfl
            · have hF := (if_neg c13).symm.trans hF
              refine z_iload_n (q := 96) C dX4_readOperand_95 1 rfl rfl rfl ?_
              refine z_bipush (q := 98) C dX4_readOperand_96 bp_33 rfl ?_
              refine z_icmp_ne (tgt := 119) (q := 101) C dX4_readOperand_98 (by decide) rfl (fun c16 => ?_) (fun c16 => ?_)
              · have hF := (if_neg c16).symm.trans hF
                refine z_aload_n (q := 120) C dX4_readOperand_119 3 rfl rfl rfl ?_
                refine z_aload_n (q := 121) C dX4_readOperand_120 3 rfl rfl rfl ?_
                refine z_getf (q := 124) C clX9 (zon C zo_1) kd_1 (k := 2) (by decide) q_44 rfl (zfv_i kd_1 rfl) dX4_readOperand_121 rfl ?_
                obtain ⟨h19, eh19, hF⟩ := zlet_e hF
                refine z_callV (q := 127) (o := 1) (av := [.int (zi (h1 1 2))]) (rest := []) (stk2 := []) C hR clX9 (zon C zo_1) kd_1 (M_fX9_blame (zlv hd rfl) eh19.symm) mY_X9_blame q_493 (Nat.le_of_ble_eq_true rfl) dX4_readOperand_124 rfl rfl rfl ?_
                exact z_sub (J_fX4_readOperand_c127 C hR hd e1 e2 _ hF) [3] rfl
              · have hF := (if_pos c16).symm.trans hF
                refine z_aload_n (q := 102) C dX4_readOperand_101 3 rfl rfl rfl ?_
                refine z_dup (q := 103) C dX4_readOperand_102 rfl rfl ?_
                refine z_getf (q := 106) C clX9 (zon C zo_1) kd_1 (k := 2) (by decide) q_44 rfl (zfv_i kd_1 rfl) dX4_readOperand_103 rfl ?_
                refine z_iconst (q := 107) C dX4_readOperand_106 rfl ?_
                refine z_iadd (q := 108) C dX4_readOperand_107 rfl ?_
                obtain ⟨h17, eh17, hF⟩ := zlet_e hF
                refine z_putf (q := 111) C clX9 (zon C zo_1) kd_1 (k := 2) (x := (h1 1 2) + 1) (by decide) q_44 rfl rfl rfl rfl (((zfv_i kd_1 rfl)).trans (by rw [if_pos rfl])) dX4_readOperand_108 rfl eh17 ?_
                refine z_aload_n (q := 112) C dX4_readOperand_111 2 rfl rfl rfl ?_
                refine z_iload_n (q := 113) C dX4_readOperand_112 1 rfl rfl rfl ?_
                obtain ⟨h18, eh18, hF⟩ := zlet_e hF
                refine z_callV (q := 116) (o := 4) (av := [.int (zi v2)]) (rest := []) (stk2 := []) C hR clX4 (zon C zo_4) kd_4 (M_fX4_open (zlv hd rfl) eh18.symm) mY_X4_open q_511 (Nat.le_of_ble_eq_true rfl) dX4_readOperand_113 rfl rfl rfl ?_
                refine z_goto (q := 127) C dX4_readOperand_116 (by decide) ?_
                exact z_sub (J_fX4_readOperand_c127 C hR hd e1 e2 _ hF) [3] rfl
    · have hF := (if_neg c5).symm.trans hF
      refine z_aload_n (q := 41) C dX4_readOperand_40 3 rfl rfl rfl ?_
      refine z_dup (q := 42) C dX4_readOperand_41 rfl rfl ?_
      refine z_getf (q := 45) C clX9 (zon C zo_1) kd_1 (k := 2) (by decide) q_44 rfl (zfv_i kd_1 rfl) dX4_readOperand_42 rfl ?_
      refine z_iconst (q := 46) C dX4_readOperand_45 rfl ?_
      refine z_iadd (q := 47) C dX4_readOperand_46 rfl ?_
      obtain ⟨h20, eh20, hF⟩ := zlet_e hF
      refine z_putf (q := 50) C clX9 (zon C zo_1) kd_1 (k := 2) (x := (h1 1 2) + 1) (by decide) q_44 rfl rfl rfl rfl (((zfv_i kd_1 rfl)).trans (by rw [if_pos rfl])) dX4_readOperand_47 rfl eh20 ?_
      refine z_aload_n (q := 51) C dX4_readOperand_50 2 rfl rfl rfl ?_
      refine z_sipush (q := 54) C dX4_readOperand_51 sp_10000 rfl ?_
      refine z_iload_n (q := 55) C dX4_readOperand_54 0 rfl rfl rfl ?_
      refine z_iadd (q := 56) C dX4_readOperand_55 rfl ?_
      obtain ⟨h21, eh21, hF⟩ := zlet_e hF
      refine z_callV (q := 59) (o := 4) (av := [.int (zi (10000 + v3))]) (rest := []) (stk2 := []) C hR clX4 (zon C zo_4) kd_4 (M_fX4_emit (zlv hd rfl) eh21.symm) mY_X4_emit q_503 (Nat.le_of_ble_eq_true rfl) dX4_readOperand_56 rfl rfl rfl ?_
      refine z_aload_n (q := 60) C dX4_readOperand_59 2 rfl rfl rfl ?_
      refine z_iconst (q := 61) C dX4_readOperand_60 rfl ?_
      obtain ⟨h22, eh22, hF⟩ := zlet_e hF
      refine z_putf (q := 64) C clX4 (zon C zo_4) kd_4 (k := 7) (x := 0) (by decide) q_91 rfl rfl (zbn (Or.inl rfl)) (zbf (Or.inl rfl)) (((zfv_i kd_4 rfl)).trans (by rw [if_pos rfl])) dX4_readOperand_61 rfl eh22 ?_
      refine z_goto (q := 127) C dX4_readOperand_64 (by decide) ?_
      exact z_sub (J_fX4_readOperand_c127 C hR hd e1 e2 _ hF) [3] rfl
  · have hF := (if_neg c4).symm.trans hF
    refine z_aload_n (q := 20) C dX4_readOperand_19 2 rfl rfl rfl ?_
    refine z_aload_n (q := 21) C dX4_readOperand_20 3 rfl rfl rfl ?_
    refine z_iconst (q := 22) C dX4_readOperand_21 rfl ?_
    obtain ⟨v24, h23, ev24, hF⟩ := z2_e hF
    refine z_callV (q := 25) (o := 1) (av := [.int (zi 4)]) (rest := [.ref (zα κ 4)]) (stk2 := [.int (zi v24), .ref (zα κ 4)]) C hR clX9 (zon C zo_1) kd_1 (M_fX9_number (zlv hd rfl) ev24) mY_X9_number q_502 (Nat.le_of_ble_eq_true rfl) dX4_readOperand_22 rfl rfl rfl ?_
    obtain ⟨h25, eh25, hF⟩ := zlet_e hF
    refine z_callV (q := 28) (o := 4) (av := [.int (zi v24)]) (rest := []) (stk2 := []) C hR clX4 (zon C zo_4) kd_4 (M_fX4_emit (zlv hd rfl) eh25.symm) mY_X4_emit q_503 (Nat.le_of_ble_eq_true rfl) dX4_readOperand_25 rfl rfl rfl ?_
    refine z_aload_n (q := 29) C dX4_readOperand_28 2 rfl rfl rfl ?_
    refine z_iconst (q := 30) C dX4_readOperand_29 rfl ?_
    obtain ⟨h26, eh26, hF⟩ := zlet_e hF
    refine z_putf (q := 33) C clX4 (zon C zo_4) kd_4 (k := 7) (x := 0) (by decide) q_91 rfl rfl (zbn (Or.inl rfl)) (zbf (Or.inl rfl)) (((zfv_i kd_4 rfl)).trans (by rw [if_pos rfl])) dX4_readOperand_30 rfl eh26 ?_
    refine z_goto (q := 127) C dX4_readOperand_33 (by decide) ?_
    exact z_sub (J_fX4_readOperand_c127 C hR hd e1 e2 _ hF) [3] rfl
set_option maxRecDepth 20000 in
set_option maxHeartbeats 4000000 in
theorem M_fX4_readOperand {l : Launch} {D : va_G} {cy : ClassId} {α : Nat → Nat} {n : Nat} {σ : zSg} {d : Nat} (hd : 8 ≤ d) {N : Nat} {h : zH} {r : Int} {g : zH} (hF : fX4_readOperand N h = some (r, g)) : zMet l yX4_readOperand cX4_readOperand 4 (some .boolean) (zrm d) D cy α n σ [.ref (α 4), .ref (α 1)] h (some (.int (zi r))) g := by
  obtain ⟨d, rfl⟩ : ∃ e, d = e + 1 := ⟨d - 1, by omega⟩
  refine z_met (by decide +kernel) (Nat.le_of_ble_eq_true rfl) (fun κ k1 k2 k3 k4 k5 k6 k7 k8 k9 C => ?_)
  subst k1 k3 k4 k5 k6 k7
  exact J_fX4_readOperand C k2 hd k8 k9 hF
set_option maxRecDepth 20000 in
set_option maxHeartbeats 4000000 in
theorem J_fX4_fits {κ : zT} (C : zC κ RX4 cX4_fits 2 (some .boolean)) {d : Nat} (hR : zR κ = zrm (d + 1)) (hd : 1 ≤ d + 1) {h : zH} {r : Int} (e1 : zrv κ = some (.int (zi r))) (e2 : zhf κ = h) {a1 : Int} (hF : fX4_fits a1 h = r) : Z κ h 0 [(0, .ref (zα κ 4)), (1, .int (zi a1))] [] := by
  unfold fX4_fits at hF
  refine z_iload_n (q := 1) C dX4_fits_0 1 rfl rfl rfl ?_
  by_cases c1 : zw a1 = (-1)
  · have hF := (if_pos c1).symm.trans hF
    refine z_lookup (off := 250) (tgt := 251) C dX4_fits_1 (by decide) (by rw [c1]; decide) (by decide) ?_
    refine z_aload_n (q := 252) C dX4_fits_251 0 rfl rfl rfl ?_
    refine z_getf (q := 255) C clX4 (zon C zo_4) kd_4 (k := 6) (by decide) q_90 rfl (zfv_i kd_4 rfl) dX4_fits_252 rfl ?_
    refine z_if_ne (tgt := 276) (q := 258) C dX4_fits_255 (by decide) rfl (fun c2 => ?_) (fun c2 => ?_)
    · have hF := (if_neg c2).symm.trans hF
      refine z_iconst (q := 277) C dX4_fits_276 rfl ?_
      subst hF
      exact z_zret C (zb01 (Or.inl rfl)) e1 e2 dX4_fits_277
    · have hF := (if_pos c2).symm.trans hF
      refine z_aload_n (q := 259) C dX4_fits_258 0 rfl rfl rfl ?_
      refine z_getf (q := 262) C clX4 (zon C zo_4) kd_4 (k := 12) (by decide) q_96 rfl (zfv_i kd_4 rfl) dX4_fits_259 rfl ?_
      refine z_if_ne (tgt := 272) (q := 265) C dX4_fits_262 (by decide) rfl (fun c3 => ?_) (fun c3 => ?_)
      · have hF := (if_neg c3).symm.trans hF
        refine z_iconst (q := 273) C dX4_fits_272 rfl ?_
        refine z_goto (q := 277) C dX4_fits_273 (by decide) ?_
        subst hF
        exact z_zret C (zb01 (Or.inr rfl)) e1 e2 dX4_fits_277
      · have hF := (if_pos c3).symm.trans hF
        refine z_aload_n (q := 266) C dX4_fits_265 0 rfl rfl rfl ?_
        refine z_getf (q := 269) C clX4 (zon C zo_4) kd_4 (k := 11) (by decide) q_95 rfl (zfv_i kd_4 rfl) dX4_fits_266 rfl ?_
        refine z_if_ne (tgt := 276) (q := 272) C dX4_fits_269 (by decide) rfl (fun c4 => ?_) (fun c4 => ?_)
        · have hF := (if_neg c4).symm.trans hF
          refine z_iconst (q := 277) C dX4_fits_276 rfl ?_
          subst hF
          exact z_zret C (zb01 (Or.inl rfl)) e1 e2 dX4_fits_277
        · have hF := (if_pos c4).symm.trans hF
          refine z_iconst (q := 273) C dX4_fits_272 rfl ?_
          refine z_goto (q := 277) C dX4_fits_273 (by decide) ?_
          subst hF
          exact z_zret C (zb01 (Or.inr rfl)) e1 e2 dX4_fits_277
  · have hF := (if_neg c1).symm.trans hF
    by_cases c5 : zw a1 = 38
    · have hF := (if_pos c5).symm.trans hF
      refine z_lookup (off := 176) (tgt := 177) C dX4_fits_1 (by decide) (by rw [c5]; decide) (by decide) ?_
      refine z_aload_n (q := 178) C dX4_fits_177 0 rfl rfl rfl ?_
      refine z_getf (q := 181) C clX4 (zon C zo_4) kd_4 (k := 6) (by decide) q_90 rfl (zfv_i kd_4 rfl) dX4_fits_178 rfl ?_
      refine z_if_ne (tgt := 195) (q := 184) C dX4_fits_181 (by decide) rfl (fun c6 => ?_) (fun c6 => ?_)
      · have hF := (if_neg c6).symm.trans hF
        refine z_iconst (q := 196) C dX4_fits_195 rfl ?_
        subst hF
        exact z_zret C (zb01 (Or.inl rfl)) e1 e2 dX4_fits_196
      · have hF := (if_pos c6).symm.trans hF
        refine z_aload_n (q := 185) C dX4_fits_184 0 rfl rfl rfl ?_
        refine z_getf (q := 188) C clX4 (zon C zo_4) kd_4 (k := 9) (by decide) q_93 rfl (zfv_i kd_4 rfl) dX4_fits_185 rfl ?_
        refine z_if_eq (tgt := 195) (q := 191) C dX4_fits_188 (by decide) rfl (fun c7 => ?_) (fun c7 => ?_)
        · have hF := (if_pos c7).symm.trans hF
          refine z_iconst (q := 196) C dX4_fits_195 rfl ?_
          subst hF
          exact z_zret C (zb01 (Or.inl rfl)) e1 e2 dX4_fits_196
        · have hF := (if_neg c7).symm.trans hF
          refine z_iconst (q := 192) C dX4_fits_191 rfl ?_
          refine z_goto (q := 196) C dX4_fits_192 (by decide) ?_
          subst hF
          exact z_zret C (zb01 (Or.inr rfl)) e1 e2 dX4_fits_196
    · have hF := (if_neg c5).symm.trans hF
      by_cases c8 : zw a1 = 41
      · have hF := (if_pos c8).symm.trans hF
        refine z_lookup (off := 196) (tgt := 197) C dX4_fits_1 (by decide) (by rw [c8]; decide) (by decide) ?_
        refine z_aload_n (q := 198) C dX4_fits_197 0 rfl rfl rfl ?_
        refine z_getf (q := 201) C clX4 (zon C zo_4) kd_4 (k := 6) (by decide) q_90 rfl (zfv_i kd_4 rfl) dX4_fits_198 rfl ?_
        refine z_if_ne (tgt := 222) (q := 204) C dX4_fits_201 (by decide) rfl (fun c9 => ?_) (fun c9 => ?_)
        · have hF := (if_neg c9).symm.trans hF
          refine z_iconst (q := 223) C dX4_fits_222 rfl ?_
          subst hF
          exact z_zret C (zb01 (Or.inl rfl)) e1 e2 dX4_fits_223
        · have hF := (if_pos c9).symm.trans hF
          refine z_aload_n (q := 205) C dX4_fits_204 0 rfl rfl rfl ?_
          refine z_getf (q := 208) C clX4 (zon C zo_4) kd_4 (k := 9) (by decide) q_93 rfl (zfv_i kd_4 rfl) dX4_fits_205 rfl ?_
          refine z_if_eq (tgt := 222) (q := 211) C dX4_fits_208 (by decide) rfl (fun c10 => ?_) (fun c10 => ?_)
          · have hF := (if_pos c10).symm.trans hF
            refine z_iconst (q := 223) C dX4_fits_222 rfl ?_
            subst hF
            exact z_zret C (zb01 (Or.inl rfl)) e1 e2 dX4_fits_223
          · have hF := (if_neg c10).symm.trans hF
            refine z_aload_n (q := 212) C dX4_fits_211 0 rfl rfl rfl ?_
            refine z_getf (q := 215) C clX4 (zon C zo_4) kd_4 (k := 5) (by decide) q_89 rfl (zfv_i kd_4 rfl) dX4_fits_212 rfl ?_
            refine z_if_le (tgt := 222) (q := 218) C dX4_fits_215 (by decide) rfl (fun c11 => ?_) (fun c11 => ?_)
            · have hF := (if_pos c11).symm.trans hF
              refine z_iconst (q := 223) C dX4_fits_222 rfl ?_
              subst hF
              exact z_zret C (zb01 (Or.inl rfl)) e1 e2 dX4_fits_223
            · have hF := (if_neg c11).symm.trans hF
              refine z_iconst (q := 219) C dX4_fits_218 rfl ?_
              refine z_goto (q := 223) C dX4_fits_219 (by decide) ?_
              subst hF
              exact z_zret C (zb01 (Or.inr rfl)) e1 e2 dX4_fits_223
      · have hF := (if_neg c8).symm.trans hF
        by_cases c12 : zw a1 = 42
        · have hF := (if_pos c12).symm.trans hF
          refine z_lookup (off := 123) (tgt := 124) C dX4_fits_1 (by decide) (by rw [c12]; decide) (by decide) ?_
          refine z_aload_n (q := 125) C dX4_fits_124 0 rfl rfl rfl ?_
          refine z_getf (q := 128) C clX4 (zon C zo_4) kd_4 (k := 10) (by decide) q_94 rfl (zfv_i kd_4 rfl) dX4_fits_125 rfl ?_
          refine z_if_ne (tgt := 135) (q := 131) C dX4_fits_128 (by decide) rfl (fun c13 => ?_) (fun c13 => ?_)
          · have hF := (if_neg c13).symm.trans hF
            refine z_iconst (q := 136) C dX4_fits_135 rfl ?_
            subst hF
            exact z_zret C (zb01 (Or.inl rfl)) e1 e2 dX4_fits_136
          · have hF := (if_pos c13).symm.trans hF
            refine z_iconst (q := 132) C dX4_fits_131 rfl ?_
            refine z_goto (q := 136) C dX4_fits_132 (by decide) ?_
            subst hF
            exact z_zret C (zb01 (Or.inr rfl)) e1 e2 dX4_fits_136
        · have hF := (if_neg c12).symm.trans hF
          by_cases c14 : zw a1 = 43
          · have hF := (if_pos c14).symm.trans hF
            refine z_lookup (off := 123) (tgt := 124) C dX4_fits_1 (by decide) (by rw [c14]; decide) (by decide) ?_
            refine z_aload_n (q := 125) C dX4_fits_124 0 rfl rfl rfl ?_
            refine z_getf (q := 128) C clX4 (zon C zo_4) kd_4 (k := 10) (by decide) q_94 rfl (zfv_i kd_4 rfl) dX4_fits_125 rfl ?_
            refine z_if_ne (tgt := 135) (q := 131) C dX4_fits_128 (by decide) rfl (fun c15 => ?_) (fun c15 => ?_)
            · have hF := (if_neg c15).symm.trans hF
              refine z_iconst (q := 136) C dX4_fits_135 rfl ?_
              subst hF
              exact z_zret C (zb01 (Or.inl rfl)) e1 e2 dX4_fits_136
            · have hF := (if_pos c15).symm.trans hF
              refine z_iconst (q := 132) C dX4_fits_131 rfl ?_
              refine z_goto (q := 136) C dX4_fits_132 (by decide) ?_
              subst hF
              exact z_zret C (zb01 (Or.inr rfl)) e1 e2 dX4_fits_136
          · have hF := (if_neg c14).symm.trans hF
            by_cases c16 : zw a1 = 45
            · have hF := (if_pos c16).symm.trans hF
              refine z_lookup (off := 123) (tgt := 124) C dX4_fits_1 (by decide) (by rw [c16]; decide) (by decide) ?_
              refine z_aload_n (q := 125) C dX4_fits_124 0 rfl rfl rfl ?_
              refine z_getf (q := 128) C clX4 (zon C zo_4) kd_4 (k := 10) (by decide) q_94 rfl (zfv_i kd_4 rfl) dX4_fits_125 rfl ?_
              refine z_if_ne (tgt := 135) (q := 131) C dX4_fits_128 (by decide) rfl (fun c17 => ?_) (fun c17 => ?_)
              · have hF := (if_neg c17).symm.trans hF
                refine z_iconst (q := 136) C dX4_fits_135 rfl ?_
                subst hF
                exact z_zret C (zb01 (Or.inl rfl)) e1 e2 dX4_fits_136
              · have hF := (if_pos c17).symm.trans hF
                refine z_iconst (q := 132) C dX4_fits_131 rfl ?_
                refine z_goto (q := 136) C dX4_fits_132 (by decide) ?_
                subst hF
                exact z_zret C (zb01 (Or.inr rfl)) e1 e2 dX4_fits_136
            · have hF := (if_neg c16).symm.trans hF
              by_cases c18 : zw a1 = 47
              · have hF := (if_pos c18).symm.trans hF
                refine z_lookup (off := 123) (tgt := 124) C dX4_fits_1 (by decide) (by rw [c18]; decide) (by decide) ?_
                refine z_aload_n (q := 125) C dX4_fits_124 0 rfl rfl rfl ?_
                refine z_getf (q := 128) C clX4 (zon C zo_4) kd_4 (k := 10) (by decide) q_94 rfl (zfv_i kd_4 rfl) dX4_fits_125 rfl ?_
                refine z_if_ne (tgt := 135) (q := 131) C dX4_fits_128 (by decide) rfl (fun c19 => ?_) (fun c19 => ?_)
                · have hF := (if_neg c19).symm.trans hF
                  refine z_iconst (q := 136) C dX4_fits_135 rfl ?_
                  subst hF
                  exact z_zret C (zb01 (Or.inl rfl)) e1 e2 dX4_fits_136
                · have hF := (if_pos c19).symm.trans hF
                  refine z_iconst (q := 132) C dX4_fits_131 rfl ?_
                  refine z_goto (q := 136) C dX4_fits_132 (by decide) ?_
                  subst hF
                  exact z_zret C (zb01 (Or.inr rfl)) e1 e2 dX4_fits_136
              · have hF := (if_neg c18).symm.trans hF
                by_cases c20 : zw a1 = 59
                · have hF := (if_pos c20).symm.trans hF
                  refine z_lookup (off := 250) (tgt := 251) C dX4_fits_1 (by decide) (by rw [c20]; decide) (by decide) ?_
                  refine z_aload_n (q := 252) C dX4_fits_251 0 rfl rfl rfl ?_
                  refine z_getf (q := 255) C clX4 (zon C zo_4) kd_4 (k := 6) (by decide) q_90 rfl (zfv_i kd_4 rfl) dX4_fits_252 rfl ?_
                  refine z_if_ne (tgt := 276) (q := 258) C dX4_fits_255 (by decide) rfl (fun c21 => ?_) (fun c21 => ?_)
                  · have hF := (if_neg c21).symm.trans hF
                    refine z_iconst (q := 277) C dX4_fits_276 rfl ?_
                    subst hF
                    exact z_zret C (zb01 (Or.inl rfl)) e1 e2 dX4_fits_277
                  · have hF := (if_pos c21).symm.trans hF
                    refine z_aload_n (q := 259) C dX4_fits_258 0 rfl rfl rfl ?_
                    refine z_getf (q := 262) C clX4 (zon C zo_4) kd_4 (k := 12) (by decide) q_96 rfl (zfv_i kd_4 rfl) dX4_fits_259 rfl ?_
                    refine z_if_ne (tgt := 272) (q := 265) C dX4_fits_262 (by decide) rfl (fun c22 => ?_) (fun c22 => ?_)
                    · have hF := (if_neg c22).symm.trans hF
                      refine z_iconst (q := 273) C dX4_fits_272 rfl ?_
                      refine z_goto (q := 277) C dX4_fits_273 (by decide) ?_
                      subst hF
                      exact z_zret C (zb01 (Or.inr rfl)) e1 e2 dX4_fits_277
                    · have hF := (if_pos c22).symm.trans hF
                      refine z_aload_n (q := 266) C dX4_fits_265 0 rfl rfl rfl ?_
                      refine z_getf (q := 269) C clX4 (zon C zo_4) kd_4 (k := 11) (by decide) q_95 rfl (zfv_i kd_4 rfl) dX4_fits_266 rfl ?_
                      refine z_if_ne (tgt := 276) (q := 272) C dX4_fits_269 (by decide) rfl (fun c23 => ?_) (fun c23 => ?_)
                      · have hF := (if_neg c23).symm.trans hF
                        refine z_iconst (q := 277) C dX4_fits_276 rfl ?_
                        subst hF
                        exact z_zret C (zb01 (Or.inl rfl)) e1 e2 dX4_fits_277
                      · have hF := (if_pos c23).symm.trans hF
                        refine z_iconst (q := 273) C dX4_fits_272 rfl ?_
                        refine z_goto (q := 277) C dX4_fits_273 (by decide) ?_
                        subst hF
                        exact z_zret C (zb01 (Or.inr rfl)) e1 e2 dX4_fits_277
                · have hF := (if_neg c20).symm.trans hF
                  by_cases c24 : zw a1 = 60
                  · have hF := (if_pos c24).symm.trans hF
                    refine z_lookup (off := 149) (tgt := 150) C dX4_fits_1 (by decide) (by rw [c24]; decide) (by decide) ?_
                    refine z_aload_n (q := 151) C dX4_fits_150 0 rfl rfl rfl ?_
                    refine z_getf (q := 154) C clX4 (zon C zo_4) kd_4 (k := 6) (by decide) q_90 rfl (zfv_i kd_4 rfl) dX4_fits_151 rfl ?_
                    refine z_if_ne (tgt := 175) (q := 157) C dX4_fits_154 (by decide) rfl (fun c25 => ?_) (fun c25 => ?_)
                    · have hF := (if_neg c25).symm.trans hF
                      refine z_iconst (q := 176) C dX4_fits_175 rfl ?_
                      subst hF
                      exact z_zret C (zb01 (Or.inl rfl)) e1 e2 dX4_fits_176
                    · have hF := (if_pos c25).symm.trans hF
                      refine z_aload_n (q := 158) C dX4_fits_157 0 rfl rfl rfl ?_
                      refine z_getf (q := 161) C clX4 (zon C zo_4) kd_4 (k := 12) (by decide) q_96 rfl (zfv_i kd_4 rfl) dX4_fits_158 rfl ?_
                      refine z_if_ne (tgt := 175) (q := 164) C dX4_fits_161 (by decide) rfl (fun c26 => ?_) (fun c26 => ?_)
                      · have hF := (if_neg c26).symm.trans hF
                        refine z_iconst (q := 176) C dX4_fits_175 rfl ?_
                        subst hF
                        exact z_zret C (zb01 (Or.inl rfl)) e1 e2 dX4_fits_176
                      · have hF := (if_pos c26).symm.trans hF
                        refine z_aload_n (q := 165) C dX4_fits_164 0 rfl rfl rfl ?_
                        refine z_getf (q := 168) C clX4 (zon C zo_4) kd_4 (k := 9) (by decide) q_93 rfl (zfv_i kd_4 rfl) dX4_fits_165 rfl ?_
                        refine z_if_ne (tgt := 175) (q := 171) C dX4_fits_168 (by decide) rfl (fun c27 => ?_) (fun c27 => ?_)
                        · have hF := (if_neg c27).symm.trans hF
                          refine z_iconst (q := 176) C dX4_fits_175 rfl ?_
                          subst hF
                          exact z_zret C (zb01 (Or.inl rfl)) e1 e2 dX4_fits_176
                        · have hF := (if_pos c27).symm.trans hF
                          refine z_iconst (q := 172) C dX4_fits_171 rfl ?_
                          refine z_goto (q := 176) C dX4_fits_172 (by decide) ?_
                          subst hF
                          exact z_zret C (zb01 (Or.inr rfl)) e1 e2 dX4_fits_176
                  · have hF := (if_neg c24).symm.trans hF
                    by_cases c28 : zw a1 = 61
                    · have hF := (if_pos c28).symm.trans hF
                      refine z_lookup (off := 149) (tgt := 150) C dX4_fits_1 (by decide) (by rw [c28]; decide) (by decide) ?_
                      refine z_aload_n (q := 151) C dX4_fits_150 0 rfl rfl rfl ?_
                      refine z_getf (q := 154) C clX4 (zon C zo_4) kd_4 (k := 6) (by decide) q_90 rfl (zfv_i kd_4 rfl) dX4_fits_151 rfl ?_
                      refine z_if_ne (tgt := 175) (q := 157) C dX4_fits_154 (by decide) rfl (fun c29 => ?_) (fun c29 => ?_)
                      · have hF := (if_neg c29).symm.trans hF
                        refine z_iconst (q := 176) C dX4_fits_175 rfl ?_
                        subst hF
                        exact z_zret C (zb01 (Or.inl rfl)) e1 e2 dX4_fits_176
                      · have hF := (if_pos c29).symm.trans hF
                        refine z_aload_n (q := 158) C dX4_fits_157 0 rfl rfl rfl ?_
                        refine z_getf (q := 161) C clX4 (zon C zo_4) kd_4 (k := 12) (by decide) q_96 rfl (zfv_i kd_4 rfl) dX4_fits_158 rfl ?_
                        refine z_if_ne (tgt := 175) (q := 164) C dX4_fits_161 (by decide) rfl (fun c30 => ?_) (fun c30 => ?_)
                        · have hF := (if_neg c30).symm.trans hF
                          refine z_iconst (q := 176) C dX4_fits_175 rfl ?_
                          subst hF
                          exact z_zret C (zb01 (Or.inl rfl)) e1 e2 dX4_fits_176
                        · have hF := (if_pos c30).symm.trans hF
                          refine z_aload_n (q := 165) C dX4_fits_164 0 rfl rfl rfl ?_
                          refine z_getf (q := 168) C clX4 (zon C zo_4) kd_4 (k := 9) (by decide) q_93 rfl (zfv_i kd_4 rfl) dX4_fits_165 rfl ?_
                          refine z_if_ne (tgt := 175) (q := 171) C dX4_fits_168 (by decide) rfl (fun c31 => ?_) (fun c31 => ?_)
                          · have hF := (if_neg c31).symm.trans hF
                            refine z_iconst (q := 176) C dX4_fits_175 rfl ?_
                            subst hF
                            exact z_zret C (zb01 (Or.inl rfl)) e1 e2 dX4_fits_176
                          · have hF := (if_pos c31).symm.trans hF
                            refine z_iconst (q := 172) C dX4_fits_171 rfl ?_
                            refine z_goto (q := 176) C dX4_fits_172 (by decide) ?_
                            subst hF
                            exact z_zret C (zb01 (Or.inr rfl)) e1 e2 dX4_fits_176
                    · have hF := (if_neg c28).symm.trans hF
                      by_cases c32 : zw a1 = 62
                      · have hF := (if_pos c32).symm.trans hF
                        refine z_lookup (off := 149) (tgt := 150) C dX4_fits_1 (by decide) (by rw [c32]; decide) (by decide) ?_
                        refine z_aload_n (q := 151) C dX4_fits_150 0 rfl rfl rfl ?_
                        refine z_getf (q := 154) C clX4 (zon C zo_4) kd_4 (k := 6) (by decide) q_90 rfl (zfv_i kd_4 rfl) dX4_fits_151 rfl ?_
                        refine z_if_ne (tgt := 175) (q := 157) C dX4_fits_154 (by decide) rfl (fun c33 => ?_) (fun c33 => ?_)
                        · have hF := (if_neg c33).symm.trans hF
                          refine z_iconst (q := 176) C dX4_fits_175 rfl ?_
                          subst hF
                          exact z_zret C (zb01 (Or.inl rfl)) e1 e2 dX4_fits_176
                        · have hF := (if_pos c33).symm.trans hF
                          refine z_aload_n (q := 158) C dX4_fits_157 0 rfl rfl rfl ?_
                          refine z_getf (q := 161) C clX4 (zon C zo_4) kd_4 (k := 12) (by decide) q_96 rfl (zfv_i kd_4 rfl) dX4_fits_158 rfl ?_
                          refine z_if_ne (tgt := 175) (q := 164) C dX4_fits_161 (by decide) rfl (fun c34 => ?_) (fun c34 => ?_)
                          · have hF := (if_neg c34).symm.trans hF
                            refine z_iconst (q := 176) C dX4_fits_175 rfl ?_
                            subst hF
                            exact z_zret C (zb01 (Or.inl rfl)) e1 e2 dX4_fits_176
                          · have hF := (if_pos c34).symm.trans hF
                            refine z_aload_n (q := 165) C dX4_fits_164 0 rfl rfl rfl ?_
                            refine z_getf (q := 168) C clX4 (zon C zo_4) kd_4 (k := 9) (by decide) q_93 rfl (zfv_i kd_4 rfl) dX4_fits_165 rfl ?_
                            refine z_if_ne (tgt := 175) (q := 171) C dX4_fits_168 (by decide) rfl (fun c35 => ?_) (fun c35 => ?_)
                            · have hF := (if_neg c35).symm.trans hF
                              refine z_iconst (q := 176) C dX4_fits_175 rfl ?_
                              subst hF
                              exact z_zret C (zb01 (Or.inl rfl)) e1 e2 dX4_fits_176
                            · have hF := (if_pos c35).symm.trans hF
                              refine z_iconst (q := 172) C dX4_fits_171 rfl ?_
                              refine z_goto (q := 176) C dX4_fits_172 (by decide) ?_
                              subst hF
                              exact z_zret C (zb01 (Or.inr rfl)) e1 e2 dX4_fits_176
                      · have hF := (if_neg c32).symm.trans hF
                        by_cases c36 : zw a1 = 63
                        · have hF := (if_pos c36).symm.trans hF
                          refine z_lookup (off := 223) (tgt := 224) C dX4_fits_1 (by decide) (by rw [c36]; decide) (by decide) ?_
                          refine z_aload_n (q := 225) C dX4_fits_224 0 rfl rfl rfl ?_
                          refine z_getf (q := 228) C clX4 (zon C zo_4) kd_4 (k := 6) (by decide) q_90 rfl (zfv_i kd_4 rfl) dX4_fits_225 rfl ?_
                          refine z_if_ne (tgt := 249) (q := 231) C dX4_fits_228 (by decide) rfl (fun c37 => ?_) (fun c37 => ?_)
                          · have hF := (if_neg c37).symm.trans hF
                            refine z_iconst (q := 250) C dX4_fits_249 rfl ?_
                            subst hF
                            exact z_zret C (zb01 (Or.inl rfl)) e1 e2 dX4_fits_250
                          · have hF := (if_pos c37).symm.trans hF
                            refine z_aload_n (q := 232) C dX4_fits_231 0 rfl rfl rfl ?_
                            refine z_getf (q := 235) C clX4 (zon C zo_4) kd_4 (k := 9) (by decide) q_93 rfl (zfv_i kd_4 rfl) dX4_fits_232 rfl ?_
                            refine z_if_eq (tgt := 249) (q := 238) C dX4_fits_235 (by decide) rfl (fun c38 => ?_) (fun c38 => ?_)
                            · have hF := (if_pos c38).symm.trans hF
                              refine z_iconst (q := 250) C dX4_fits_249 rfl ?_
                              subst hF
                              exact z_zret C (zb01 (Or.inl rfl)) e1 e2 dX4_fits_250
                            · have hF := (if_neg c38).symm.trans hF
                              refine z_aload_n (q := 239) C dX4_fits_238 0 rfl rfl rfl ?_
                              refine z_getf (q := 242) C clX4 (zon C zo_4) kd_4 (k := 5) (by decide) q_89 rfl (zfv_i kd_4 rfl) dX4_fits_239 rfl ?_
                              refine z_if_ne (tgt := 249) (q := 245) C dX4_fits_242 (by decide) rfl (fun c39 => ?_) (fun c39 => ?_)
                              · have hF := (if_neg c39).symm.trans hF
                                refine z_iconst (q := 250) C dX4_fits_249 rfl ?_
                                subst hF
                                exact z_zret C (zb01 (Or.inl rfl)) e1 e2 dX4_fits_250
                              · have hF := (if_pos c39).symm.trans hF
                                refine z_iconst (q := 246) C dX4_fits_245 rfl ?_
                                refine z_goto (q := 250) C dX4_fits_246 (by decide) ?_
                                subst hF
                                exact z_zret C (zb01 (Or.inr rfl)) e1 e2 dX4_fits_250
                        · have hF := (if_neg c36).symm.trans hF
                          by_cases c40 : zw a1 = 93
                          · have hF := (if_pos c40).symm.trans hF
                            refine z_lookup (off := 136) (tgt := 137) C dX4_fits_1 (by decide) (by rw [c40]; decide) (by decide) ?_
                            refine z_aload_n (q := 138) C dX4_fits_137 0 rfl rfl rfl ?_
                            refine z_getf (q := 141) C clX4 (zon C zo_4) kd_4 (k := 6) (by decide) q_90 rfl (zfv_i kd_4 rfl) dX4_fits_138 rfl ?_
                            refine z_if_le (tgt := 148) (q := 144) C dX4_fits_141 (by decide) rfl (fun c41 => ?_) (fun c41 => ?_)
                            · have hF := (if_pos c41).symm.trans hF
                              refine z_iconst (q := 149) C dX4_fits_148 rfl ?_
                              subst hF
                              exact z_zret C (zb01 (Or.inl rfl)) e1 e2 dX4_fits_149
                            · have hF := (if_neg c41).symm.trans hF
                              refine z_iconst (q := 145) C dX4_fits_144 rfl ?_
                              refine z_goto (q := 149) C dX4_fits_145 (by decide) ?_
                              subst hF
                              exact z_zret C (zb01 (Or.inr rfl)) e1 e2 dX4_fits_149
                          · have hF := (if_neg c40).symm.trans hF
                            by_cases c42 : zw a1 = 124
                            · have hF := (if_pos c42).symm.trans hF
                              refine z_lookup (off := 176) (tgt := 177) C dX4_fits_1 (by decide) (by rw [c42]; decide) (by decide) ?_
                              refine z_aload_n (q := 178) C dX4_fits_177 0 rfl rfl rfl ?_
                              refine z_getf (q := 181) C clX4 (zon C zo_4) kd_4 (k := 6) (by decide) q_90 rfl (zfv_i kd_4 rfl) dX4_fits_178 rfl ?_
                              refine z_if_ne (tgt := 195) (q := 184) C dX4_fits_181 (by decide) rfl (fun c43 => ?_) (fun c43 => ?_)
                              · have hF := (if_neg c43).symm.trans hF
                                refine z_iconst (q := 196) C dX4_fits_195 rfl ?_
                                subst hF
                                exact z_zret C (zb01 (Or.inl rfl)) e1 e2 dX4_fits_196
                              · have hF := (if_pos c43).symm.trans hF
                                refine z_aload_n (q := 185) C dX4_fits_184 0 rfl rfl rfl ?_
                                refine z_getf (q := 188) C clX4 (zon C zo_4) kd_4 (k := 9) (by decide) q_93 rfl (zfv_i kd_4 rfl) dX4_fits_185 rfl ?_
                                refine z_if_eq (tgt := 195) (q := 191) C dX4_fits_188 (by decide) rfl (fun c44 => ?_) (fun c44 => ?_)
                                · have hF := (if_pos c44).symm.trans hF
                                  refine z_iconst (q := 196) C dX4_fits_195 rfl ?_
                                  subst hF
                                  exact z_zret C (zb01 (Or.inl rfl)) e1 e2 dX4_fits_196
                                · have hF := (if_neg c44).symm.trans hF
                                  refine z_iconst (q := 192) C dX4_fits_191 rfl ?_
                                  refine z_goto (q := 196) C dX4_fits_192 (by decide) ?_
                                  subst hF
                                  exact z_zret C (zb01 (Or.inr rfl)) e1 e2 dX4_fits_196
                            · have hF := (if_neg c42).symm.trans hF
                              refine z_lookup (off := 277) (tgt := 278) C dX4_fits_1 (by decide) (by show Op.lookupswitch.offset [(-1, 250), (38, 176), (41, 196), (42, 123), (43, 123), (45, 123), (47, 123), (59, 250), (60, 149), (61, 149), (62, 149), (63, 223), (93, 136), (124, 176)] _ _ = _; rw [z_osw c1, z_osw c5, z_osw c8, z_osw c12, z_osw c14, z_osw c16, z_osw c18, z_osw c20, z_osw c24, z_osw c28, z_osw c32, z_osw c36, z_osw c40, z_osw c42]; rfl) (by decide) ?_
                              refine z_iconst (q := 279) C dX4_fits_278 rfl ?_
                              subst hF
                              exact z_zret C (zb01 (Or.inl rfl)) e1 e2 dX4_fits_279
set_option maxRecDepth 20000 in
set_option maxHeartbeats 4000000 in
theorem M_fX4_fits {l : Launch} {D : va_G} {cy : ClassId} {α : Nat → Nat} {n : Nat} {σ : zSg} {d : Nat} (hd : 1 ≤ d) {a1 : Int} {h : zH} {r : Int} (hF : fX4_fits a1 h = r) : zMet l yX4_fits cX4_fits 2 (some .boolean) (zrm d) D cy α n σ [.ref (α 4), .int (zi a1)] h (some (.int (zi r))) h := by
  obtain ⟨d, rfl⟩ : ∃ e, d = e + 1 := ⟨d - 1, by omega⟩
  refine z_met (by decide +kernel) (Nat.le_of_ble_eq_true rfl) (fun κ k1 k2 k3 k4 k5 k6 k7 k8 k9 C => ?_)
  subst k1 k3 k4 k5 k6 k7
  exact J_fX4_fits C k2 hd k8 k9 hF
theorem B_fX4_fits {a1 : Int} {h : zH} : fX4_fits a1 h = 0 ∨ fX4_fits a1 h = 1 := by
  unfold fX4_fits
  try simp only [zlet, zlet2]
  repeat' (first | exact Or.inl rfl | exact Or.inr rfl | apply zite01)
set_option maxRecDepth 20000 in
set_option maxHeartbeats 4000000 in
theorem J_fX4_rank {κ : zT} (C : zC κ RX4 cX4_rank 1 (some .int)) {d : Nat} (hR : zR κ = zrm (d + 1)) (hd : 1 ≤ d + 1) {h : zH} {r : Int} (e1 : zrv κ = some (.int (zi r))) (e2 : zhf κ = h) {a0 : Int} (hF : fX4_rank a0 = r) : Z κ h 0 [(0, .int (zi a0))] [] := by
  unfold fX4_rank at hF
  refine z_iload_n (q := 1) C dX4_rank_0 0 rfl rfl rfl ?_
  by_cases c1 : zw a0 = 33
  · have hF := (if_pos c1).symm.trans hF
    refine z_lookup (off := 95) (tgt := 96) C dX4_rank_1 (by decide) (by rw [c1]; decide) (by decide) ?_
    refine z_iconst (q := 97) C dX4_rank_96 rfl ?_
    subst hF
    exact z_iret C e1 e2 dX4_rank_97
  · have hF := (if_neg c1).symm.trans hF
    by_cases c2 : zw a0 = 38
    · have hF := (if_pos c2).symm.trans hF
      refine z_lookup (off := 93) (tgt := 94) C dX4_rank_1 (by decide) (by rw [c2]; decide) (by decide) ?_
      refine z_iconst (q := 95) C dX4_rank_94 rfl ?_
      subst hF
      exact z_iret C e1 e2 dX4_rank_95
    · have hF := (if_neg c2).symm.trans hF
      by_cases c3 : zw a0 = 42
      · have hF := (if_pos c3).symm.trans hF
        refine z_lookup (off := 101) (tgt := 102) C dX4_rank_1 (by decide) (by rw [c3]; decide) (by decide) ?_
        refine z_bipush (q := 104) C dX4_rank_102 bp_6 rfl ?_
        subst hF
        exact z_iret C e1 e2 dX4_rank_104
      · have hF := (if_neg c3).symm.trans hF
        by_cases c4 : zw a0 = 43
        · have hF := (if_pos c4).symm.trans hF
          refine z_lookup (off := 99) (tgt := 100) C dX4_rank_1 (by decide) (by rw [c4]; decide) (by decide) ?_
          refine z_iconst (q := 101) C dX4_rank_100 rfl ?_
          subst hF
          exact z_iret C e1 e2 dX4_rank_101
        · have hF := (if_neg c4).symm.trans hF
          by_cases c5 : zw a0 = 45
          · have hF := (if_pos c5).symm.trans hF
            refine z_lookup (off := 99) (tgt := 100) C dX4_rank_1 (by decide) (by rw [c5]; decide) (by decide) ?_
            refine z_iconst (q := 101) C dX4_rank_100 rfl ?_
            subst hF
            exact z_iret C e1 e2 dX4_rank_101
          · have hF := (if_neg c5).symm.trans hF
            by_cases c6 : zw a0 = 47
            · have hF := (if_pos c6).symm.trans hF
              refine z_lookup (off := 101) (tgt := 102) C dX4_rank_1 (by decide) (by rw [c6]; decide) (by decide) ?_
              refine z_bipush (q := 104) C dX4_rank_102 bp_6 rfl ?_
              subst hF
              exact z_iret C e1 e2 dX4_rank_104
            · have hF := (if_neg c6).symm.trans hF
              by_cases c7 : zw a0 = 60
              · have hF := (if_pos c7).symm.trans hF
                refine z_lookup (off := 97) (tgt := 98) C dX4_rank_1 (by decide) (by rw [c7]; decide) (by decide) ?_
                refine z_iconst (q := 99) C dX4_rank_98 rfl ?_
                subst hF
                exact z_iret C e1 e2 dX4_rank_99
              · have hF := (if_neg c7).symm.trans hF
                by_cases c8 : zw a0 = 61
                · have hF := (if_pos c8).symm.trans hF
                  refine z_lookup (off := 97) (tgt := 98) C dX4_rank_1 (by decide) (by rw [c8]; decide) (by decide) ?_
                  refine z_iconst (q := 99) C dX4_rank_98 rfl ?_
                  subst hF
                  exact z_iret C e1 e2 dX4_rank_99
                · have hF := (if_neg c8).symm.trans hF
                  by_cases c9 : zw a0 = 62
                  · have hF := (if_pos c9).symm.trans hF
                    refine z_lookup (off := 97) (tgt := 98) C dX4_rank_1 (by decide) (by rw [c9]; decide) (by decide) ?_
                    refine z_iconst (q := 99) C dX4_rank_98 rfl ?_
                    subst hF
                    exact z_iret C e1 e2 dX4_rank_99
                  · have hF := (if_neg c9).symm.trans hF
                    by_cases c10 : zw a0 = 124
                    · have hF := (if_pos c10).symm.trans hF
                      refine z_lookup (off := 91) (tgt := 92) C dX4_rank_1 (by decide) (by rw [c10]; decide) (by decide) ?_
                      refine z_iconst (q := 93) C dX4_rank_92 rfl ?_
                      subst hF
                      exact z_iret C e1 e2 dX4_rank_93
                    · have hF := (if_neg c10).symm.trans hF
                      refine z_lookup (off := 104) (tgt := 105) C dX4_rank_1 (by decide) (by show Op.lookupswitch.offset [(33, 95), (38, 93), (42, 101), (43, 99), (45, 99), (47, 101), (60, 97), (61, 97), (62, 97), (124, 91)] _ _ = _; rw [z_osw c1, z_osw c2, z_osw c3, z_osw c4, z_osw c5, z_osw c6, z_osw c7, z_osw c8, z_osw c9, z_osw c10]; rfl) (by decide) ?_
                      refine z_iconst (q := 106) C dX4_rank_105 rfl ?_
                      subst hF
                      exact z_iret C e1 e2 dX4_rank_106
set_option maxRecDepth 20000 in
set_option maxHeartbeats 4000000 in
theorem M_fX4_rank {l : Launch} {D : va_G} {cy : ClassId} {α : Nat → Nat} {n : Nat} {σ : zSg} {d : Nat} (hd : 1 ≤ d) {a0 : Int} {h : zH} {r : Int} (hF : fX4_rank a0 = r) : zMet l yX4_rank cX4_rank 1 (some .int) (zrm d) D cy α n σ [.int (zi a0)] h (some (.int (zi r))) h := by
  obtain ⟨d, rfl⟩ : ∃ e, d = e + 1 := ⟨d - 1, by omega⟩
  refine z_met (by decide +kernel) (Nat.le_of_ble_eq_true rfl) (fun κ k1 k2 k3 k4 k5 k6 k7 k8 k9 C => ?_)
  subst k1 k3 k4 k5 k6 k7
  exact J_fX4_rank C k2 hd k8 k9 hF
set_option maxRecDepth 20000 in
set_option maxHeartbeats 4000000 in
theorem J_fX4_reduce_c7b {κ : zT} (C : zC κ RX4 cX4_reduce 4 none) {d : Nat} (hR : zR κ = zrm (d + 1)) (hd : 3 ≤ d + 1) {N : Nat} {r : zH} (e1 : zrv κ = none) (e2 : zhf κ = r) {K7 : Int → Int → zH → Option zH} (hK7 : ∀ (l1 : Int) (l2 : Int) (h : zH), K7 l1 l2 h = some r → Z κ h 7 [(0, .ref (zα κ 4)), (1, .int (zi l1)), (2, .int (zi l2))] []) (l1 : Int) (l2 : Int) (h : zH) (hF : fX4_reduce_c7b N K7 l1 l2 h = some r) : Z κ h 7 [(0, .ref (zα κ 4)), (1, .int (zi l1)), (2, .int (zi l2))] [] := by
  unfold fX4_reduce_c7b at hF
  refine z_iload_n (q := 8) C dX4_reduce_7 2 rfl rfl rfl ?_
  refine z_if_lt (tgt := 72) (q := 11) C dX4_reduce_8 (by decide) rfl (fun c1 => ?_) (fun c1 => ?_)
  · have hF := (if_pos c1).symm.trans hF
    have hF := Option.some.inj hF
    subst hF
    exact z_vret C e1 e2 dX4_reduce_72
  · have hF := (if_neg c1).symm.trans hF
    refine z_aload_n (q := 12) C dX4_reduce_11 0 rfl rfl rfl ?_
    refine z_getf (q := 15) C clX4 (zon C zo_4) kd_4 (k := 2) (by decide) q_86 rfl (zfv_r kd_4 rfl fr_4_2) dX4_reduce_12 rfl ?_
    refine z_iload_n (q := 16) C dX4_reduce_15 2 rfl rfl rfl ?_
    refine z_callSN (q := 19) (av := [.ref (zα κ 23), .int (zi l2)]) (rest := []) (stk2 := [.int (zi (fX10_at 23 l2 h))]) C hR (M_fX10_at (zlv hd rfl) zo_23 kd_23 rfl) mY_X10_at q_535 (Nat.le_of_ble_eq_true rfl) dX4_reduce_16 rfl rfl rfl ?_
    refine z_callS (q := 22) (av := [.int (zi (fX10_at 23 l2 h))]) (rest := []) (stk2 := [.int (zi (fX4_rank (fX10_at 23 l2 h)))]) C hR (M_fX4_rank (zlv hd rfl) rfl) mY_X4_rank q_527 (Nat.le_of_ble_eq_true rfl) dX4_reduce_19 rfl rfl rfl ?_
    refine z_iload_n (q := 23) C dX4_reduce_22 1 rfl rfl rfl ?_
    refine z_icmp_lt (tgt := 72) (q := 26) C dX4_reduce_23 (by decide) rfl (fun c2 => ?_) (fun c2 => ?_)
    · have hF := (if_pos c2).symm.trans hF
      have hF := Option.some.inj hF
      subst hF
      exact z_vret C e1 e2 dX4_reduce_72
    · have hF := (if_neg c2).symm.trans hF
      refine z_aload_n (q := 27) C dX4_reduce_26 0 rfl rfl rfl ?_
      refine z_getf (q := 30) C clX4 (zon C zo_4) kd_4 (k := 2) (by decide) q_86 rfl (zfv_r kd_4 rfl fr_4_2) dX4_reduce_27 rfl ?_
      refine z_iload_n (q := 31) C dX4_reduce_30 2 rfl rfl rfl ?_
      refine z_callSN (q := 34) (av := [.ref (zα κ 23), .int (zi l2)]) (rest := []) (stk2 := [.int (zi (fX10_at 23 l2 h))]) C hR (M_fX10_at (zlv hd rfl) zo_23 kd_23 rfl) mY_X10_at q_535 (Nat.le_of_ble_eq_true rfl) dX4_reduce_31 rfl rfl rfl ?_
      obtain ⟨v3, ev3, hF⟩ := zlet_e hF
      refine z_istoreE_n (q := 35) C ev3 dX4_reduce_34 (by decide) rfl rfl rfl ?_
      refine z_aload_n (q := 36) C dX4_reduce_35 1 rfl rfl rfl ?_
      refine z_iload_n (q := 37) C dX4_reduce_36 0 rfl rfl rfl ?_
      refine z_ineg (q := 38) C dX4_reduce_37 rfl ?_
      obtain ⟨h4, eh4, hF⟩ := zlet_e hF
      refine z_callV (q := 41) (o := 4) (av := [.int (zi (-v3))]) (rest := []) (stk2 := []) C hR clX4 (zon C zo_4) kd_4 (M_fX4_emit (zlv hd rfl) eh4.symm) mY_X4_emit q_503 (Nat.le_of_ble_eq_true rfl) dX4_reduce_38 rfl rfl rfl ?_
      refine z_aload_n (q := 42) C dX4_reduce_41 1 rfl rfl rfl ?_
      refine z_dup (q := 43) C dX4_reduce_42 rfl rfl ?_
      refine z_getf (q := 46) C clX4 (zon C zo_4) kd_4 (k := 4) (by decide) q_88 rfl (zfv_i kd_4 rfl) dX4_reduce_43 rfl ?_
      refine z_iload_n (q := 47) C dX4_reduce_46 0 rfl rfl rfl ?_
      refine z_bipush (q := 49) C dX4_reduce_47 bp_33 rfl ?_
      refine z_icmp_ne (tgt := 56) (q := 52) C dX4_reduce_49 (by decide) rfl (fun c5 => ?_) (fun c5 => ?_)
      · have hF := (if_neg c5).symm.trans hF
        refine z_iconst (q := 57) C dX4_reduce_56 rfl ?_
        refine z_isub (q := 58) C dX4_reduce_57 rfl ?_
        obtain ⟨h8, eh8, hF⟩ := zlet_e hF
        refine z_putf (q := 61) C clX4 (zon C zo_4) kd_4 (k := 4) (x := (h4 4 4) - 0) (by decide) q_88 rfl rfl rfl rfl (((zfv_i kd_4 rfl)).trans (by rw [if_pos rfl])) dX4_reduce_58 rfl eh8 ?_
        refine z_aload_n (q := 62) C dX4_reduce_61 1 rfl rfl rfl ?_
        refine z_iload_n (q := 63) C dX4_reduce_62 3 rfl rfl rfl ?_
        obtain ⟨h9, eh9, hF⟩ := zlet_e hF
        refine z_putf (q := 66) C clX4 (zon C zo_4) kd_4 (k := 3) (x := l2) (by decide) q_87 rfl rfl rfl rfl (((zfv_i kd_4 rfl)).trans (by rw [if_pos rfl])) dX4_reduce_63 rfl eh9 ?_
        refine z_iinc (q := 69) (x := l2) C dX4_reduce_66 (j := 3) rfl (by decide) rfl rfl ?_
        refine z_goto (q := 7) C dX4_reduce_69 (by decide) ?_
        exact z_sub (hK7 _ _ _ hF) [2, 3, 0] rfl
      · have hF := (if_pos c5).symm.trans hF
        refine z_iconst (q := 53) C dX4_reduce_52 rfl ?_
        refine z_goto (q := 57) C dX4_reduce_53 (by decide) ?_
        refine z_isub (q := 58) C dX4_reduce_57 rfl ?_
        obtain ⟨h6, eh6, hF⟩ := zlet_e hF
        refine z_putf (q := 61) C clX4 (zon C zo_4) kd_4 (k := 4) (x := (h4 4 4) - 1) (by decide) q_88 rfl rfl rfl rfl (((zfv_i kd_4 rfl)).trans (by rw [if_pos rfl])) dX4_reduce_58 rfl eh6 ?_
        refine z_aload_n (q := 62) C dX4_reduce_61 1 rfl rfl rfl ?_
        refine z_iload_n (q := 63) C dX4_reduce_62 3 rfl rfl rfl ?_
        obtain ⟨h7, eh7, hF⟩ := zlet_e hF
        refine z_putf (q := 66) C clX4 (zon C zo_4) kd_4 (k := 3) (x := l2) (by decide) q_87 rfl rfl rfl rfl (((zfv_i kd_4 rfl)).trans (by rw [if_pos rfl])) dX4_reduce_63 rfl eh7 ?_
        refine z_iinc (q := 69) (x := l2) C dX4_reduce_66 (j := 3) rfl (by decide) rfl rfl ?_
        refine z_goto (q := 7) C dX4_reduce_69 (by decide) ?_
        exact z_sub (hK7 _ _ _ hF) [2, 3, 0] rfl
set_option maxRecDepth 20000 in
set_option maxHeartbeats 4000000 in
theorem J_fX4_reduce_c7 {κ : zT} (C : zC κ RX4 cX4_reduce 4 none) {d : Nat} (hR : zR κ = zrm (d + 1)) (hd : 3 ≤ d + 1) {N : Nat} {r : zH} (e1 : zrv κ = none) (e2 : zhf κ = r) : ∀ (k : Nat) (l1 : Int) (l2 : Int) (h : zH), fX4_reduce_c7 N k l1 l2 h = some r → Z κ h 7 [(0, .ref (zα κ 4)), (1, .int (zi l1)), (2, .int (zi l2))] [] := by
  intro k
  induction k with
  | zero => intro l1 l2 h hF; cases hF
  | succ k ih => intro l1 l2 h hF; exact J_fX4_reduce_c7b C hR hd e1 e2 ih l1 l2 h hF
set_option maxRecDepth 20000 in
set_option maxHeartbeats 4000000 in
theorem J_fX4_reduce {κ : zT} (C : zC κ RX4 cX4_reduce 4 none) {d : Nat} (hR : zR κ = zrm (d + 1)) (hd : 3 ≤ d + 1) {N : Nat} {r : zH} (e1 : zrv κ = none) (e2 : zhf κ = r) {a1 : Int} {h : zH} (hF : fX4_reduce N a1 h = some r) : Z κ h 0 [(0, .ref (zα κ 4)), (1, .int (zi a1))] [] := by
  unfold fX4_reduce at hF
  refine z_aload_n (q := 1) C dX4_reduce_0 0 rfl rfl rfl ?_
  refine z_getf (q := 4) C clX4 (zon C zo_4) kd_4 (k := 3) (by decide) q_87 rfl (zfv_i kd_4 rfl) dX4_reduce_1 rfl ?_
  refine z_iconst (q := 5) C dX4_reduce_4 rfl ?_
  refine z_isub (q := 6) C dX4_reduce_5 rfl ?_
  obtain ⟨v1, ev1, hF⟩ := zlet_e hF
  refine z_istoreE_n (q := 7) C ev1 dX4_reduce_6 (by decide) rfl rfl rfl ?_
  exact z_sub (J_fX4_reduce_c7 C hR hd e1 e2 N _ _ _ hF) [1, 2, 0] rfl
set_option maxRecDepth 20000 in
set_option maxHeartbeats 4000000 in
theorem M_fX4_reduce {l : Launch} {D : va_G} {cy : ClassId} {α : Nat → Nat} {n : Nat} {σ : zSg} {d : Nat} (hd : 3 ≤ d) {N : Nat} {a1 : Int} {h : zH} {g : zH} (hF : fX4_reduce N a1 h = some g) : zMet l yX4_reduce cX4_reduce 4 none (zrm d) D cy α n σ [.ref (α 4), .int (zi a1)] h (none) g := by
  obtain ⟨d, rfl⟩ : ∃ e, d = e + 1 := ⟨d - 1, by omega⟩
  refine z_met (by decide +kernel) (Nat.le_of_ble_eq_true rfl) (fun κ k1 k2 k3 k4 k5 k6 k7 k8 k9 C => ?_)
  subst k1 k3 k4 k5 k6 k7
  exact J_fX4_reduce C k2 hd k8 k9 hF
