set_option maxRecDepth 20000 in
set_option maxHeartbeats 4000000 in
theorem J_fX1_portion_c15b {κ : zT} (C : zC κ RX1 cX1_portion 8 (some .int)) {d : Nat} (hR : zR κ = zrm (d + 1)) (hd : 3 ≤ d + 1) {N : Nat} {o0 : Nat} (ho0 : o0 < zN) (hd0 : zkd o0 = 1) {o1 : Nat} (ho1 : o1 < zN) (hd1 : zkd o1 = 100) {h : zH} {r : Int} (e1 : zrv κ = some (.int (zi r))) (e2 : zhf κ = h) {K15 : Int → Int → Int → Int → Int → Option Int} (hK15 : ∀ (l2 : Int) (l3 : Int) (l4 : Int) (l5 : Int) (l6 : Int), K15 l2 l3 l4 l5 l6 = some r → Z κ h 15 [(0, .ref (zα κ o0)), (1, .ref (zα κ o1)), (2, .int (zi l2)), (3, .int (zi l3)), (4, .int (zi l4)), (5, .int (zi l5)), (6, .int (zi l6))] []) (l2 : Int) (l3 : Int) (l4 : Int) (l5 : Int) (l6 : Int) (hF : fX1_portion_c15b N o0 o1 h K15 l2 l3 l4 l5 l6 = some r) : Z κ h 15 [(0, .ref (zα κ o0)), (1, .ref (zα κ o1)), (2, .int (zi l2)), (3, .int (zi l3)), (4, .int (zi l4)), (5, .int (zi l5)), (6, .int (zi l6))] [] := by
  unfold fX1_portion_c15b at hF
  refine z_iload (q := 17) C dX1_portion_15 6 rfl rfl ?_
  refine z_aload_n (q := 18) C dX1_portion_17 0 rfl rfl rfl ?_
  refine z_iconst (q := 19) C dX1_portion_18 rfl ?_
  refine z_callV (q := 22) (o := o0) (av := [.int (zi 1)]) (rest := [.int (zi l6)]) (stk2 := [.int (zi (fX1_many o0 1 h)), .int (zi l6)]) C hR clX1 (zon C ho0) hd0 (M_fX1_many (zlv hd rfl) ho0 hd0 rfl) mY_X1_many q_427 (Nat.le_of_ble_eq_true rfl) dX1_portion_19 rfl rfl rfl ?_
  refine z_icmp_ge (tgt := 60) (q := 25) C dX1_portion_22 (by decide) rfl (fun c1 => ?_) (fun c1 => ?_)
  · have hF := (if_pos c1).symm.trans hF
    refine z_iload_n (q := 61) C dX1_portion_60 3 rfl rfl rfl ?_
    refine z_iconst (q := 62) C dX1_portion_61 rfl ?_
    refine z_icmp_eq (tgt := 71) (q := 65) C dX1_portion_62 (by decide) rfl (fun c2 => ?_) (fun c2 => ?_)
    · have hF := (if_pos c2).symm.trans hF
      refine z_iconst (q := 72) C dX1_portion_71 rfl ?_
      have hF := Option.some.inj hF
      subst hF
      exact z_iret C e1 e2 dX1_portion_72
    · have hF := (if_neg c2).symm.trans hF
      refine z_iload (q := 67) C dX1_portion_65 4 rfl rfl ?_
      refine z_iconst (q := 68) C dX1_portion_67 rfl ?_
      refine z_icmp_ge (tgt := 73) (q := 71) C dX1_portion_68 (by decide) rfl (fun c3 => ?_) (fun c3 => ?_)
      · have hF := (if_pos c3).symm.trans hF
        refine z_aload_n (q := 74) C dX1_portion_73 0 rfl rfl rfl ?_
        refine z_iconst (q := 75) C dX1_portion_74 rfl ?_
        refine z_iconst (q := 76) C dX1_portion_75 rfl ?_
        refine z_iconst (q := 77) C dX1_portion_76 rfl ?_
        refine z_callV (q := 80) (o := o0) (av := [.int (zi 0), .int (zi 0), .int (zi 1)]) (rest := []) (stk2 := [.int (zi (fX1_item o0 0 0 1 h))]) C hR clX1 (zon C ho0) hd0 (M_fX1_item (zlv hd rfl) ho0 hd0 rfl) mY_X1_item q_475 (Nat.le_of_ble_eq_true rfl) dX1_portion_77 rfl rfl rfl ?_
        obtain ⟨v4, ev4, hF⟩ := zlet_e hF
        refine z_istoreE (q := 82) C ev4 dX1_portion_80 (by decide) rfl rfl ?_
        refine z_iload (q := 84) C dX1_portion_82 0 rfl rfl ?_
        refine z_iload (q := 86) C dX1_portion_84 5 rfl rfl ?_
        obtain ⟨g5, hF⟩ := zif_none hF
        refine z_idiv (q := 87) C g5 dX1_portion_86 rfl ?_
        refine z_iload (q := 89) C dX1_portion_87 6 rfl rfl ?_
        refine z_iload (q := 91) C dX1_portion_89 0 rfl rfl ?_
        refine z_iload (q := 93) C dX1_portion_91 5 rfl rfl ?_
        obtain ⟨g6, hF⟩ := zif_none hF
        refine z_irem (q := 94) C g6 dX1_portion_93 rfl ?_
        refine z_icmp_ge (tgt := 101) (q := 97) C dX1_portion_94 (by decide) rfl (fun c7 => ?_) (fun c7 => ?_)
        · have hF := (if_pos c7).symm.trans hF
          refine z_iconst (q := 102) C dX1_portion_101 rfl ?_
          refine z_iadd (q := 103) C dX1_portion_102 rfl ?_
          refine z_istore (q := 105) C dX1_portion_103 (by decide) rfl rfl ?_
          refine z_iload (q := 107) C dX1_portion_105 0 rfl rfl ?_
          refine z_aload_n (q := 108) C dX1_portion_107 2 rfl rfl rfl ?_
          refine z_iconst (q := 109) C dX1_portion_108 rfl ?_
          refine z_iload_n (q := 110) C dX1_portion_109 4 rfl rfl rfl ?_
          refine z_iconst (q := 111) C dX1_portion_110 rfl ?_
          refine z_callV (q := 114) (o := o0) (av := [.int (zi 1), .int (zi l2), .int (zi 1)]) (rest := [.int (zi ((zdiv v4 l4) + 0))]) (stk2 := [.int (zi (fX1_item o0 1 l2 1 h)), .int (zi ((zdiv v4 l4) + 0))]) C hR clX1 (zon C ho0) hd0 (M_fX1_item (zlv hd rfl) ho0 hd0 rfl) mY_X1_item q_475 (Nat.le_of_ble_eq_true rfl) dX1_portion_111 rfl rfl rfl ?_
          obtain ⟨v8, ev8, hF⟩ := zlet_e hF
          refine z_callS (q := 117) (av := [.int (zi ((zdiv v4 l4) + 0)), .int (zi (fX1_item o0 1 l2 1 h))]) (rest := []) (stk2 := [.int (zi v8)]) C hR (M_fJ9_min_7cf53 (zlv hd rfl) ev8.symm) mY_J9_min_7cf53 q_732 (Nat.le_of_ble_eq_true rfl) dX1_portion_114 rfl rfl rfl ?_
          have hF := Option.some.inj hF
          subst hF
          exact z_iret C e1 e2 dX1_portion_117
        · have hF := (if_neg c7).symm.trans hF
          refine z_iconst (q := 98) C dX1_portion_97 rfl ?_
          refine z_goto (q := 102) C dX1_portion_98 (by decide) ?_
          refine z_iadd (q := 103) C dX1_portion_102 rfl ?_
          refine z_istore (q := 105) C dX1_portion_103 (by decide) rfl rfl ?_
          refine z_iload (q := 107) C dX1_portion_105 0 rfl rfl ?_
          refine z_aload_n (q := 108) C dX1_portion_107 2 rfl rfl rfl ?_
          refine z_iconst (q := 109) C dX1_portion_108 rfl ?_
          refine z_iload_n (q := 110) C dX1_portion_109 4 rfl rfl rfl ?_
          refine z_iconst (q := 111) C dX1_portion_110 rfl ?_
          refine z_callV (q := 114) (o := o0) (av := [.int (zi 1), .int (zi l2), .int (zi 1)]) (rest := [.int (zi ((zdiv v4 l4) + 1))]) (stk2 := [.int (zi (fX1_item o0 1 l2 1 h)), .int (zi ((zdiv v4 l4) + 1))]) C hR clX1 (zon C ho0) hd0 (M_fX1_item (zlv hd rfl) ho0 hd0 rfl) mY_X1_item q_475 (Nat.le_of_ble_eq_true rfl) dX1_portion_111 rfl rfl rfl ?_
          obtain ⟨v9, ev9, hF⟩ := zlet_e hF
          refine z_callS (q := 117) (av := [.int (zi ((zdiv v4 l4) + 1)), .int (zi (fX1_item o0 1 l2 1 h))]) (rest := []) (stk2 := [.int (zi v9)]) C hR (M_fJ9_min_7cf53 (zlv hd rfl) ev9.symm) mY_J9_min_7cf53 q_732 (Nat.le_of_ble_eq_true rfl) dX1_portion_114 rfl rfl rfl ?_
          have hF := Option.some.inj hF
          subst hF
          exact z_iret C e1 e2 dX1_portion_117
      · have hF := (if_neg c3).symm.trans hF
        refine z_iconst (q := 72) C dX1_portion_71 rfl ?_
        have hF := Option.some.inj hF
        subst hF
        exact z_iret C e1 e2 dX1_portion_72
  · have hF := (if_neg c1).symm.trans hF
    refine z_aload_n (q := 26) C dX1_portion_25 1 rfl rfl rfl ?_
    refine z_iload (q := 28) C dX1_portion_26 6 rfl rfl ?_
    refine z_callSN (q := 31) (av := [.ref (zα κ o1), .int (zi l6)]) (rest := []) (stk2 := [.int (zi (fX10_at o1 l6 h))]) C hR (M_fX10_at (zlv hd rfl) ho1 hd1 rfl) mY_X10_at q_362 (Nat.le_of_ble_eq_true rfl) dX1_portion_28 rfl rfl rfl ?_
    refine z_iload_n (q := 32) C dX1_portion_31 3 rfl rfl rfl ?_
    refine z_icmp_ne (tgt := 54) (q := 35) C dX1_portion_32 (by decide) rfl (fun c10 => ?_) (fun c10 => ?_)
    · have hF := (if_neg c10).symm.trans hF
      refine z_iinc (q := 57) (x := l6) C dX1_portion_54 (j := 6) rfl (by decide) rfl rfl ?_
      refine z_goto (q := 15) C dX1_portion_57 (by decide) ?_
      exact z_sub (hK15 _ _ _ _ _ hF) [1, 2, 3, 4, 5, 6, 0] rfl
    · have hF := (if_pos c10).symm.trans hF
      refine z_iinc (q := 38) (x := l4) C dX1_portion_35 (j := 4) rfl (by decide) rfl rfl ?_
      refine z_iload (q := 40) C dX1_portion_38 5 rfl rfl ?_
      refine z_iload (q := 42) C dX1_portion_40 6 rfl rfl ?_
      refine z_iload_n (q := 43) C dX1_portion_42 3 rfl rfl rfl ?_
      refine z_icmp_ge (tgt := 50) (q := 46) C dX1_portion_43 (by decide) rfl (fun c11 => ?_) (fun c11 => ?_)
      · have hF := (if_pos c11).symm.trans hF
        refine z_iconst (q := 51) C dX1_portion_50 rfl ?_
        refine z_iadd (q := 52) C dX1_portion_51 rfl ?_
        refine z_istore (q := 54) C dX1_portion_52 (by decide) rfl rfl ?_
        refine z_iinc (q := 57) (x := l6) C dX1_portion_54 (j := 6) rfl (by decide) rfl rfl ?_
        refine z_goto (q := 15) C dX1_portion_57 (by decide) ?_
        exact z_sub (hK15 _ _ _ _ _ hF) [3, 4, 5, 6, 2, 1, 0] rfl
      · have hF := (if_neg c11).symm.trans hF
        refine z_iconst (q := 47) C dX1_portion_46 rfl ?_
        refine z_goto (q := 51) C dX1_portion_47 (by decide) ?_
        refine z_iadd (q := 52) C dX1_portion_51 rfl ?_
        refine z_istore (q := 54) C dX1_portion_52 (by decide) rfl rfl ?_
        refine z_iinc (q := 57) (x := l6) C dX1_portion_54 (j := 6) rfl (by decide) rfl rfl ?_
        refine z_goto (q := 15) C dX1_portion_57 (by decide) ?_
        exact z_sub (hK15 _ _ _ _ _ hF) [3, 4, 5, 6, 2, 1, 0] rfl
set_option maxRecDepth 20000 in
set_option maxHeartbeats 4000000 in
theorem J_fX1_portion_c15 {κ : zT} (C : zC κ RX1 cX1_portion 8 (some .int)) {d : Nat} (hR : zR κ = zrm (d + 1)) (hd : 3 ≤ d + 1) {N : Nat} {o0 : Nat} (ho0 : o0 < zN) (hd0 : zkd o0 = 1) {o1 : Nat} (ho1 : o1 < zN) (hd1 : zkd o1 = 100) {h : zH} {r : Int} (e1 : zrv κ = some (.int (zi r))) (e2 : zhf κ = h) : ∀ (k : Nat) (l2 : Int) (l3 : Int) (l4 : Int) (l5 : Int) (l6 : Int), fX1_portion_c15 N o0 o1 h k l2 l3 l4 l5 l6 = some r → Z κ h 15 [(0, .ref (zα κ o0)), (1, .ref (zα κ o1)), (2, .int (zi l2)), (3, .int (zi l3)), (4, .int (zi l4)), (5, .int (zi l5)), (6, .int (zi l6))] [] := by
  intro k
  induction k with
  | zero => intro l2 l3 l4 l5 l6 hF; cases hF
  | succ k ih => intro l2 l3 l4 l5 l6 hF; exact J_fX1_portion_c15b C hR hd ho0 hd0 ho1 hd1 e1 e2 ih l2 l3 l4 l5 l6 hF
set_option maxRecDepth 20000 in
set_option maxHeartbeats 4000000 in
theorem J_fX1_portion {κ : zT} (C : zC κ RX1 cX1_portion 8 (some .int)) {d : Nat} (hR : zR κ = zrm (d + 1)) (hd : 3 ≤ d + 1) {N : Nat} {o0 : Nat} (ho0 : o0 < zN) (hd0 : zkd o0 = 1) {o1 : Nat} (ho1 : o1 < zN) (hd1 : zkd o1 = 100) {h : zH} {r : Int} (e1 : zrv κ = some (.int (zi r))) (e2 : zhf κ = h) {a2 : Int} (hF : fX1_portion N o0 o1 a2 h = some r) : Z κ h 0 [(0, .ref (zα κ o0)), (1, .ref (zα κ o1)), (2, .int (zi a2))] [] := by
  unfold fX1_portion at hF
  refine z_aload_n (q := 1) C dX1_portion_0 1 rfl rfl rfl ?_
  refine z_iload_n (q := 2) C dX1_portion_1 2 rfl rfl rfl ?_
  refine z_callSN (q := 5) (av := [.ref (zα κ o1), .int (zi a2)]) (rest := []) (stk2 := [.int (zi (fX10_at o1 a2 h))]) C hR (M_fX10_at (zlv hd rfl) ho1 hd1 rfl) mY_X10_at q_362 (Nat.le_of_ble_eq_true rfl) dX1_portion_2 rfl rfl rfl ?_
  obtain ⟨v1, ev1, hF⟩ := zlet_e hF
  refine z_istoreE_n (q := 6) C ev1 dX1_portion_5 (by decide) rfl rfl rfl ?_
  refine z_iconst (q := 7) C dX1_portion_6 rfl ?_
  refine z_istore (q := 9) C dX1_portion_7 (by decide) rfl rfl ?_
  refine z_iconst (q := 10) C dX1_portion_9 rfl ?_
  refine z_istore (q := 12) C dX1_portion_10 (by decide) rfl rfl ?_
  refine z_iconst (q := 13) C dX1_portion_12 rfl ?_
  refine z_istore (q := 15) C dX1_portion_13 (by decide) rfl rfl ?_
  exact z_sub (J_fX1_portion_c15 C hR hd ho0 hd0 ho1 hd1 e1 e2 N _ _ _ _ _ hF) [4, 5, 6, 3, 2, 1, 0] rfl
set_option maxRecDepth 20000 in
set_option maxHeartbeats 4000000 in
theorem M_fX1_portion {l : Launch} {D : va_G} {cy : ClassId} {α : Nat → Nat} {n : Nat} {σ : zSg} {d : Nat} (hd : 3 ≤ d) {N : Nat} {o0 : Nat} (ho0 : o0 < zN) (hd0 : zkd o0 = 1) {o1 : Nat} (ho1 : o1 < zN) (hd1 : zkd o1 = 100) {a2 : Int} {h : zH} {r : Int} (hF : fX1_portion N o0 o1 a2 h = some r) : zMet l yX1_portion cX1_portion 8 (some .int) (zrm d) D cy α n σ [.ref (α o0), .ref (α o1), .int (zi a2)] h (some (.int (zi r))) h := by
  obtain ⟨d, rfl⟩ : ∃ e, d = e + 1 := ⟨d - 1, by omega⟩
  refine z_met (by decide +kernel) (Nat.le_of_ble_eq_true rfl) (fun κ k1 k2 k3 k4 k5 k6 k7 k8 k9 C => ?_)
  subst k1 k3 k4 k5 k6 k7
  exact J_fX1_portion C k2 hd ho0 hd0 ho1 hd1 k8 k9 hF
set_option maxRecDepth 20000 in
set_option maxHeartbeats 4000000 in
theorem J_fX8_dawn_c66b {κ : zT} (C : zC κ RX8 cX8_dawn 7 none) {d : Nat} (hR : zR κ = zrm (d + 1)) (hd : 4 ≤ d + 1) {N : Nat} {o0 : Nat} (ho0 : o0 < zN) (hd0 : zkd o0 = 8) {o1 : Nat} (ho1 : o1 < zN) (hd1 : zkd o1 = 1) {r : zH} (e1 : zrv κ = none) (e2 : zhf κ = r) {K66 : Int → Int → Int → zH → Option zH} (hK66 : ∀ (l3 : Int) (l4 : Int) (l5 : Int) (h : zH), K66 l3 l4 l5 h = some r → Z κ h 66 [(0, .ref (zα κ o0)), (1, .ref (zα κ o1)), (3, .int (zi l3)), (4, .int (zi l4)), (5, .int (zi l5))] []) (l3 : Int) (l4 : Int) (l5 : Int) (h : zH) (hF : fX8_dawn_c66b N o0 o1 K66 l3 l4 l5 h = some r) : Z κ h 66 [(0, .ref (zα κ o0)), (1, .ref (zα κ o1)), (3, .int (zi l3)), (4, .int (zi l4)), (5, .int (zi l5))] [] := by
  unfold fX8_dawn_c66b at hF
  refine z_iload (q := 68) C dX8_dawn_66 4 rfl rfl ?_
  refine z_aload_n (q := 69) C dX8_dawn_68 1 rfl rfl rfl ?_
  refine z_iconst (q := 70) C dX8_dawn_69 rfl ?_
  refine z_callV (q := 73) (o := o1) (av := [.int (zi 1)]) (rest := [.int (zi l5)]) (stk2 := [.int (zi (fX1_many o1 1 h)), .int (zi l5)]) C hR clX1 (zon C ho1) hd1 (M_fX1_many (zlv hd rfl) ho1 hd1 rfl) mY_X1_many q_727 (Nat.le_of_ble_eq_true rfl) dX8_dawn_70 rfl rfl rfl ?_
  refine z_icmp_ge (tgt := 158) (q := 76) C dX8_dawn_73 (by decide) rfl (fun c1 => ?_) (fun c1 => ?_)
  · have hF := (if_pos c1).symm.trans hF
    refine z_aload_n (q := 159) C dX8_dawn_158 0 rfl rfl rfl ?_
    refine z_getf (q := 162) C clX8 (zon C ho0) hd0 (k := 1) (by decide) q_186 rfl (zfv_r hd0 rfl rfl) dX8_dawn_159 rfl ?_
    refine z_aload_n (q := 163) C dX8_dawn_162 0 rfl rfl rfl ?_
    refine z_getf (q := 166) C clX8 (zon C ho0) hd0 (k := 0) (by decide) q_184 rfl (zfv_r hd0 rfl rfl) dX8_dawn_163 rfl ?_
    refine z_bipush (q := 168) C dX8_dawn_166 bp_50 rfl ?_
    refine z_ialdc (q := 169) (j := 50) C (zon C (frl_8_0 ho0 hd0)) (frk_8_0 ho0 hd0) zwk_50 (by rw [(frn_8_0 ho0 hd0)]; decide) dX8_dawn_168 rfl ?_
    refine z_iload (q := 171) C dX8_dawn_169 3 rfl rfl ?_
    refine z_bipush (q := 173) C dX8_dawn_171 bp_6 rfl ?_
    refine z_ishl (q := 174) C dX8_dawn_173 rfl ?_
    refine z_iload_n (q := 175) C dX8_dawn_174 2 rfl rfl rfl ?_
    refine z_ior (q := 176) C dX8_dawn_175 rfl ?_
    obtain ⟨h2, eh2, hF⟩ := zlet_e hF
    refine z_callSN (q := 179) (av := [.ref (zα κ (zfr o0 1)), .int (zi (h (zfr o0 0) 50)), .int (zi (zor (zshl l4 6) l3))]) (rest := []) (stk2 := []) C hR (M_fX10_put (zlv hd rfl) (frl_8_1 ho0 hd0) (frk_8_1 ho0 hd0) eh2.symm) mY_X10_put q_602 (Nat.le_of_ble_eq_true rfl) dX8_dawn_176 rfl rfl rfl ?_
    refine z_aload_n (q := 180) C dX8_dawn_179 0 rfl rfl rfl ?_
    refine z_getf (q := 183) C clX8 (zon C ho0) hd0 (k := 0) (by decide) q_184 rfl (zfv_r hd0 rfl rfl) dX8_dawn_180 rfl ?_
    refine z_bipush (q := 185) C dX8_dawn_183 bp_50 rfl ?_
    refine z_dup2 (q := 186) C dX8_dawn_185 rfl rfl rfl ?_
    refine z_ialdc (q := 187) (j := 50) C (zon C (frl_8_0 ho0 hd0)) (frk_8_0 ho0 hd0) zwk_50 (by rw [(frn_8_0 ho0 hd0)]; decide) dX8_dawn_186 rfl ?_
    refine z_iconst (q := 188) C dX8_dawn_187 rfl ?_
    refine z_iadd (q := 189) C dX8_dawn_188 rfl ?_
    obtain ⟨h3, eh3, hF⟩ := zlet_e hF
    refine z_iastc (q := 190) (j := 50) C (zon C (frl_8_0 ho0 hd0)) (frk_8_0 ho0 hd0) zwk_50 (by rw [(frn_8_0 ho0 hd0)]; decide) dX8_dawn_189 rfl eh3 ?_
    have hF := Option.some.inj hF
    subst hF
    exact z_vret C e1 e2 dX8_dawn_190
  · have hF := (if_neg c1).symm.trans hF
    refine z_aload_n (q := 77) C dX8_dawn_76 1 rfl rfl rfl ?_
    refine z_aload_n (q := 78) C dX8_dawn_77 0 rfl rfl rfl ?_
    refine z_getf (q := 81) C clX8 (zon C ho0) hd0 (k := 3) (by decide) q_188 rfl (zfv_r hd0 rfl rfl) dX8_dawn_78 rfl ?_
    refine z_iload (q := 83) C dX8_dawn_81 4 rfl rfl ?_
    obtain ⟨v4, ev4, hF⟩ := zb_e hF
    refine z_callV (q := 86) (o := o1) (av := [.ref (zα κ (zfr o0 3)), .int (zi l5)]) (rest := []) (stk2 := [.int (zi v4)]) C hR clX1 (zon C ho1) hd1 (M_fX1_portion (zlv hd rfl) ho1 hd1 (frl_8_3 ho0 hd0) (frk_8_3 ho0 hd0) ev4) mY_X1_portion q_728 (Nat.le_of_ble_eq_true rfl) dX8_dawn_83 rfl rfl rfl ?_
    refine z_istore (q := 88) C dX8_dawn_86 (by decide) rfl rfl ?_
    refine z_aload_n (q := 89) C dX8_dawn_88 1 rfl rfl rfl ?_
    refine z_iconst (q := 90) C dX8_dawn_89 rfl ?_
    refine z_iload (q := 92) C dX8_dawn_90 5 rfl rfl ?_
    refine z_iload (q := 94) C dX8_dawn_92 0 rfl rfl ?_
    obtain ⟨h5, eh5, hF⟩ := zlet_e hF
    refine z_callV (q := 97) (o := o0) (av := [.int (zi 3), .int (zi l5), .int (zi v4)]) (rest := []) (stk2 := []) C hR clX8 (zon C ho0) hd0 (M_fX8_set (zlv hd rfl) ho0 hd0 eh5.symm) mY_X8_set q_598 (Nat.le_of_ble_eq_true rfl) dX8_dawn_94 rfl rfl rfl ?_
    refine z_iload (q := 99) C dX8_dawn_97 4 rfl rfl ?_
    refine z_iload (q := 101) C dX8_dawn_99 0 rfl rfl ?_
    refine z_iadd (q := 102) C dX8_dawn_101 rfl ?_
    refine z_istore (q := 104) C dX8_dawn_102 (by decide) rfl rfl ?_
    refine z_aload_n (q := 105) C dX8_dawn_104 2 rfl rfl rfl ?_
    refine z_getf (q := 108) C clX8 (zon C ho0) hd0 (k := 3) (by decide) q_188 rfl (zfv_r hd0 rfl rfl) dX8_dawn_105 rfl ?_
    refine z_iload (q := 110) C dX8_dawn_108 5 rfl rfl ?_
    refine z_callSN (q := 113) (av := [.ref (zα κ (zfr o0 3)), .int (zi l5)]) (rest := []) (stk2 := [.int (zi (fX10_at (zfr o0 3) l5 h5))]) C hR (M_fX10_at (zlv hd rfl) (frl_8_3 ho0 hd0) (frk_8_3 ho0 hd0) rfl) mY_X10_at q_643 (Nat.le_of_ble_eq_true rfl) dX8_dawn_110 rfl rfl rfl ?_
    refine z_iconst (q := 114) C dX8_dawn_113 rfl ?_
    refine z_icmp_eq (tgt := 152) (q := 117) C dX8_dawn_114 (by decide) rfl (fun c6 => ?_) (fun c6 => ?_)
    · have hF := (if_pos c6).symm.trans hF
      refine z_iinc (q := 155) (x := l5) C dX8_dawn_152 (j := 5) rfl (by decide) rfl rfl ?_
      refine z_goto (q := 66) C dX8_dawn_155 (by decide) ?_
      exact z_sub (hK66 _ _ _ _ hF) [3, 4, 5, 1, 0] rfl
    · have hF := (if_neg c6).symm.trans hF
      refine z_iload_n (q := 118) C dX8_dawn_117 4 rfl rfl rfl ?_
      refine z_iconst (q := 119) C dX8_dawn_118 rfl ?_
      refine z_iload (q := 121) C dX8_dawn_119 5 rfl rfl ?_
      refine z_ishl (q := 122) C dX8_dawn_121 rfl ?_
      refine z_ior (q := 123) C dX8_dawn_122 rfl ?_
      obtain ⟨v7, ev7, hF⟩ := zlet_e hF
      refine z_istoreE_n (q := 124) C ev7 dX8_dawn_123 (by decide) rfl rfl rfl ?_
      refine z_aload_n (q := 125) C dX8_dawn_124 3 rfl rfl rfl ?_
      refine z_iconst (q := 126) C dX8_dawn_125 rfl ?_
      refine z_iload (q := 128) C dX8_dawn_126 5 rfl rfl ?_
      refine z_aload_n (q := 129) C dX8_dawn_128 3 rfl rfl rfl ?_
      refine z_iconst (q := 130) C dX8_dawn_129 rfl ?_
      refine z_iload (q := 132) C dX8_dawn_130 5 rfl rfl ?_
      refine z_callV (q := 135) (o := o0) (av := [.int (zi 0), .int (zi l5)]) (rest := [.int (zi l5), .int (zi 0), .ref (zα κ o0)]) (stk2 := [.int (zi (fX8_of o0 0 l5 h5)), .int (zi l5), .int (zi 0), .ref (zα κ o0)]) C hR clX8 (zon C ho0) hd0 (M_fX8_of (zlv hd rfl) ho0 hd0 rfl) mY_X8_of q_639 (Nat.le_of_ble_eq_true rfl) dX8_dawn_132 rfl rfl rfl ?_
      refine z_iconst (q := 136) C dX8_dawn_135 rfl ?_
      refine z_aload_n (q := 137) C dX8_dawn_136 3 rfl rfl rfl ?_
      refine z_getf (q := 140) C clX8 (zon C ho0) hd0 (k := 3) (by decide) q_188 rfl (zfv_r hd0 rfl rfl) dX8_dawn_137 rfl ?_
      refine z_iload (q := 142) C dX8_dawn_140 5 rfl rfl ?_
      refine z_callSN (q := 145) (av := [.ref (zα κ (zfr o0 3)), .int (zi l5)]) (rest := [.int (zi 1), .int (zi (fX8_of o0 0 l5 h5)), .int (zi l5), .int (zi 0), .ref (zα κ o0)]) (stk2 := [.int (zi (fX10_at (zfr o0 3) l5 h5)), .int (zi 1), .int (zi (fX8_of o0 0 l5 h5)), .int (zi l5), .int (zi 0), .ref (zα κ o0)]) C hR (M_fX10_at (zlv hd rfl) (frl_8_3 ho0 hd0) (frk_8_3 ho0 hd0) rfl) mY_X10_at q_643 (Nat.le_of_ble_eq_true rfl) dX8_dawn_142 rfl rfl rfl ?_
      refine z_ishl (q := 146) C dX8_dawn_145 rfl ?_
      refine z_iconst (q := 147) C dX8_dawn_146 rfl ?_
      refine z_ixor (q := 148) C dX8_dawn_147 rfl ?_
      refine z_iand (q := 149) C dX8_dawn_148 rfl ?_
      obtain ⟨h8, eh8, hF⟩ := zlet_e hF
      refine z_callV (q := 152) (o := o0) (av := [.int (zi 0), .int (zi l5), .int (zi (zand (fX8_of o0 0 l5 h5) (zxor (zshl 1 (fX10_at (zfr o0 3) l5 h5)) (-1))))]) (rest := []) (stk2 := []) C hR clX8 (zon C ho0) hd0 (M_fX8_set (zlv hd rfl) ho0 hd0 eh8.symm) mY_X8_set q_598 (Nat.le_of_ble_eq_true rfl) dX8_dawn_149 rfl rfl rfl ?_
      refine z_iinc (q := 155) (x := l5) C dX8_dawn_152 (j := 5) rfl (by decide) rfl rfl ?_
      refine z_goto (q := 66) C dX8_dawn_155 (by decide) ?_
      exact z_sub (hK66 _ _ _ _ hF) [4, 5, 1, 2, 0] rfl
set_option maxRecDepth 20000 in
set_option maxHeartbeats 4000000 in
theorem J_fX8_dawn_c66 {κ : zT} (C : zC κ RX8 cX8_dawn 7 none) {d : Nat} (hR : zR κ = zrm (d + 1)) (hd : 4 ≤ d + 1) {N : Nat} {o0 : Nat} (ho0 : o0 < zN) (hd0 : zkd o0 = 8) {o1 : Nat} (ho1 : o1 < zN) (hd1 : zkd o1 = 1) {r : zH} (e1 : zrv κ = none) (e2 : zhf κ = r) : ∀ (k : Nat) (l3 : Int) (l4 : Int) (l5 : Int) (h : zH), fX8_dawn_c66 N o0 o1 k l3 l4 l5 h = some r → Z κ h 66 [(0, .ref (zα κ o0)), (1, .ref (zα κ o1)), (3, .int (zi l3)), (4, .int (zi l4)), (5, .int (zi l5))] [] := by
  intro k
  induction k with
  | zero => intro l3 l4 l5 h hF; cases hF
  | succ k ih => intro l3 l4 l5 h hF; exact J_fX8_dawn_c66b C hR hd ho0 hd0 ho1 hd1 e1 e2 ih l3 l4 l5 h hF
set_option maxRecDepth 20000 in
set_option maxHeartbeats 4000000 in
theorem J_fX8_dawn_c2b {κ : zT} (C : zC κ RX8 cX8_dawn 7 none) {d : Nat} (hR : zR κ = zrm (d + 1)) (hd : 4 ≤ d + 1) {N : Nat} {o0 : Nat} (ho0 : o0 < zN) (hd0 : zkd o0 = 8) {o1 : Nat} (ho1 : o1 < zN) (hd1 : zkd o1 = 1) {r : zH} (e1 : zrv κ = none) (e2 : zhf κ = r) {K2 : Int → Int → zH → Option zH} (hK2 : ∀ (l2 : Int) (l3 : Int) (h : zH), K2 l2 l3 h = some r → Z κ h 2 [(0, .ref (zα κ o0)), (1, .ref (zα κ o1)), (2, .int (zi l2)), (3, .int (zi l3))] []) (l2 : Int) (l3 : Int) (h : zH) (hF : fX8_dawn_c2b N o0 o1 K2 l2 l3 h = some r) : Z κ h 2 [(0, .ref (zα κ o0)), (1, .ref (zα κ o1)), (2, .int (zi l2)), (3, .int (zi l3))] [] := by
  unfold fX8_dawn_c2b at hF
  refine z_iload_n (q := 3) C dX8_dawn_2 3 rfl rfl rfl ?_
  refine z_aload_n (q := 4) C dX8_dawn_3 1 rfl rfl rfl ?_
  refine z_iconst (q := 5) C dX8_dawn_4 rfl ?_
  refine z_callV (q := 8) (o := o1) (av := [.int (zi 1)]) (rest := [.int (zi l3)]) (stk2 := [.int (zi (fX1_many o1 1 h)), .int (zi l3)]) C hR clX1 (zon C ho1) hd1 (M_fX1_many (zlv hd rfl) ho1 hd1 rfl) mY_X1_many q_727 (Nat.le_of_ble_eq_true rfl) dX8_dawn_5 rfl rfl rfl ?_
  refine z_icmp_ge (tgt := 58) (q := 11) C dX8_dawn_8 (by decide) rfl (fun c1 => ?_) (fun c1 => ?_)
  · have hF := (if_pos c1).symm.trans hF
    refine z_iconst (q := 59) C dX8_dawn_58 rfl ?_
    refine z_istore_n (q := 60) C dX8_dawn_59 (by decide) rfl rfl rfl ?_
    refine z_iconst (q := 61) C dX8_dawn_60 rfl ?_
    refine z_istore (q := 63) C dX8_dawn_61 (by decide) rfl rfl ?_
    refine z_iconst (q := 64) C dX8_dawn_63 rfl ?_
    refine z_istore (q := 66) C dX8_dawn_64 (by decide) rfl rfl ?_
    exact z_sub (J_fX8_dawn_c66 C hR hd ho0 hd0 ho1 hd1 e1 e2 N _ _ _ _ hF) [3, 4, 2, 1, 0] rfl
  · have hF := (if_neg c1).symm.trans hF
    refine z_aload_n (q := 12) C dX8_dawn_11 1 rfl rfl rfl ?_
    refine z_iconst (q := 13) C dX8_dawn_12 rfl ?_
    refine z_iload_n (q := 14) C dX8_dawn_13 3 rfl rfl rfl ?_
    refine z_iconst (q := 15) C dX8_dawn_14 rfl ?_
    refine z_callV (q := 18) (o := o1) (av := [.int (zi 1), .int (zi l3), .int (zi 0)]) (rest := []) (stk2 := [.int (zi (fX1_item o1 1 l3 0 h))]) C hR clX1 (zon C ho1) hd1 (M_fX1_item (zlv hd rfl) ho1 hd1 rfl) mY_X1_item q_699 (Nat.le_of_ble_eq_true rfl) dX8_dawn_15 rfl rfl rfl ?_
    obtain ⟨v2, ev2, hF⟩ := zlet_e hF
    refine z_istoreE (q := 20) C ev2 dX8_dawn_18 (by decide) rfl rfl ?_
    refine z_aload_n (q := 21) C dX8_dawn_20 1 rfl rfl rfl ?_
    refine z_getf (q := 24) C clX8 (zon C ho0) hd0 (k := 3) (by decide) q_188 rfl (zfv_r hd0 rfl rfl) dX8_dawn_21 rfl ?_
    refine z_iload_n (q := 25) C dX8_dawn_24 4 rfl rfl rfl ?_
    refine z_iload_n (q := 26) C dX8_dawn_25 3 rfl rfl rfl ?_
    refine z_if_ne (tgt := 48) (q := 29) C dX8_dawn_26 (by decide) rfl (fun c3 => ?_) (fun c3 => ?_)
    · have hF := (if_neg c3).symm.trans hF
      refine z_iconst (q := 49) C dX8_dawn_48 rfl ?_
      obtain ⟨h7, eh7, hF⟩ := zlet_e hF
      refine z_callSN (q := 52) (av := [.ref (zα κ (zfr o0 3)), .int (zi l3), .int (zi (-1))]) (rest := []) (stk2 := []) C hR (M_fX10_put (zlv hd rfl) (frl_8_3 ho0 hd0) (frk_8_3 ho0 hd0) eh7.symm) mY_X10_put q_602 (Nat.le_of_ble_eq_true rfl) dX8_dawn_49 rfl rfl rfl ?_
      refine z_iinc (q := 55) (x := l3) C dX8_dawn_52 (j := 4) rfl (by decide) rfl rfl ?_
      refine z_goto (q := 2) C dX8_dawn_55 (by decide) ?_
      exact z_sub (hK2 _ _ _ hF) [2, 3, 4, 0] rfl
    · have hF := (if_pos c3).symm.trans hF
      refine z_aload_n (q := 30) C dX8_dawn_29 1 rfl rfl rfl ?_
      refine z_iconst (q := 31) C dX8_dawn_30 rfl ?_
      refine z_iload_n (q := 32) C dX8_dawn_31 4 rfl rfl rfl ?_
      refine z_callV (q := 35) (o := o0) (av := [.int (zi 0), .int (zi l3)]) (rest := [.int (zi l3), .ref (zα κ (zfr o0 3))]) (stk2 := [.int (zi (fX8_of o0 0 l3 h)), .int (zi l3), .ref (zα κ (zfr o0 3))]) C hR clX8 (zon C ho0) hd0 (M_fX8_of (zlv hd rfl) ho0 hd0 rfl) mY_X8_of q_639 (Nat.le_of_ble_eq_true rfl) dX8_dawn_32 rfl rfl rfl ?_
      refine z_iload (q := 37) C dX8_dawn_35 0 rfl rfl ?_
      refine z_callSN (q := 40) (av := [.int (zi (fX8_of o0 0 l3 h)), .int (zi v2)]) (rest := [.int (zi l3), .ref (zα κ (zfr o0 3))]) (stk2 := [.int (zi (fX10_isIn (fX8_of o0 0 l3 h) v2)), .int (zi l3), .ref (zα κ (zfr o0 3))]) C hR (M_fX10_isIn (zlv hd rfl) rfl) mY_X10_isIn q_681 (Nat.le_of_ble_eq_true rfl) dX8_dawn_37 rfl rfl rfl ?_
      refine z_if_eq (tgt := 48) (q := 43) C dX8_dawn_40 (by decide) rfl (fun c4 => ?_) (fun c4 => ?_)
      · have hF := (if_pos c4).symm.trans hF
        refine z_iconst (q := 49) C dX8_dawn_48 rfl ?_
        obtain ⟨h5, eh5, hF⟩ := zlet_e hF
        refine z_callSN (q := 52) (av := [.ref (zα κ (zfr o0 3)), .int (zi l3), .int (zi (-1))]) (rest := []) (stk2 := []) C hR (M_fX10_put (zlv hd rfl) (frl_8_3 ho0 hd0) (frk_8_3 ho0 hd0) eh5.symm) mY_X10_put q_602 (Nat.le_of_ble_eq_true rfl) dX8_dawn_49 rfl rfl rfl ?_
        refine z_iinc (q := 55) (x := l3) C dX8_dawn_52 (j := 4) rfl (by decide) rfl rfl ?_
        refine z_goto (q := 2) C dX8_dawn_55 (by decide) ?_
        exact z_sub (hK2 _ _ _ hF) [2, 3, 4, 0] rfl
      · have hF := (if_neg c4).symm.trans hF
        refine z_iload (q := 45) C dX8_dawn_43 0 rfl rfl ?_
        refine z_goto (q := 49) C dX8_dawn_45 (by decide) ?_
        obtain ⟨h6, eh6, hF⟩ := zlet_e hF
        refine z_callSN (q := 52) (av := [.ref (zα κ (zfr o0 3)), .int (zi l3), .int (zi v2)]) (rest := []) (stk2 := []) C hR (M_fX10_put (zlv hd rfl) (frl_8_3 ho0 hd0) (frk_8_3 ho0 hd0) eh6.symm) mY_X10_put q_602 (Nat.le_of_ble_eq_true rfl) dX8_dawn_49 rfl rfl rfl ?_
        refine z_iinc (q := 55) (x := l3) C dX8_dawn_52 (j := 4) rfl (by decide) rfl rfl ?_
        refine z_goto (q := 2) C dX8_dawn_55 (by decide) ?_
        exact z_sub (hK2 _ _ _ hF) [2, 3, 4, 0] rfl
set_option maxRecDepth 20000 in
set_option maxHeartbeats 4000000 in
theorem J_fX8_dawn_c2 {κ : zT} (C : zC κ RX8 cX8_dawn 7 none) {d : Nat} (hR : zR κ = zrm (d + 1)) (hd : 4 ≤ d + 1) {N : Nat} {o0 : Nat} (ho0 : o0 < zN) (hd0 : zkd o0 = 8) {o1 : Nat} (ho1 : o1 < zN) (hd1 : zkd o1 = 1) {r : zH} (e1 : zrv κ = none) (e2 : zhf κ = r) : ∀ (k : Nat) (l2 : Int) (l3 : Int) (h : zH), fX8_dawn_c2 N o0 o1 k l2 l3 h = some r → Z κ h 2 [(0, .ref (zα κ o0)), (1, .ref (zα κ o1)), (2, .int (zi l2)), (3, .int (zi l3))] [] := by
  intro k
  induction k with
  | zero => intro l2 l3 h hF; cases hF
  | succ k ih => intro l2 l3 h hF; exact J_fX8_dawn_c2b C hR hd ho0 hd0 ho1 hd1 e1 e2 ih l2 l3 h hF
set_option maxRecDepth 20000 in
set_option maxHeartbeats 4000000 in
theorem J_fX8_dawn {κ : zT} (C : zC κ RX8 cX8_dawn 7 none) {d : Nat} (hR : zR κ = zrm (d + 1)) (hd : 4 ≤ d + 1) {N : Nat} {o0 : Nat} (ho0 : o0 < zN) (hd0 : zkd o0 = 8) {o1 : Nat} (ho1 : o1 < zN) (hd1 : zkd o1 = 1) {r : zH} (e1 : zrv κ = none) (e2 : zhf κ = r) {a2 : Int} {h : zH} (hF : fX8_dawn N o0 o1 a2 h = some r) : Z κ h 0 [(0, .ref (zα κ o0)), (1, .ref (zα κ o1)), (2, .int (zi a2))] [] := by
  unfold fX8_dawn at hF
  refine z_iconst (q := 1) C dX8_dawn_0 rfl ?_
  refine z_istore_n (q := 2) C dX8_dawn_1 (by decide) rfl rfl rfl ?_
  exact z_sub (J_fX8_dawn_c2 C hR hd ho0 hd0 ho1 hd1 e1 e2 N _ _ _ hF) [1, 2, 3, 0] rfl
set_option maxRecDepth 20000 in
set_option maxHeartbeats 4000000 in
theorem M_fX8_dawn {l : Launch} {D : va_G} {cy : ClassId} {α : Nat → Nat} {n : Nat} {σ : zSg} {d : Nat} (hd : 4 ≤ d) {N : Nat} {o0 : Nat} (ho0 : o0 < zN) (hd0 : zkd o0 = 8) {o1 : Nat} (ho1 : o1 < zN) (hd1 : zkd o1 = 1) {a2 : Int} {h : zH} {g : zH} (hF : fX8_dawn N o0 o1 a2 h = some g) : zMet l yX8_dawn cX8_dawn 7 none (zrm d) D cy α n σ [.ref (α o0), .ref (α o1), .int (zi a2)] h (none) g := by
  obtain ⟨d, rfl⟩ : ∃ e, d = e + 1 := ⟨d - 1, by omega⟩
  refine z_met (by decide +kernel) (Nat.le_of_ble_eq_true rfl) (fun κ k1 k2 k3 k4 k5 k6 k7 k8 k9 C => ?_)
  subst k1 k3 k4 k5 k6 k7
  exact J_fX8_dawn C k2 hd ho0 hd0 ho1 hd1 k8 k9 hF
set_option maxRecDepth 20000 in
set_option maxHeartbeats 4000000 in
theorem J_fJ6_bitCount_0f7a4 {κ : zT} (C : zC κ RJ6 cJ6_bitCount_0f7a4 1 (some .int)) {d : Nat} (hR : zR κ = zrm (d + 1)) (hd : 1 ≤ d + 1) {h : zH} {r : Int} (e1 : zrv κ = some (.int (zi r))) (e2 : zhf κ = h) {a0 : Int} (hF : fJ6_bitCount_0f7a4 a0 = r) : Z κ h 0 [(0, .int (zi a0))] [] := by
  unfold fJ6_bitCount_0f7a4 at hF
  refine z_iload_n (q := 1) C dJ6_bitCount_0f7a4_0 0 rfl rfl rfl ?_
  refine z_iload_n (q := 2) C dJ6_bitCount_0f7a4_1 0 rfl rfl rfl ?_
  refine z_iconst (q := 3) C dJ6_bitCount_0f7a4_2 rfl ?_
  refine z_iushr (q := 4) C dJ6_bitCount_0f7a4_3 rfl ?_
  refine z_ldcw (q := 7) C kc_RJ6_265 dJ6_bitCount_0f7a4_4 rfl ?_
  refine z_iand (q := 8) C dJ6_bitCount_0f7a4_7 rfl ?_
  refine z_isub (q := 9) C dJ6_bitCount_0f7a4_8 rfl ?_
  obtain ⟨v1, ev1, hF⟩ := zlet_e hF
  refine z_istoreE_n (q := 10) C ev1 dJ6_bitCount_0f7a4_9 (by decide) rfl rfl rfl ?_
  refine z_iload_n (q := 11) C dJ6_bitCount_0f7a4_10 0 rfl rfl rfl ?_
  refine z_ldcw (q := 14) C kc_RJ6_266 dJ6_bitCount_0f7a4_11 rfl ?_
  refine z_iand (q := 15) C dJ6_bitCount_0f7a4_14 rfl ?_
  refine z_iload_n (q := 16) C dJ6_bitCount_0f7a4_15 0 rfl rfl rfl ?_
  refine z_iconst (q := 17) C dJ6_bitCount_0f7a4_16 rfl ?_
  refine z_iushr (q := 18) C dJ6_bitCount_0f7a4_17 rfl ?_
  refine z_ldcw (q := 21) C kc_RJ6_266 dJ6_bitCount_0f7a4_18 rfl ?_
  refine z_iand (q := 22) C dJ6_bitCount_0f7a4_21 rfl ?_
  refine z_iadd (q := 23) C dJ6_bitCount_0f7a4_22 rfl ?_
  obtain ⟨v2, ev2, hF⟩ := zlet_e hF
  refine z_istoreE_n (q := 24) C ev2 dJ6_bitCount_0f7a4_23 (by decide) rfl rfl rfl ?_
  refine z_iload_n (q := 25) C dJ6_bitCount_0f7a4_24 0 rfl rfl rfl ?_
  refine z_iload_n (q := 26) C dJ6_bitCount_0f7a4_25 0 rfl rfl rfl ?_
  refine z_iconst (q := 27) C dJ6_bitCount_0f7a4_26 rfl ?_
  refine z_iushr (q := 28) C dJ6_bitCount_0f7a4_27 rfl ?_
  refine z_iadd (q := 29) C dJ6_bitCount_0f7a4_28 rfl ?_
  refine z_ldcw (q := 32) C kc_RJ6_267 dJ6_bitCount_0f7a4_29 rfl ?_
  refine z_iand (q := 33) C dJ6_bitCount_0f7a4_32 rfl ?_
  obtain ⟨v3, ev3, hF⟩ := zlet_e hF
  refine z_istoreE_n (q := 34) C ev3 dJ6_bitCount_0f7a4_33 (by decide) rfl rfl rfl ?_
  refine z_iload_n (q := 35) C dJ6_bitCount_0f7a4_34 0 rfl rfl rfl ?_
  refine z_iload_n (q := 36) C dJ6_bitCount_0f7a4_35 0 rfl rfl rfl ?_
  refine z_bipush (q := 38) C dJ6_bitCount_0f7a4_36 bp_8 rfl ?_
  refine z_iushr (q := 39) C dJ6_bitCount_0f7a4_38 rfl ?_
  refine z_iadd (q := 40) C dJ6_bitCount_0f7a4_39 rfl ?_
  obtain ⟨v4, ev4, hF⟩ := zlet_e hF
  refine z_istoreE_n (q := 41) C ev4 dJ6_bitCount_0f7a4_40 (by decide) rfl rfl rfl ?_
  refine z_iload_n (q := 42) C dJ6_bitCount_0f7a4_41 0 rfl rfl rfl ?_
  refine z_iload_n (q := 43) C dJ6_bitCount_0f7a4_42 0 rfl rfl rfl ?_
  refine z_bipush (q := 45) C dJ6_bitCount_0f7a4_43 bp_16 rfl ?_
  refine z_iushr (q := 46) C dJ6_bitCount_0f7a4_45 rfl ?_
  refine z_iadd (q := 47) C dJ6_bitCount_0f7a4_46 rfl ?_
  obtain ⟨v5, ev5, hF⟩ := zlet_e hF
  refine z_istoreE_n (q := 48) C ev5 dJ6_bitCount_0f7a4_47 (by decide) rfl rfl rfl ?_
  refine z_iload_n (q := 49) C dJ6_bitCount_0f7a4_48 0 rfl rfl rfl ?_
  refine z_bipush (q := 51) C dJ6_bitCount_0f7a4_49 bp_63 rfl ?_
  refine z_iand (q := 52) C dJ6_bitCount_0f7a4_51 rfl ?_
  subst hF
  exact z_iret C e1 e2 dJ6_bitCount_0f7a4_52
set_option maxRecDepth 20000 in
set_option maxHeartbeats 4000000 in
theorem M_fJ6_bitCount_0f7a4 {l : Launch} {D : va_G} {cy : ClassId} {α : Nat → Nat} {n : Nat} {σ : zSg} {d : Nat} (hd : 1 ≤ d) {a0 : Int} {h : zH} {r : Int} (hF : fJ6_bitCount_0f7a4 a0 = r) : zMet l yJ6_bitCount_0f7a4 cJ6_bitCount_0f7a4 1 (some .int) (zrm d) D cy α n σ [.int (zi a0)] h (some (.int (zi r))) h := by
  obtain ⟨d, rfl⟩ : ∃ e, d = e + 1 := ⟨d - 1, by omega⟩
  refine z_met (by decide +kernel) (Nat.le_of_ble_eq_true rfl) (fun κ k1 k2 k3 k4 k5 k6 k7 k8 k9 C => ?_)
  subst k1 k3 k4 k5 k6 k7
  exact J_fJ6_bitCount_0f7a4 C k2 hd k8 k9 hF
set_option maxRecDepth 20000 in
set_option maxHeartbeats 4000000 in
theorem J_fX5_joined {κ : zT} (C : zC κ RX5 cX5_joined 3 (some .long)) {d : Nat} (hR : zR κ = zrm (d + 1)) (hd : 1 ≤ d + 1) {h : zH} {r : Int} (e1 : zrv κ = some (.long (zl r))) (e2 : zhf κ = h) {a0 : Int} {a1 : Int} {a2 : Int} (hF : fX5_joined a0 a1 a2 = some r) : Z κ h 0 [(0, .int (zi a0)), (1, .int (zi a1)), (2, .int (zi a2))] [] := by
  unfold fX5_joined at hF
  refine z_iload_n (q := 1) C dX5_joined_0 0 rfl rfl rfl ?_
  by_cases c1 : zw a0 = 38
  · have hF := (if_pos c1).symm.trans hF
    refine z_lookup (off := 145) (tgt := 146) C dX5_joined_1 (by decide) (by rw [c1]; decide) (by decide) ?_
    refine z_iload_n (q := 147) C dX5_joined_146 1 rfl rfl rfl ?_
    refine z_iload_n (q := 148) C dX5_joined_147 2 rfl rfl rfl ?_
    refine z_iand (q := 149) C dX5_joined_148 rfl ?_
    refine z_i2l (q := 150) C dX5_joined_149 rfl ?_
    have hF := Option.some.inj hF
    subst hF
    exact z_lret C e1 e2 dX5_joined_150
  · have hF := (if_neg c1).symm.trans hF
    by_cases c2 : zw a0 = 42
    · have hF := (if_pos c2).symm.trans hF
      refine z_lookup (off := 93) (tgt := 94) C dX5_joined_1 (by decide) (by rw [c2]; decide) (by decide) ?_
      refine z_iload_n (q := 95) C dX5_joined_94 1 rfl rfl rfl ?_
      refine z_i2l (q := 96) C dX5_joined_95 rfl ?_
      refine z_iload_n (q := 97) C dX5_joined_96 2 rfl rfl rfl ?_
      refine z_i2l (q := 98) C dX5_joined_97 rfl ?_
      refine z_lmul (q := 99) C dX5_joined_98 rfl ?_
      have hF := Option.some.inj hF
      subst hF
      exact z_lret C e1 e2 dX5_joined_99
    · have hF := (if_neg c2).symm.trans hF
      by_cases c3 : zw a0 = 43
      · have hF := (if_pos c3).symm.trans hF
        refine z_lookup (off := 83) (tgt := 84) C dX5_joined_1 (by decide) (by rw [c3]; decide) (by decide) ?_
        refine z_iload_n (q := 85) C dX5_joined_84 1 rfl rfl rfl ?_
        refine z_iload_n (q := 86) C dX5_joined_85 2 rfl rfl rfl ?_
        refine z_iadd (q := 87) C dX5_joined_86 rfl ?_
        refine z_i2l (q := 88) C dX5_joined_87 rfl ?_
        have hF := Option.some.inj hF
        subst hF
        exact z_lret C e1 e2 dX5_joined_88
      · have hF := (if_neg c3).symm.trans hF
        by_cases c4 : zw a0 = 45
        · have hF := (if_pos c4).symm.trans hF
          refine z_lookup (off := 88) (tgt := 89) C dX5_joined_1 (by decide) (by rw [c4]; decide) (by decide) ?_
          refine z_iload_n (q := 90) C dX5_joined_89 1 rfl rfl rfl ?_
          refine z_iload_n (q := 91) C dX5_joined_90 2 rfl rfl rfl ?_
          refine z_isub (q := 92) C dX5_joined_91 rfl ?_
          refine z_i2l (q := 93) C dX5_joined_92 rfl ?_
          have hF := Option.some.inj hF
          subst hF
          exact z_lret C e1 e2 dX5_joined_93
        · have hF := (if_neg c4).symm.trans hF
          by_cases c5 : zw a0 = 47
          · have hF := (if_pos c5).symm.trans hF
            refine z_lookup (off := 99) (tgt := 100) C dX5_joined_1 (by decide) (by rw [c5]; decide) (by decide) ?_
            refine z_iload_n (q := 101) C dX5_joined_100 2 rfl rfl rfl ?_
            refine z_if_ne (tgt := 108) (q := 104) C dX5_joined_101 (by decide) rfl (fun c6 => ?_) (fun c6 => ?_)
            · have hF := (if_neg c6).symm.trans hF
              refine z_iload_n (q := 109) C dX5_joined_108 1 rfl rfl rfl ?_
              refine z_iload_n (q := 110) C dX5_joined_109 2 rfl rfl rfl ?_
              obtain ⟨g7, hF⟩ := zif_none hF
              refine z_idiv (q := 111) C g7 dX5_joined_110 rfl ?_
              refine z_i2l (q := 112) C dX5_joined_111 rfl ?_
              have hF := Option.some.inj hF
              subst hF
              exact z_lret C e1 e2 dX5_joined_112
            · have hF := (if_pos c6).symm.trans hF
              refine z_lconst (q := 105) (v := 0) C dX5_joined_104 rfl rfl ?_
              refine z_goto (q := 112) C dX5_joined_105 (by decide) ?_
              have hF := Option.some.inj hF
              subst hF
              exact z_lret C e1 e2 dX5_joined_112
          · have hF := (if_neg c5).symm.trans hF
            by_cases c8 : zw a0 = 60
            · have hF := (if_pos c8).symm.trans hF
              refine z_lookup (off := 123) (tgt := 124) C dX5_joined_1 (by decide) (by rw [c8]; decide) (by decide) ?_
              refine z_iload_n (q := 125) C dX5_joined_124 1 rfl rfl rfl ?_
              refine z_iload_n (q := 126) C dX5_joined_125 2 rfl rfl rfl ?_
              refine z_icmp_ge (tgt := 133) (q := 129) C dX5_joined_126 (by decide) rfl (fun c9 => ?_) (fun c9 => ?_)
              · have hF := (if_pos c9).symm.trans hF
                refine z_lconst (q := 134) (v := 0) C dX5_joined_133 rfl rfl ?_
                have hF := Option.some.inj hF
                subst hF
                exact z_lret C e1 e2 dX5_joined_134
              · have hF := (if_neg c9).symm.trans hF
                refine z_lconst (q := 130) (v := 1) C dX5_joined_129 rfl rfl ?_
                refine z_goto (q := 134) C dX5_joined_130 (by decide) ?_
                have hF := Option.some.inj hF
                subst hF
                exact z_lret C e1 e2 dX5_joined_134
            · have hF := (if_neg c8).symm.trans hF
              by_cases c10 : zw a0 = 61
              · have hF := (if_pos c10).symm.trans hF
                refine z_lookup (off := 112) (tgt := 113) C dX5_joined_1 (by decide) (by rw [c10]; decide) (by decide) ?_
                refine z_iload_n (q := 114) C dX5_joined_113 1 rfl rfl rfl ?_
                refine z_iload_n (q := 115) C dX5_joined_114 2 rfl rfl rfl ?_
                refine z_icmp_ne (tgt := 122) (q := 118) C dX5_joined_115 (by decide) rfl (fun c11 => ?_) (fun c11 => ?_)
                · have hF := (if_neg c11).symm.trans hF
                  refine z_lconst (q := 123) (v := 0) C dX5_joined_122 rfl rfl ?_
                  have hF := Option.some.inj hF
                  subst hF
                  exact z_lret C e1 e2 dX5_joined_123
                · have hF := (if_pos c11).symm.trans hF
                  refine z_lconst (q := 119) (v := 1) C dX5_joined_118 rfl rfl ?_
                  refine z_goto (q := 123) C dX5_joined_119 (by decide) ?_
                  have hF := Option.some.inj hF
                  subst hF
                  exact z_lret C e1 e2 dX5_joined_123
              · have hF := (if_neg c10).symm.trans hF
                by_cases c12 : zw a0 = 62
                · have hF := (if_pos c12).symm.trans hF
                  refine z_lookup (off := 134) (tgt := 135) C dX5_joined_1 (by decide) (by rw [c12]; decide) (by decide) ?_
                  refine z_iload_n (q := 136) C dX5_joined_135 1 rfl rfl rfl ?_
                  refine z_iload_n (q := 137) C dX5_joined_136 2 rfl rfl rfl ?_
                  refine z_icmp_le (tgt := 144) (q := 140) C dX5_joined_137 (by decide) rfl (fun c13 => ?_) (fun c13 => ?_)
                  · have hF := (if_pos c13).symm.trans hF
                    refine z_lconst (q := 145) (v := 0) C dX5_joined_144 rfl rfl ?_
                    have hF := Option.some.inj hF
                    subst hF
                    exact z_lret C e1 e2 dX5_joined_145
                  · have hF := (if_neg c13).symm.trans hF
                    refine z_lconst (q := 141) (v := 1) C dX5_joined_140 rfl rfl ?_
                    refine z_goto (q := 145) C dX5_joined_141 (by decide) ?_
                    have hF := Option.some.inj hF
                    subst hF
                    exact z_lret C e1 e2 dX5_joined_145
                · have hF := (if_neg c12).symm.trans hF
                  by_cases c14 : zw a0 = 124
                  · have hF := (if_pos c14).symm.trans hF
                    refine z_lookup (off := 150) (tgt := 151) C dX5_joined_1 (by decide) (by rw [c14]; decide) (by decide) ?_
                    refine z_iload_n (q := 152) C dX5_joined_151 1 rfl rfl rfl ?_
                    refine z_iload_n (q := 153) C dX5_joined_152 2 rfl rfl rfl ?_
                    refine z_ior (q := 154) C dX5_joined_153 rfl ?_
                    refine z_i2l (q := 155) C dX5_joined_154 rfl ?_
                    have hF := Option.some.inj hF
                    subst hF
                    exact z_lret C e1 e2 dX5_joined_155
                  · have hF := (if_neg c14).symm.trans hF
                    refine z_lookup (off := 155) (tgt := 156) C dX5_joined_1 (by decide) (by show Op.lookupswitch.offset [(38, 145), (42, 93), (43, 83), (45, 88), (47, 99), (60, 123), (61, 112), (62, 134), (124, 150)] _ _ = _; rw [z_osw c1, z_osw c2, z_osw c3, z_osw c4, z_osw c5, z_osw c8, z_osw c10, z_osw c12, z_osw c14]; rfl) (by decide) ?_
                    refine z_lconst (q := 157) (v := 0) C dX5_joined_156 rfl rfl ?_
                    have hF := Option.some.inj hF
                    subst hF
                    exact z_lret C e1 e2 dX5_joined_157
set_option maxRecDepth 20000 in
set_option maxHeartbeats 4000000 in
theorem M_fX5_joined {l : Launch} {D : va_G} {cy : ClassId} {α : Nat → Nat} {n : Nat} {σ : zSg} {d : Nat} (hd : 1 ≤ d) {a0 : Int} {a1 : Int} {a2 : Int} {h : zH} {r : Int} (hF : fX5_joined a0 a1 a2 = some r) : zMet l yX5_joined cX5_joined 3 (some .long) (zrm d) D cy α n σ [.int (zi a0), .int (zi a1), .int (zi a2)] h (some (.long (zl r))) h := by
  obtain ⟨d, rfl⟩ : ∃ e, d = e + 1 := ⟨d - 1, by omega⟩
  refine z_met (by decide +kernel) (Nat.le_of_ble_eq_true rfl) (fun κ k1 k2 k3 k4 k5 k6 k7 k8 k9 C => ?_)
  subst k1 k3 k4 k5 k6 k7
  exact J_fX5_joined C k2 hd k8 k9 hF
set_option maxRecDepth 20000 in
set_option maxHeartbeats 4000000 in
theorem J_fJ9_min_f86c9 {κ : zT} (C : zC κ RJ9 cJ9_min_f86c9 4 (some .long)) {d : Nat} (hR : zR κ = zrm (d + 1)) (hd : 1 ≤ d + 1) {h : zH} {r : Int} (e1 : zrv κ = some (.long (zl r))) (e2 : zhf κ = h) {a0 : Int} {a2 : Int} (hF : fJ9_min_f86c9 a0 a2 = r) : Z κ h 0 [(0, .long (zl a0)), (2, .long (zl a2))] [] := by
  unfold fJ9_min_f86c9 at hF
  refine z_lload_n (q := 1) C dJ9_min_f86c9_0 0 rfl rfl rfl ?_
  refine z_lload_n (q := 2) C dJ9_min_f86c9_1 1 rfl rfl rfl ?_
  refine z_lcmp (q := 3) C dJ9_min_f86c9_2 rfl ?_
  refine z_if_gt (tgt := 10) (q := 6) C dJ9_min_f86c9_3 (by decide) rfl (fun c1 => ?_) (fun c1 => ?_)
  · have hF := (if_pos c1).symm.trans hF
    refine z_lload_n (q := 11) C dJ9_min_f86c9_10 1 rfl rfl rfl ?_
    subst hF
    exact z_lret C e1 e2 dJ9_min_f86c9_11
  · have hF := (if_neg c1).symm.trans hF
    refine z_lload_n (q := 7) C dJ9_min_f86c9_6 0 rfl rfl rfl ?_
    refine z_goto (q := 11) C dJ9_min_f86c9_7 (by decide) ?_
    subst hF
    exact z_lret C e1 e2 dJ9_min_f86c9_11
set_option maxRecDepth 20000 in
set_option maxHeartbeats 4000000 in
theorem M_fJ9_min_f86c9 {l : Launch} {D : va_G} {cy : ClassId} {α : Nat → Nat} {n : Nat} {σ : zSg} {d : Nat} (hd : 1 ≤ d) {a0 : Int} {a2 : Int} {h : zH} {r : Int} (hF : fJ9_min_f86c9 a0 a2 = r) : zMet l yJ9_min_f86c9 cJ9_min_f86c9 4 (some .long) (zrm d) D cy α n σ [.long (zl a0), .long (zl a2)] h (some (.long (zl r))) h := by
  obtain ⟨d, rfl⟩ : ∃ e, d = e + 1 := ⟨d - 1, by omega⟩
  refine z_met (by decide +kernel) (Nat.le_of_ble_eq_true rfl) (fun κ k1 k2 k3 k4 k5 k6 k7 k8 k9 C => ?_)
  subst k1 k3 k4 k5 k6 k7
  exact J_fJ9_min_f86c9 C k2 hd k8 k9 hF
set_option maxRecDepth 20000 in
set_option maxHeartbeats 4000000 in
theorem J_fJ9_max_f86c9 {κ : zT} (C : zC κ RJ9 cJ9_max_f86c9 4 (some .long)) {d : Nat} (hR : zR κ = zrm (d + 1)) (hd : 1 ≤ d + 1) {h : zH} {r : Int} (e1 : zrv κ = some (.long (zl r))) (e2 : zhf κ = h) {a0 : Int} {a2 : Int} (hF : fJ9_max_f86c9 a0 a2 = r) : Z κ h 0 [(0, .long (zl a0)), (2, .long (zl a2))] [] := by
  unfold fJ9_max_f86c9 at hF
  refine z_lload_n (q := 1) C dJ9_max_f86c9_0 0 rfl rfl rfl ?_
  refine z_lload_n (q := 2) C dJ9_max_f86c9_1 1 rfl rfl rfl ?_
  refine z_lcmp (q := 3) C dJ9_max_f86c9_2 rfl ?_
  refine z_if_lt (tgt := 10) (q := 6) C dJ9_max_f86c9_3 (by decide) rfl (fun c1 => ?_) (fun c1 => ?_)
  · have hF := (if_pos c1).symm.trans hF
    refine z_lload_n (q := 11) C dJ9_max_f86c9_10 1 rfl rfl rfl ?_
    subst hF
    exact z_lret C e1 e2 dJ9_max_f86c9_11
  · have hF := (if_neg c1).symm.trans hF
    refine z_lload_n (q := 7) C dJ9_max_f86c9_6 0 rfl rfl rfl ?_
    refine z_goto (q := 11) C dJ9_max_f86c9_7 (by decide) ?_
    subst hF
    exact z_lret C e1 e2 dJ9_max_f86c9_11
set_option maxRecDepth 20000 in
set_option maxHeartbeats 4000000 in
theorem M_fJ9_max_f86c9 {l : Launch} {D : va_G} {cy : ClassId} {α : Nat → Nat} {n : Nat} {σ : zSg} {d : Nat} (hd : 1 ≤ d) {a0 : Int} {a2 : Int} {h : zH} {r : Int} (hF : fJ9_max_f86c9 a0 a2 = r) : zMet l yJ9_max_f86c9 cJ9_max_f86c9 4 (some .long) (zrm d) D cy α n σ [.long (zl a0), .long (zl a2)] h (some (.long (zl r))) h := by
  obtain ⟨d, rfl⟩ : ∃ e, d = e + 1 := ⟨d - 1, by omega⟩
  refine z_met (by decide +kernel) (Nat.le_of_ble_eq_true rfl) (fun κ k1 k2 k3 k4 k5 k6 k7 k8 k9 C => ?_)
  subst k1 k3 k4 k5 k6 k7
  exact J_fJ9_max_f86c9 C k2 hd k8 k9 hF
set_option maxRecDepth 20000 in
set_option maxHeartbeats 4000000 in
theorem J_fX5_compute {κ : zT} (C : zC κ RX5 cX5_compute 5 none) {d : Nat} (hR : zR κ = zrm (d + 1)) (hd : 2 ≤ d + 1) {o2 : Nat} (ho2 : o2 < zN) (hd2 : zkd o2 = 100) {r : zH} (e1 : zrv κ = none) (e2 : zhf κ = r) {a1 : Int} {h : zH} (hF : fX5_compute o2 a1 h = some r) : Z κ h 0 [(0, .ref (zα κ 5)), (1, .int (zi a1)), (2, .ref (zα κ o2))] [] := by
  unfold fX5_compute at hF
  refine z_iload_n (q := 1) C dX5_compute_0 1 rfl rfl rfl ?_
  refine z_sipush (q := 4) C dX5_compute_1 sp_10000 rfl ?_
  refine z_icmp_lt (tgt := 40) (q := 7) C dX5_compute_4 (by decide) rfl (fun c1 => ?_) (fun c1 => ?_)
  · have hF := (if_pos c1).symm.trans hF
    refine z_iload_n (q := 41) C dX5_compute_40 1 rfl rfl rfl ?_
    refine z_if_lt (tgt := 69) (q := 44) C dX5_compute_41 (by decide) rfl (fun c2 => ?_) (fun c2 => ?_)
    · have hF := (if_pos c2).symm.trans hF
      refine z_iload_n (q := 70) C dX5_compute_69 1 rfl rfl rfl ?_
      refine z_bipush (q := 72) C dX5_compute_70 bp_m33 rfl ?_
      refine z_icmp_ne (tgt := 112) (q := 75) C dX5_compute_72 (by decide) rfl (fun c3 => ?_) (fun c3 => ?_)
      · have hF := (if_neg c3).symm.trans hF
        refine z_aload_n (q := 113) C dX5_compute_112 0 rfl rfl rfl ?_
        refine z_dup (q := 114) C dX5_compute_113 rfl rfl ?_
        refine z_getf (q := 117) C clX5 (zon C zo_5) kd_5 (k := 5) (by decide) q_138 rfl (zfv_i kd_5 rfl) dX5_compute_114 rfl ?_
        refine z_iconst (q := 118) C dX5_compute_117 rfl ?_
        refine z_isub (q := 119) C dX5_compute_118 rfl ?_
        obtain ⟨h7, eh7, hF⟩ := zlet_e hF
        refine z_putf (q := 122) C clX5 (zon C zo_5) kd_5 (k := 5) (x := (h 5 5) - 1) (by decide) q_138 rfl rfl rfl rfl (((zfv_i kd_5 rfl)).trans (by rw [if_pos rfl])) dX5_compute_119 rfl eh7 ?_
        refine z_iload_n (q := 123) C dX5_compute_122 1 rfl rfl rfl ?_
        refine z_ineg (q := 124) C dX5_compute_123 rfl ?_
        refine z_aload_n (q := 125) C dX5_compute_124 0 rfl rfl rfl ?_
        refine z_getf (q := 128) C clX5 (zon C zo_5) kd_5 (k := 4) (by decide) q_137 rfl (zfv_r kd_5 rfl fr_5_4) dX5_compute_125 rfl ?_
        refine z_aload_n (q := 129) C dX5_compute_128 0 rfl rfl rfl ?_
        refine z_getf (q := 132) C clX5 (zon C zo_5) kd_5 (k := 5) (by decide) q_138 rfl (zfv_i kd_5 rfl) dX5_compute_129 rfl ?_
        refine z_iconst (q := 133) C dX5_compute_132 rfl ?_
        refine z_isub (q := 134) C dX5_compute_133 rfl ?_
        refine z_callSN (q := 137) (av := [.ref (zα κ 26), .int (zi ((h7 5 5) - 1))]) (rest := [.int (zi (-a1))]) (stk2 := [.int (zi (fX10_at 26 ((h7 5 5) - 1) h7)), .int (zi (-a1))]) C hR (M_fX10_at (zlv hd rfl) zo_26 kd_26 rfl) mY_X10_at q_575 (Nat.le_of_ble_eq_true rfl) dX5_compute_134 rfl rfl rfl ?_
        refine z_aload_n (q := 138) C dX5_compute_137 0 rfl rfl rfl ?_
        refine z_getf (q := 141) C clX5 (zon C zo_5) kd_5 (k := 4) (by decide) q_137 rfl (zfv_r kd_5 rfl fr_5_4) dX5_compute_138 rfl ?_
        refine z_aload_n (q := 142) C dX5_compute_141 0 rfl rfl rfl ?_
        refine z_getf (q := 145) C clX5 (zon C zo_5) kd_5 (k := 5) (by decide) q_138 rfl (zfv_i kd_5 rfl) dX5_compute_142 rfl ?_
        refine z_callSN (q := 148) (av := [.ref (zα κ 26), .int (zi (h7 5 5))]) (rest := [.int (zi (fX10_at 26 ((h7 5 5) - 1) h7)), .int (zi (-a1))]) (stk2 := [.int (zi (fX10_at 26 (h7 5 5) h7)), .int (zi (fX10_at 26 ((h7 5 5) - 1) h7)), .int (zi (-a1))]) C hR (M_fX10_at (zlv hd rfl) zo_26 kd_26 rfl) mY_X10_at q_575 (Nat.le_of_ble_eq_true rfl) dX5_compute_145 rfl rfl rfl ?_
        obtain ⟨v8, ev8, hF⟩ := zb_e hF
        refine z_callS (q := 151) (av := [.int (zi (-a1)), .int (zi (fX10_at 26 ((h7 5 5) - 1) h7)), .int (zi (fX10_at 26 (h7 5 5) h7))]) (rest := []) (stk2 := [.long (zl v8)]) C hR (M_fX5_joined (zlv hd rfl) ev8) mY_X5_joined q_759 (Nat.le_of_ble_eq_true rfl) dX5_compute_148 rfl rfl rfl ?_
        refine z_lstore_n (q := 152) C dX5_compute_151 (by decide) rfl rfl rfl ?_
        refine z_aload_n (q := 153) C dX5_compute_152 1 rfl rfl rfl ?_
        refine z_getf (q := 156) C clX5 (zon C zo_5) kd_5 (k := 4) (by decide) q_137 rfl (zfv_r kd_5 rfl fr_5_4) dX5_compute_153 rfl ?_
        refine z_aload_n (q := 157) C dX5_compute_156 1 rfl rfl rfl ?_
        refine z_getf (q := 160) C clX5 (zon C zo_5) kd_5 (k := 5) (by decide) q_138 rfl (zfv_i kd_5 rfl) dX5_compute_157 rfl ?_
        refine z_iconst (q := 161) C dX5_compute_160 rfl ?_
        refine z_isub (q := 162) C dX5_compute_161 rfl ?_
        refine z_ldc2 (q := 165) C kc_RX5_55 dX5_compute_162 rfl ?_
        refine z_ldc2 (q := 168) C kc_RX5_57 dX5_compute_165 rfl ?_
        refine z_lload_n (q := 169) C dX5_compute_168 0 rfl rfl rfl ?_
        refine z_callS (q := 172) (av := [.long (zl 1000000), .long (zl v8)]) (rest := [.long (zl (-1000000)), .int (zi ((h7 5 5) - 1)), .ref (zα κ 26)]) (stk2 := [.long (zl (fJ9_min_f86c9 1000000 v8)), .long (zl (-1000000)), .int (zi ((h7 5 5) - 1)), .ref (zα κ 26)]) C hR (M_fJ9_min_f86c9 (zlv hd rfl) rfl) mY_J9_min_f86c9 q_764 (Nat.le_of_ble_eq_true rfl) dX5_compute_169 rfl rfl rfl ?_
        obtain ⟨v9, ev9, hF⟩ := zlet_e hF
        refine z_callS (q := 175) (av := [.long (zl (-1000000)), .long (zl (fJ9_min_f86c9 1000000 v8))]) (rest := [.int (zi ((h7 5 5) - 1)), .ref (zα κ 26)]) (stk2 := [.long (zl v9), .int (zi ((h7 5 5) - 1)), .ref (zα κ 26)]) C hR (M_fJ9_max_f86c9 (zlv hd rfl) ev9.symm) mY_J9_max_f86c9 q_767 (Nat.le_of_ble_eq_true rfl) dX5_compute_172 rfl rfl rfl ?_
        refine z_l2i (q := 176) C dX5_compute_175 rfl ?_
        obtain ⟨h10, eh10, hF⟩ := zlet_e hF
        refine z_callSN (q := 179) (av := [.ref (zα κ 26), .int (zi ((h7 5 5) - 1)), .int (zi (zl2i v9))]) (rest := []) (stk2 := []) C hR (M_fX10_put (zlv hd rfl) zo_26 kd_26 eh10.symm) mY_X10_put q_576 (Nat.le_of_ble_eq_true rfl) dX5_compute_176 rfl rfl rfl ?_
        have hF := Option.some.inj hF
        subst hF
        exact z_vret C e1 e2 dX5_compute_179
      · have hF := (if_pos c3).symm.trans hF
        refine z_aload_n (q := 76) C dX5_compute_75 0 rfl rfl rfl ?_
        refine z_getf (q := 79) C clX5 (zon C zo_5) kd_5 (k := 4) (by decide) q_137 rfl (zfv_r kd_5 rfl fr_5_4) dX5_compute_76 rfl ?_
        refine z_aload_n (q := 80) C dX5_compute_79 0 rfl rfl rfl ?_
        refine z_getf (q := 83) C clX5 (zon C zo_5) kd_5 (k := 5) (by decide) q_138 rfl (zfv_i kd_5 rfl) dX5_compute_80 rfl ?_
        refine z_iconst (q := 84) C dX5_compute_83 rfl ?_
        refine z_isub (q := 85) C dX5_compute_84 rfl ?_
        refine z_aload_n (q := 86) C dX5_compute_85 0 rfl rfl rfl ?_
        refine z_getf (q := 89) C clX5 (zon C zo_5) kd_5 (k := 4) (by decide) q_137 rfl (zfv_r kd_5 rfl fr_5_4) dX5_compute_86 rfl ?_
        refine z_aload_n (q := 90) C dX5_compute_89 0 rfl rfl rfl ?_
        refine z_getf (q := 93) C clX5 (zon C zo_5) kd_5 (k := 5) (by decide) q_138 rfl (zfv_i kd_5 rfl) dX5_compute_90 rfl ?_
        refine z_iconst (q := 94) C dX5_compute_93 rfl ?_
        refine z_isub (q := 95) C dX5_compute_94 rfl ?_
        refine z_callSN (q := 98) (av := [.ref (zα κ 26), .int (zi ((h 5 5) - 1))]) (rest := [.int (zi ((h 5 5) - 1)), .ref (zα κ 26)]) (stk2 := [.int (zi (fX10_at 26 ((h 5 5) - 1) h)), .int (zi ((h 5 5) - 1)), .ref (zα κ 26)]) C hR (M_fX10_at (zlv hd rfl) zo_26 kd_26 rfl) mY_X10_at q_575 (Nat.le_of_ble_eq_true rfl) dX5_compute_95 rfl rfl rfl ?_
        refine z_if_ne (tgt := 105) (q := 101) C dX5_compute_98 (by decide) rfl (fun c4 => ?_) (fun c4 => ?_)
        · have hF := (if_neg c4).symm.trans hF
          refine z_iconst (q := 106) C dX5_compute_105 rfl ?_
          obtain ⟨h6, eh6, hF⟩ := zlet_e hF
          refine z_callSN (q := 109) (av := [.ref (zα κ 26), .int (zi ((h 5 5) - 1)), .int (zi 0)]) (rest := []) (stk2 := []) C hR (M_fX10_put (zlv hd rfl) zo_26 kd_26 eh6.symm) mY_X10_put q_576 (Nat.le_of_ble_eq_true rfl) dX5_compute_106 rfl rfl rfl ?_
          refine z_goto (q := 179) C dX5_compute_109 (by decide) ?_
          have hF := Option.some.inj hF
          subst hF
          exact z_vret C e1 e2 dX5_compute_179
        · have hF := (if_pos c4).symm.trans hF
          refine z_iconst (q := 102) C dX5_compute_101 rfl ?_
          refine z_goto (q := 106) C dX5_compute_102 (by decide) ?_
          obtain ⟨h5, eh5, hF⟩ := zlet_e hF
          refine z_callSN (q := 109) (av := [.ref (zα κ 26), .int (zi ((h 5 5) - 1)), .int (zi 1)]) (rest := []) (stk2 := []) C hR (M_fX10_put (zlv hd rfl) zo_26 kd_26 eh5.symm) mY_X10_put q_576 (Nat.le_of_ble_eq_true rfl) dX5_compute_106 rfl rfl rfl ?_
          refine z_goto (q := 179) C dX5_compute_109 (by decide) ?_
          have hF := Option.some.inj hF
          subst hF
          exact z_vret C e1 e2 dX5_compute_179
    · have hF := (if_neg c2).symm.trans hF
      refine z_aload_n (q := 45) C dX5_compute_44 0 rfl rfl rfl ?_
      refine z_getf (q := 48) C clX5 (zon C zo_5) kd_5 (k := 4) (by decide) q_137 rfl (zfv_r kd_5 rfl fr_5_4) dX5_compute_45 rfl ?_
      refine z_aload_n (q := 49) C dX5_compute_48 0 rfl rfl rfl ?_
      refine z_getf (q := 52) C clX5 (zon C zo_5) kd_5 (k := 5) (by decide) q_138 rfl (zfv_i kd_5 rfl) dX5_compute_49 rfl ?_
      refine z_iload_n (q := 53) C dX5_compute_52 1 rfl rfl rfl ?_
      obtain ⟨h11, eh11, hF⟩ := zlet_e hF
      refine z_callSN (q := 56) (av := [.ref (zα κ 26), .int (zi (h 5 5)), .int (zi a1)]) (rest := []) (stk2 := []) C hR (M_fX10_put (zlv hd rfl) zo_26 kd_26 eh11.symm) mY_X10_put q_576 (Nat.le_of_ble_eq_true rfl) dX5_compute_53 rfl rfl rfl ?_
      refine z_aload_n (q := 57) C dX5_compute_56 0 rfl rfl rfl ?_
      refine z_dup (q := 58) C dX5_compute_57 rfl rfl ?_
      refine z_getf (q := 61) C clX5 (zon C zo_5) kd_5 (k := 5) (by decide) q_138 rfl (zfv_i kd_5 rfl) dX5_compute_58 rfl ?_
      refine z_iconst (q := 62) C dX5_compute_61 rfl ?_
      refine z_iadd (q := 63) C dX5_compute_62 rfl ?_
      obtain ⟨h12, eh12, hF⟩ := zlet_e hF
      refine z_putf (q := 66) C clX5 (zon C zo_5) kd_5 (k := 5) (x := (h11 5 5) + 1) (by decide) q_138 rfl rfl rfl rfl (((zfv_i kd_5 rfl)).trans (by rw [if_pos rfl])) dX5_compute_63 rfl eh12 ?_
      refine z_goto (q := 179) C dX5_compute_66 (by decide) ?_
      have hF := Option.some.inj hF
      subst hF
      exact z_vret C e1 e2 dX5_compute_179
  · have hF := (if_neg c1).symm.trans hF
    refine z_aload_n (q := 8) C dX5_compute_7 0 rfl rfl rfl ?_
    refine z_getf (q := 11) C clX5 (zon C zo_5) kd_5 (k := 4) (by decide) q_137 rfl (zfv_r kd_5 rfl fr_5_4) dX5_compute_8 rfl ?_
    refine z_aload_n (q := 12) C dX5_compute_11 0 rfl rfl rfl ?_
    refine z_getf (q := 15) C clX5 (zon C zo_5) kd_5 (k := 5) (by decide) q_138 rfl (zfv_i kd_5 rfl) dX5_compute_12 rfl ?_
    refine z_aload_n (q := 16) C dX5_compute_15 2 rfl rfl rfl ?_
    refine z_iload_n (q := 17) C dX5_compute_16 1 rfl rfl rfl ?_
    refine z_sipush (q := 20) C dX5_compute_17 sp_10000 rfl ?_
    refine z_isub (q := 21) C dX5_compute_20 rfl ?_
    refine z_callSN (q := 24) (av := [.ref (zα κ o2), .int (zi (a1 - 10000))]) (rest := [.int (zi (h 5 5)), .ref (zα κ 26)]) (stk2 := [.int (zi (fX10_at o2 (a1 - 10000) h)), .int (zi (h 5 5)), .ref (zα κ 26)]) C hR (M_fX10_at (zlv hd rfl) ho2 hd2 rfl) mY_X10_at q_575 (Nat.le_of_ble_eq_true rfl) dX5_compute_21 rfl rfl rfl ?_
    obtain ⟨h13, eh13, hF⟩ := zlet_e hF
    refine z_callSN (q := 27) (av := [.ref (zα κ 26), .int (zi (h 5 5)), .int (zi (fX10_at o2 (a1 - 10000) h))]) (rest := []) (stk2 := []) C hR (M_fX10_put (zlv hd rfl) zo_26 kd_26 eh13.symm) mY_X10_put q_576 (Nat.le_of_ble_eq_true rfl) dX5_compute_24 rfl rfl rfl ?_
    refine z_aload_n (q := 28) C dX5_compute_27 0 rfl rfl rfl ?_
    refine z_dup (q := 29) C dX5_compute_28 rfl rfl ?_
    refine z_getf (q := 32) C clX5 (zon C zo_5) kd_5 (k := 5) (by decide) q_138 rfl (zfv_i kd_5 rfl) dX5_compute_29 rfl ?_
    refine z_iconst (q := 33) C dX5_compute_32 rfl ?_
    refine z_iadd (q := 34) C dX5_compute_33 rfl ?_
    obtain ⟨h14, eh14, hF⟩ := zlet_e hF
    refine z_putf (q := 37) C clX5 (zon C zo_5) kd_5 (k := 5) (x := (h13 5 5) + 1) (by decide) q_138 rfl rfl rfl rfl (((zfv_i kd_5 rfl)).trans (by rw [if_pos rfl])) dX5_compute_34 rfl eh14 ?_
    refine z_goto (q := 179) C dX5_compute_37 (by decide) ?_
    have hF := Option.some.inj hF
    subst hF
    exact z_vret C e1 e2 dX5_compute_179
set_option maxRecDepth 20000 in
set_option maxHeartbeats 4000000 in
theorem M_fX5_compute {l : Launch} {D : va_G} {cy : ClassId} {α : Nat → Nat} {n : Nat} {σ : zSg} {d : Nat} (hd : 2 ≤ d) {o2 : Nat} (ho2 : o2 < zN) (hd2 : zkd o2 = 100) {a1 : Int} {h : zH} {g : zH} (hF : fX5_compute o2 a1 h = some g) : zMet l yX5_compute cX5_compute 5 none (zrm d) D cy α n σ [.ref (α 5), .int (zi a1), .ref (α o2)] h (none) g := by
  obtain ⟨d, rfl⟩ : ∃ e, d = e + 1 := ⟨d - 1, by omega⟩
  refine z_met (by decide +kernel) (Nat.le_of_ble_eq_true rfl) (fun κ k1 k2 k3 k4 k5 k6 k7 k8 k9 C => ?_)
  subst k1 k3 k4 k5 k6 k7
  exact J_fX5_compute C k2 hd ho2 hd2 k8 k9 hF
set_option maxRecDepth 20000 in
set_option maxHeartbeats 4000000 in
theorem J_fX5_worth_c9b {κ : zT} (C : zC κ RX5 cX5_worth 5 (some .int)) {d : Nat} (hR : zR κ = zrm (d + 1)) (hd : 3 ≤ d + 1) {N : Nat} {o1 : Nat} (ho1 : o1 < zN) (hd1 : zkd o1 = 100) {r : Int × zH} (e1 : zrv κ = some (.int (zi r.1))) (e2 : zhf κ = r.2) {K9 : Int → Int → zH → Option (Int × zH)} (hK9 : ∀ (l2 : Int) (l3 : Int) (h : zH), K9 l2 l3 h = some r → Z κ h 9 [(0, .ref (zα κ 5)), (1, .ref (zα κ o1)), (2, .int (zi l2)), (3, .int (zi l3))] []) (l2 : Int) (l3 : Int) (h : zH) (hF : fX5_worth_c9b N o1 K9 l2 l3 h = some r) : Z κ h 9 [(0, .ref (zα κ 5)), (1, .ref (zα κ o1)), (2, .int (zi l2)), (3, .int (zi l3))] [] := by
  unfold fX5_worth_c9b at hF
  refine z_iload_n (q := 10) C dX5_worth_9 3 rfl rfl rfl ?_
  refine z_aload_n (q := 11) C dX5_worth_10 0 rfl rfl rfl ?_
  refine z_getf (q := 14) C clX5 (zon C zo_5) kd_5 (k := 3) (by decide) q_136 rfl (zfv_r kd_5 rfl fr_5_3) dX5_worth_11 rfl ?_
  refine z_aload_n (q := 15) C dX5_worth_14 0 rfl rfl rfl ?_
  refine z_getf (q := 18) C clX5 (zon C zo_5) kd_5 (k := 1) (by decide) q_132 rfl (zfv_i kd_5 rfl) dX5_worth_15 rfl ?_
  refine z_callSN (q := 21) (av := [.ref (zα κ 25), .int (zi (h 5 1))]) (rest := [.int (zi l3)]) (stk2 := [.int (zi (fX10_at 25 (h 5 1) h)), .int (zi l3)]) C hR (M_fX10_at (zlv hd rfl) zo_25 kd_25 rfl) mY_X10_at q_575 (Nat.le_of_ble_eq_true rfl) dX5_worth_18 rfl rfl rfl ?_
  refine z_icmp_ge (tgt := 137) (q := 24) C dX5_worth_21 (by decide) rfl (fun c1 => ?_) (fun c1 => ?_)
  · have hF := (if_pos c1).symm.trans hF
    refine z_iconst (q := 138) C dX5_worth_137 rfl ?_
    have hF := Option.some.inj hF
    subst hF
    exact z_iret C e1 e2 dX5_worth_138
  · have hF := (if_neg c1).symm.trans hF
    refine z_aload_n (q := 25) C dX5_worth_24 0 rfl rfl rfl ?_
    refine z_getf (q := 28) C clX5 (zon C zo_5) kd_5 (k := 2) (by decide) q_135 rfl (zfv_r kd_5 rfl fr_5_2) dX5_worth_25 rfl ?_
    refine z_aload_n (q := 29) C dX5_worth_28 0 rfl rfl rfl ?_
    refine z_getf (q := 32) C clX5 (zon C zo_5) kd_5 (k := 1) (by decide) q_132 rfl (zfv_i kd_5 rfl) dX5_worth_29 rfl ?_
    refine z_sipush (q := 35) C dX5_worth_32 sp_240 rfl ?_
    refine z_imul (q := 36) C dX5_worth_35 rfl ?_
    refine z_iload_n (q := 37) C dX5_worth_36 3 rfl rfl rfl ?_
    refine z_iadd (q := 38) C dX5_worth_37 rfl ?_
    refine z_callSN (q := 41) (av := [.ref (zα κ 24), .int (zi (((h 5 1) * 240) + l3))]) (rest := []) (stk2 := [.int (zi (fX10_at 24 (((h 5 1) * 240) + l3) h))]) C hR (M_fX10_at (zlv hd rfl) zo_24 kd_24 rfl) mY_X10_at q_575 (Nat.le_of_ble_eq_true rfl) dX5_worth_38 rfl rfl rfl ?_
    obtain ⟨v2, ev2, hF⟩ := zlet_e hF
    refine z_istoreE (q := 43) C ev2 dX5_worth_41 (by decide) rfl rfl ?_
    refine z_iload_n (q := 44) C dX5_worth_43 3 rfl rfl rfl ?_
    refine z_if_eq (tgt := 63) (q := 47) C dX5_worth_44 (by decide) rfl (fun c3 => ?_) (fun c3 => ?_)
    · have hF := (if_pos c3).symm.trans hF
      refine z_iload (q := 65) C dX5_worth_63 0 rfl rfl ?_
      refine z_bipush (q := 67) C dX5_worth_65 bp_m59 rfl ?_
      refine z_icmp_ne (tgt := 84) (q := 70) C dX5_worth_67 (by decide) rfl (fun c4 => ?_) (fun c4 => ?_)
      · have hF := (if_neg c4).symm.trans hF
        refine z_iload (q := 86) C dX5_worth_84 0 rfl rfl ?_
        refine z_bipush (q := 88) C dX5_worth_86 bp_m63 rfl ?_
        refine z_icmp_ne (tgt := 124) (q := 91) C dX5_worth_88 (by decide) rfl (fun c5 => ?_) (fun c5 => ?_)
        · have hF := (if_neg c5).symm.trans hF
          refine z_aload_n (q := 125) C dX5_worth_124 1 rfl rfl rfl ?_
          refine z_iload (q := 127) C dX5_worth_125 0 rfl rfl ?_
          refine z_aload_n (q := 128) C dX5_worth_127 2 rfl rfl rfl ?_
          obtain ⟨h8, eh8, hF⟩ := zb_e hF
          refine z_callV (q := 131) (o := 5) (av := [.int (zi v2), .ref (zα κ o1)]) (rest := []) (stk2 := []) C hR clX5 (zon C zo_5) kd_5 (M_fX5_compute (zlv hd rfl) ho1 hd1 eh8) mY_X5_compute q_755 (Nat.le_of_ble_eq_true rfl) dX5_worth_128 rfl rfl rfl ?_
          refine z_iinc (q := 134) (x := l3) C dX5_worth_131 (j := 4) rfl (by decide) rfl rfl ?_
          refine z_goto (q := 9) C dX5_worth_134 (by decide) ?_
          exact z_sub (hK9 _ _ _ hF) [2, 3, 4, 0] rfl
        · have hF := (if_pos c5).symm.trans hF
          refine z_aload_n (q := 92) C dX5_worth_91 1 rfl rfl rfl ?_
          refine z_dup (q := 93) C dX5_worth_92 rfl rfl ?_
          refine z_getf (q := 96) C clX5 (zon C zo_5) kd_5 (k := 5) (by decide) q_138 rfl (zfv_i kd_5 rfl) dX5_worth_93 rfl ?_
          refine z_iconst (q := 97) C dX5_worth_96 rfl ?_
          refine z_isub (q := 98) C dX5_worth_97 rfl ?_
          obtain ⟨h6, eh6, hF⟩ := zlet_e hF
          refine z_putf (q := 101) C clX5 (zon C zo_5) kd_5 (k := 5) (x := (h 5 5) - 1) (by decide) q_138 rfl rfl rfl rfl (((zfv_i kd_5 rfl)).trans (by rw [if_pos rfl])) dX5_worth_98 rfl eh6 ?_
          refine z_aload_n (q := 102) C dX5_worth_101 1 rfl rfl rfl ?_
          refine z_getf (q := 105) C clX5 (zon C zo_5) kd_5 (k := 4) (by decide) q_137 rfl (zfv_r kd_5 rfl fr_5_4) dX5_worth_102 rfl ?_
          refine z_aload_n (q := 106) C dX5_worth_105 1 rfl rfl rfl ?_
          refine z_getf (q := 109) C clX5 (zon C zo_5) kd_5 (k := 5) (by decide) q_138 rfl (zfv_i kd_5 rfl) dX5_worth_106 rfl ?_
          refine z_callSN (q := 112) (av := [.ref (zα κ 26), .int (zi (h6 5 5))]) (rest := []) (stk2 := [.int (zi (fX10_at 26 (h6 5 5) h6))]) C hR (M_fX10_at (zlv hd rfl) zo_26 kd_26 rfl) mY_X10_at q_575 (Nat.le_of_ble_eq_true rfl) dX5_worth_109 rfl rfl rfl ?_
          refine z_if_ne (tgt := 119) (q := 115) C dX5_worth_112 (by decide) rfl (fun c7 => ?_) (fun c7 => ?_)
          · have hF := (if_neg c7).symm.trans hF
            refine z_iconst (q := 120) C dX5_worth_119 rfl ?_
            refine z_istore_n (q := 121) C dX5_worth_120 (by decide) rfl rfl rfl ?_
            refine z_goto (q := 131) C dX5_worth_121 (by decide) ?_
            refine z_iinc (q := 134) (x := l3) C dX5_worth_131 (j := 4) rfl (by decide) rfl rfl ?_
            refine z_goto (q := 9) C dX5_worth_134 (by decide) ?_
            exact z_sub (hK9 _ _ _ hF) [3, 4, 1, 0] rfl
          · have hF := (if_pos c7).symm.trans hF
            refine z_iconst (q := 116) C dX5_worth_115 rfl ?_
            refine z_goto (q := 120) C dX5_worth_116 (by decide) ?_
            refine z_istore_n (q := 121) C dX5_worth_120 (by decide) rfl rfl rfl ?_
            refine z_goto (q := 131) C dX5_worth_121 (by decide) ?_
            refine z_iinc (q := 134) (x := l3) C dX5_worth_131 (j := 4) rfl (by decide) rfl rfl ?_
            refine z_goto (q := 9) C dX5_worth_134 (by decide) ?_
            exact z_sub (hK9 _ _ _ hF) [3, 4, 1, 0] rfl
      · have hF := (if_pos c4).symm.trans hF
        refine z_aload_n (q := 71) C dX5_worth_70 1 rfl rfl rfl ?_
        refine z_getf (q := 74) C clX5 (zon C zo_5) kd_5 (k := 4) (by decide) q_137 rfl (zfv_r kd_5 rfl fr_5_4) dX5_worth_71 rfl ?_
        refine z_aload_n (q := 75) C dX5_worth_74 1 rfl rfl rfl ?_
        refine z_getf (q := 78) C clX5 (zon C zo_5) kd_5 (k := 5) (by decide) q_138 rfl (zfv_i kd_5 rfl) dX5_worth_75 rfl ?_
        refine z_iconst (q := 79) C dX5_worth_78 rfl ?_
        refine z_isub (q := 80) C dX5_worth_79 rfl ?_
        refine z_callSN (q := 83) (av := [.ref (zα κ 26), .int (zi ((h 5 5) - 1))]) (rest := []) (stk2 := [.int (zi (fX10_at 26 ((h 5 5) - 1) h))]) C hR (M_fX10_at (zlv hd rfl) zo_26 kd_26 rfl) mY_X10_at q_575 (Nat.le_of_ble_eq_true rfl) dX5_worth_80 rfl rfl rfl ?_
        have hF := Option.some.inj hF
        subst hF
        exact z_iret C e1 e2 dX5_worth_83
    · have hF := (if_neg c3).symm.trans hF
      refine z_iload (q := 49) C dX5_worth_47 0 rfl rfl ?_
      refine z_bipush (q := 51) C dX5_worth_49 bp_m59 rfl ?_
      refine z_icmp_eq (tgt := 58) (q := 54) C dX5_worth_51 (by decide) rfl (fun c9 => ?_) (fun c9 => ?_)
      · have hF := (if_pos c9).symm.trans hF
        refine z_iconst (q := 59) C dX5_worth_58 rfl ?_
        refine z_istore_n (q := 60) C dX5_worth_59 (by decide) rfl rfl rfl ?_
        refine z_goto (q := 131) C dX5_worth_60 (by decide) ?_
        refine z_iinc (q := 134) (x := l3) C dX5_worth_131 (j := 4) rfl (by decide) rfl rfl ?_
        refine z_goto (q := 9) C dX5_worth_134 (by decide) ?_
        exact z_sub (hK9 _ _ _ hF) [3, 4, 1, 0] rfl
      · have hF := (if_neg c9).symm.trans hF
        refine z_iconst (q := 55) C dX5_worth_54 rfl ?_
        refine z_goto (q := 59) C dX5_worth_55 (by decide) ?_
        refine z_istore_n (q := 60) C dX5_worth_59 (by decide) rfl rfl rfl ?_
        refine z_goto (q := 131) C dX5_worth_60 (by decide) ?_
        refine z_iinc (q := 134) (x := l3) C dX5_worth_131 (j := 4) rfl (by decide) rfl rfl ?_
        refine z_goto (q := 9) C dX5_worth_134 (by decide) ?_
        exact z_sub (hK9 _ _ _ hF) [3, 4, 1, 0] rfl
set_option maxRecDepth 20000 in
set_option maxHeartbeats 4000000 in
theorem J_fX5_worth_c9 {κ : zT} (C : zC κ RX5 cX5_worth 5 (some .int)) {d : Nat} (hR : zR κ = zrm (d + 1)) (hd : 3 ≤ d + 1) {N : Nat} {o1 : Nat} (ho1 : o1 < zN) (hd1 : zkd o1 = 100) {r : Int × zH} (e1 : zrv κ = some (.int (zi r.1))) (e2 : zhf κ = r.2) : ∀ (k : Nat) (l2 : Int) (l3 : Int) (h : zH), fX5_worth_c9 N o1 k l2 l3 h = some r → Z κ h 9 [(0, .ref (zα κ 5)), (1, .ref (zα κ o1)), (2, .int (zi l2)), (3, .int (zi l3))] [] := by
  intro k
  induction k with
  | zero => intro l2 l3 h hF; cases hF
  | succ k ih => intro l2 l3 h hF; exact J_fX5_worth_c9b C hR hd ho1 hd1 e1 e2 ih l2 l3 h hF
set_option maxRecDepth 20000 in
set_option maxHeartbeats 4000000 in
theorem J_fX5_worth {κ : zT} (C : zC κ RX5 cX5_worth 5 (some .int)) {d : Nat} (hR : zR κ = zrm (d + 1)) (hd : 3 ≤ d + 1) {N : Nat} {o1 : Nat} (ho1 : o1 < zN) (hd1 : zkd o1 = 100) {r : Int × zH} (e1 : zrv κ = some (.int (zi r.1))) (e2 : zhf κ = r.2) {h : zH} (hF : fX5_worth N o1 h = some r) : Z κ h 0 [(0, .ref (zα κ 5)), (1, .ref (zα κ o1))] [] := by
  unfold fX5_worth at hF
  refine z_iconst (q := 1) C dX5_worth_0 rfl ?_
  refine z_istore_n (q := 2) C dX5_worth_1 (by decide) rfl rfl rfl ?_
  refine z_aload_n (q := 3) C dX5_worth_2 1 rfl rfl rfl ?_
  refine z_iconst (q := 4) C dX5_worth_3 rfl ?_
  obtain ⟨h1, eh1, hF⟩ := zlet_e hF
  refine z_putf (q := 7) C clX5 (zon C zo_5) kd_5 (k := 5) (x := 0) (by decide) q_138 rfl rfl rfl rfl (((zfv_i kd_5 rfl)).trans (by rw [if_pos rfl])) dX5_worth_4 rfl eh1 ?_
  refine z_iconst (q := 8) C dX5_worth_7 rfl ?_
  refine z_istore_n (q := 9) C dX5_worth_8 (by decide) rfl rfl rfl ?_
  exact z_sub (J_fX5_worth_c9 C hR hd ho1 hd1 e1 e2 N _ _ _ hF) [2, 3, 1, 0] rfl
set_option maxRecDepth 20000 in
set_option maxHeartbeats 4000000 in
theorem M_fX5_worth {l : Launch} {D : va_G} {cy : ClassId} {α : Nat → Nat} {n : Nat} {σ : zSg} {d : Nat} (hd : 3 ≤ d) {N : Nat} {o1 : Nat} (ho1 : o1 < zN) (hd1 : zkd o1 = 100) {h : zH} {r : Int} {g : zH} (hF : fX5_worth N o1 h = some (r, g)) : zMet l yX5_worth cX5_worth 5 (some .int) (zrm d) D cy α n σ [.ref (α 5), .ref (α o1)] h (some (.int (zi r))) g := by
  obtain ⟨d, rfl⟩ : ∃ e, d = e + 1 := ⟨d - 1, by omega⟩
  refine z_met (by decide +kernel) (Nat.le_of_ble_eq_true rfl) (fun κ k1 k2 k3 k4 k5 k6 k7 k8 k9 C => ?_)
  subst k1 k3 k4 k5 k6 k7
  exact J_fX5_worth C k2 hd ho1 hd1 k8 k9 hF
set_option maxRecDepth 20000 in
set_option maxHeartbeats 4000000 in
theorem J_fX8_decide {κ : zT} (C : zC κ RX8 cX8_decide 7 none) {d : Nat} (hR : zR κ = zrm (d + 1)) (hd : 4 ≤ d + 1) {N : Nat} {o0 : Nat} (ho0 : o0 < zN) (hd0 : zkd o0 = 8) {o1 : Nat} (ho1 : o1 < zN) (hd1 : zkd o1 = 1) {r : zH} (e1 : zrv κ = none) (e2 : zhf κ = r) {a3 : Int} {a4 : Int} {h : zH} (hF : fX8_decide N o0 o1 a3 a4 h = some r) : Z κ h 0 [(0, .ref (zα κ o0)), (1, .ref (zα κ o1)), (2, .ref (zα κ 5)), (3, .int (zi a3)), (4, .int (zi a4))] [] := by
  unfold fX8_decide at hF
  refine z_aload_n (q := 1) C dX8_decide_0 0 rfl rfl rfl ?_
  refine z_iconst (q := 2) C dX8_decide_1 rfl ?_
  refine z_iload (q := 4) C dX8_decide_2 4 rfl rfl ?_
  refine z_callV (q := 7) (o := o0) (av := [.int (zi 1), .int (zi a4)]) (rest := []) (stk2 := [.int (zi (fX8_of o0 1 a4 h))]) C hR clX8 (zon C ho0) hd0 (M_fX8_of (zlv hd rfl) ho0 hd0 rfl) mY_X8_of q_639 (Nat.le_of_ble_eq_true rfl) dX8_decide_4 rfl rfl rfl ?_
  obtain ⟨v1, ev1, hF⟩ := zlet_e hF
  refine z_istoreE (q := 9) C ev1 dX8_decide_7 (by decide) rfl rfl ?_
  refine z_aload_n (q := 10) C dX8_decide_9 1 rfl rfl rfl ?_
  refine z_iconst (q := 11) C dX8_decide_10 rfl ?_
  refine z_iload (q := 13) C dX8_decide_11 5 rfl rfl ?_
  refine z_callV (q := 16) (o := o0) (av := [.int (zi 0), .int (zi a4)]) (rest := []) (stk2 := [.int (zi (fX8_of o0 0 a4 h))]) C hR clX8 (zon C ho0) hd0 (M_fX8_of (zlv hd rfl) ho0 hd0 rfl) mY_X8_of q_639 (Nat.le_of_ble_eq_true rfl) dX8_decide_13 rfl rfl rfl ?_
  obtain ⟨v2, ev2, hF⟩ := zlet_e hF
  refine z_istoreE (q := 18) C ev2 dX8_decide_16 (by decide) rfl rfl ?_
  refine z_aload_n (q := 19) C dX8_decide_18 2 rfl rfl rfl ?_
  refine z_getf (q := 22) C clX8 (zon C ho0) hd0 (k := 2) (by decide) q_187 rfl (zfv_r hd0 rfl rfl) dX8_decide_19 rfl ?_
  refine z_iconst (q := 23) C dX8_decide_22 rfl ?_
  refine z_aload_n (q := 24) C dX8_decide_23 2 rfl rfl rfl ?_
  refine z_callV (q := 27) (o := o0) (av := []) (rest := [.int (zi 0), .ref (zα κ (zfr o0 2))]) (stk2 := [.int (zi (fX8_time o0 h)), .int (zi 0), .ref (zα κ (zfr o0 2))]) C hR clX8 (zon C ho0) hd0 (M_fX8_time (zlv hd rfl) ho0 hd0 rfl) mY_X8_time q_722 (Nat.le_of_ble_eq_true rfl) dX8_decide_24 rfl rfl rfl ?_
  obtain ⟨h3, eh3, hF⟩ := zlet_e hF
  refine z_iastc (q := 28) (j := 0) C (zon C (frl_8_2 ho0 hd0)) (frk_8_2 ho0 hd0) zwk_0 (by rw [(frn_8_2 ho0 hd0)]; decide) dX8_decide_27 rfl eh3 ?_
  refine z_aload_n (q := 29) C dX8_decide_28 2 rfl rfl rfl ?_
  refine z_getf (q := 32) C clX8 (zon C ho0) hd0 (k := 2) (by decide) q_187 rfl (zfv_r hd0 rfl rfl) dX8_decide_29 rfl ?_
  refine z_iconst (q := 33) C dX8_decide_32 rfl ?_
  refine z_aload_n (q := 34) C dX8_decide_33 2 rfl rfl rfl ?_
  refine z_callV (q := 37) (o := o0) (av := []) (rest := [.int (zi 1), .ref (zα κ (zfr o0 2))]) (stk2 := [.int (zi (fX8_hour o0 h3)), .int (zi 1), .ref (zα κ (zfr o0 2))]) C hR clX8 (zon C ho0) hd0 (M_fX8_hour (zlv hd rfl) ho0 hd0 rfl) mY_X8_hour q_676 (Nat.le_of_ble_eq_true rfl) dX8_decide_34 rfl rfl rfl ?_
  refine z_bipush (q := 39) C dX8_decide_37 bp_24 rfl ?_
  refine z_idiv (q := 40) C (by decide) dX8_decide_39 rfl ?_
  obtain ⟨h4, eh4, hF⟩ := zlet_e hF
  refine z_iastc (q := 41) (j := 1) C (zon C (frl_8_2 ho0 hd0)) (frk_8_2 ho0 hd0) zwk_1 (by rw [(frn_8_2 ho0 hd0)]; decide) dX8_decide_40 rfl eh4 ?_
  refine z_aload_n (q := 42) C dX8_decide_41 2 rfl rfl rfl ?_
  refine z_getf (q := 45) C clX8 (zon C ho0) hd0 (k := 2) (by decide) q_187 rfl (zfv_r hd0 rfl rfl) dX8_decide_42 rfl ?_
  refine z_iconst (q := 46) C dX8_decide_45 rfl ?_
  refine z_aload_n (q := 47) C dX8_decide_46 2 rfl rfl rfl ?_
  refine z_iload_n (q := 48) C dX8_decide_47 5 rfl rfl rfl ?_
  obtain ⟨v5, ev5, hF⟩ := zb_e hF
  refine z_callV (q := 51) (o := o0) (av := [.int (zi a3)]) (rest := [.int (zi 2), .ref (zα κ (zfr o0 2))]) (stk2 := [.int (zi v5), .int (zi 2), .ref (zα κ (zfr o0 2))]) C hR clX8 (zon C ho0) hd0 (M_fX8_backlog (zlv hd rfl) ho0 hd0 ev5) mY_X8_backlog q_743 (Nat.le_of_ble_eq_true rfl) dX8_decide_48 rfl rfl rfl ?_
  obtain ⟨h6, eh6, hF⟩ := zlet_e hF
  refine z_iastc (q := 52) (j := 2) C (zon C (frl_8_2 ho0 hd0)) (frk_8_2 ho0 hd0) zwk_2 (by rw [(frn_8_2 ho0 hd0)]; decide) dX8_decide_51 rfl eh6 ?_
  refine z_aload_n (q := 53) C dX8_decide_52 2 rfl rfl rfl ?_
  refine z_getf (q := 56) C clX8 (zon C ho0) hd0 (k := 2) (by decide) q_187 rfl (zfv_r hd0 rfl rfl) dX8_decide_53 rfl ?_
  refine z_iconst (q := 57) C dX8_decide_56 rfl ?_
  refine z_iload (q := 59) C dX8_decide_57 0 rfl rfl ?_
  refine z_callS (q := 62) (av := [.int (zi v2)]) (rest := [.int (zi 3), .ref (zα κ (zfr o0 2))]) (stk2 := [.int (zi (fJ6_bitCount_0f7a4 v2)), .int (zi 3), .ref (zα κ (zfr o0 2))]) C hR (M_fJ6_bitCount_0f7a4 (zlv hd rfl) rfl) mY_J6_bitCount_0f7a4 q_744 (Nat.le_of_ble_eq_true rfl) dX8_decide_59 rfl rfl rfl ?_
  obtain ⟨h7, eh7, hF⟩ := zlet_e hF
  refine z_iastc (q := 63) (j := 3) C (zon C (frl_8_2 ho0 hd0)) (frk_8_2 ho0 hd0) zwk_3 (by rw [(frn_8_2 ho0 hd0)]; decide) dX8_decide_62 rfl eh7 ?_
  refine z_aload_n (q := 64) C dX8_decide_63 2 rfl rfl rfl ?_
  refine z_getf (q := 67) C clX8 (zon C ho0) hd0 (k := 2) (by decide) q_187 rfl (zfv_r hd0 rfl rfl) dX8_decide_64 rfl ?_
  refine z_iconst (q := 68) C dX8_decide_67 rfl ?_
  refine z_iload (q := 70) C dX8_decide_68 6 rfl rfl ?_
  obtain ⟨h8, eh8, hF⟩ := zlet_e hF
  refine z_iastc (q := 71) (j := 4) C (zon C (frl_8_2 ho0 hd0)) (frk_8_2 ho0 hd0) zwk_4 (by rw [(frn_8_2 ho0 hd0)]; decide) dX8_decide_70 rfl eh8 ?_
  refine z_aload_n (q := 72) C dX8_decide_71 2 rfl rfl rfl ?_
  refine z_getf (q := 75) C clX8 (zon C ho0) hd0 (k := 2) (by decide) q_187 rfl (zfv_r hd0 rfl rfl) dX8_decide_72 rfl ?_
  refine z_iconst (q := 76) C dX8_decide_75 rfl ?_
  refine z_iload (q := 78) C dX8_decide_76 1 rfl rfl ?_
  obtain ⟨h9, eh9, hF⟩ := zlet_e hF
  refine z_iastc (q := 79) (j := 5) C (zon C (frl_8_2 ho0 hd0)) (frk_8_2 ho0 hd0) zwk_5 (by rw [(frn_8_2 ho0 hd0)]; decide) dX8_decide_78 rfl eh9 ?_
  refine z_aload_n (q := 80) C dX8_decide_79 2 rfl rfl rfl ?_
  refine z_getf (q := 83) C clX8 (zon C ho0) hd0 (k := 2) (by decide) q_187 rfl (zfv_r hd0 rfl rfl) dX8_decide_80 rfl ?_
  refine z_bipush (q := 85) C dX8_decide_83 bp_6 rfl ?_
  refine z_aload_n (q := 86) C dX8_decide_85 3 rfl rfl rfl ?_
  refine z_iconst (q := 87) C dX8_decide_86 rfl ?_
  refine z_iload (q := 89) C dX8_decide_87 6 rfl rfl ?_
  refine z_iconst (q := 90) C dX8_decide_89 rfl ?_
  refine z_callV (q := 93) (o := o1) (av := [.int (zi 1), .int (zi a4), .int (zi 2)]) (rest := [.int (zi 6), .ref (zα κ (zfr o0 2))]) (stk2 := [.int (zi (fX1_item o1 1 a4 2 h9)), .int (zi 6), .ref (zα κ (zfr o0 2))]) C hR clX1 (zon C ho1) hd1 (M_fX1_item (zlv hd rfl) ho1 hd1 rfl) mY_X1_item q_699 (Nat.le_of_ble_eq_true rfl) dX8_decide_90 rfl rfl rfl ?_
  obtain ⟨h10, eh10, hF⟩ := zlet_e hF
  refine z_iastc (q := 94) (j := 6) C (zon C (frl_8_2 ho0 hd0)) (frk_8_2 ho0 hd0) zwk_6 (by rw [(frn_8_2 ho0 hd0)]; decide) dX8_decide_93 rfl eh10 ?_
  refine z_aload_n (q := 95) C dX8_decide_94 2 rfl rfl rfl ?_
  refine z_iload (q := 97) C dX8_decide_95 6 rfl rfl ?_
  obtain ⟨v12, h11, ev12, hF⟩ := z2_e hF
  refine z_callV (q := 100) (o := o0) (av := [.int (zi a4)]) (rest := []) (stk2 := [.int (zi v12)]) C hR clX8 (zon C ho0) hd0 (M_fX8_leave (zlv hd rfl) ho0 hd0 ev12) mY_X8_leave q_750 (Nat.le_of_ble_eq_true rfl) dX8_decide_97 rfl rfl rfl ?_
  refine z_pop (q := 101) C dX8_decide_100 rfl rfl ?_
  refine z_aload_n (q := 102) C dX8_decide_101 2 rfl rfl rfl ?_
  refine z_iconst (q := 103) C dX8_decide_102 rfl ?_
  refine z_iload (q := 105) C dX8_decide_103 6 rfl rfl ?_
  refine z_aload_n (q := 106) C dX8_decide_105 2 rfl rfl rfl ?_
  refine z_iconst (q := 107) C dX8_decide_106 rfl ?_
  refine z_iload (q := 109) C dX8_decide_107 6 rfl rfl ?_
  refine z_callV (q := 112) (o := o0) (av := [.int (zi 4), .int (zi a4)]) (rest := [.int (zi a4), .int (zi 4), .ref (zα κ o0)]) (stk2 := [.int (zi (fX8_of o0 4 a4 h11)), .int (zi a4), .int (zi 4), .ref (zα κ o0)]) C hR clX8 (zon C ho0) hd0 (M_fX8_of (zlv hd rfl) ho0 hd0 rfl) mY_X8_of q_639 (Nat.le_of_ble_eq_true rfl) dX8_decide_109 rfl rfl rfl ?_
  refine z_aload_n (q := 113) C dX8_decide_112 3 rfl rfl rfl ?_
  refine z_iconst (q := 114) C dX8_decide_113 rfl ?_
  refine z_iload_n (q := 115) C dX8_decide_114 5 rfl rfl rfl ?_
  refine z_iconst (q := 116) C dX8_decide_115 rfl ?_
  refine z_callV (q := 119) (o := o1) (av := [.int (zi 2), .int (zi a3), .int (zi 3)]) (rest := [.int (zi (fX8_of o0 4 a4 h11)), .int (zi a4), .int (zi 4), .ref (zα κ o0)]) (stk2 := [.int (zi (fX1_item o1 2 a3 3 h11)), .int (zi (fX8_of o0 4 a4 h11)), .int (zi a4), .int (zi 4), .ref (zα κ o0)]) C hR clX1 (zon C ho1) hd1 (M_fX1_item (zlv hd rfl) ho1 hd1 rfl) mY_X1_item q_699 (Nat.le_of_ble_eq_true rfl) dX8_decide_116 rfl rfl rfl ?_
  refine z_iadd (q := 120) C dX8_decide_119 rfl ?_
  obtain ⟨h13, eh13, hF⟩ := zlet_e hF
  refine z_callV (q := 123) (o := o0) (av := [.int (zi 4), .int (zi a4), .int (zi ((fX8_of o0 4 a4 h11) + (fX1_item o1 2 a3 3 h11)))]) (rest := []) (stk2 := []) C hR clX8 (zon C ho0) hd0 (M_fX8_set (zlv hd rfl) ho0 hd0 eh13.symm) mY_X8_set q_598 (Nat.le_of_ble_eq_true rfl) dX8_decide_120 rfl rfl rfl ?_
  refine z_aload_n (q := 124) C dX8_decide_123 4 rfl rfl rfl ?_
  refine z_getf (q := 127) C clX5 (zon C zo_5) kd_5 (k := 1) (by decide) q_134 rfl (zfv_i kd_5 rfl) dX8_decide_124 rfl ?_
  refine z_iconst (q := 128) C dX8_decide_127 rfl ?_
  refine z_icmp_eq (tgt := 142) (q := 131) C dX8_decide_128 (by decide) rfl (fun c14 => ?_) (fun c14 => ?_)
  · have hF := (if_pos c14).symm.trans hF
    refine z_aload_n (q := 143) C dX8_decide_142 2 rfl rfl rfl ?_
    refine z_iconst (q := 144) C dX8_decide_143 rfl ?_
    refine z_iload (q := 146) C dX8_decide_144 6 rfl rfl ?_
    refine z_iload (q := 148) C dX8_decide_146 0 rfl rfl ?_
    refine z_iconst (q := 149) C dX8_decide_148 rfl ?_
    refine z_iload (q := 151) C dX8_decide_149 1 rfl rfl ?_
    refine z_ishl (q := 152) C dX8_decide_151 rfl ?_
    refine z_ior (q := 153) C dX8_decide_152 rfl ?_
    obtain ⟨h15, eh15, hF⟩ := zlet_e hF
    refine z_callV (q := 156) (o := o0) (av := [.int (zi 0), .int (zi a4), .int (zi (zor v2 (zshl 1 v1)))]) (rest := []) (stk2 := []) C hR clX8 (zon C ho0) hd0 (M_fX8_set (zlv hd rfl) ho0 hd0 eh15.symm) mY_X8_set q_598 (Nat.le_of_ble_eq_true rfl) dX8_decide_153 rfl rfl rfl ?_
    refine z_goto (q := 175) C dX8_decide_156 (by decide) ?_
    have hF := Option.some.inj hF
    subst hF
    exact z_vret C e1 e2 dX8_decide_175
  · have hF := (if_neg c14).symm.trans hF
    refine z_aload_n (q := 132) C dX8_decide_131 4 rfl rfl rfl ?_
    refine z_aload_n (q := 133) C dX8_decide_132 2 rfl rfl rfl ?_
    refine z_getf (q := 136) C clX8 (zon C ho0) hd0 (k := 2) (by decide) q_187 rfl (zfv_r hd0 rfl rfl) dX8_decide_133 rfl ?_
    obtain ⟨v17, h16, ev17, hF⟩ := z2_e hF
    refine z_callV (q := 139) (o := 5) (av := [.ref (zα κ (zfr o0 2))]) (rest := []) (stk2 := [.int (zi v17)]) C hR clX5 (zon C zo_5) kd_5 (M_fX5_worth (zlv hd rfl) (frl_8_2 ho0 hd0) (frk_8_2 ho0 hd0) ev17) mY_X5_worth q_751 (Nat.le_of_ble_eq_true rfl) dX8_decide_136 rfl rfl rfl ?_
    refine z_if_le (tgt := 159) (q := 142) C dX8_decide_139 (by decide) rfl (fun c18 => ?_) (fun c18 => ?_)
    · have hF := (if_pos c18).symm.trans hF
      refine z_aload_n (q := 160) C dX8_decide_159 2 rfl rfl rfl ?_
      refine z_iconst (q := 161) C dX8_decide_160 rfl ?_
      refine z_iload (q := 163) C dX8_decide_161 6 rfl rfl ?_
      refine z_aload_n (q := 164) C dX8_decide_163 2 rfl rfl rfl ?_
      refine z_iconst (q := 165) C dX8_decide_164 rfl ?_
      refine z_iload (q := 167) C dX8_decide_165 6 rfl rfl ?_
      refine z_callV (q := 170) (o := o0) (av := [.int (zi 5), .int (zi a4)]) (rest := [.int (zi a4), .int (zi 5), .ref (zα κ o0)]) (stk2 := [.int (zi (fX8_of o0 5 a4 h16)), .int (zi a4), .int (zi 5), .ref (zα κ o0)]) C hR clX8 (zon C ho0) hd0 (M_fX8_of (zlv hd rfl) ho0 hd0 rfl) mY_X8_of q_639 (Nat.le_of_ble_eq_true rfl) dX8_decide_167 rfl rfl rfl ?_
      refine z_iconst (q := 171) C dX8_decide_170 rfl ?_
      refine z_iadd (q := 172) C dX8_decide_171 rfl ?_
      obtain ⟨h19, eh19, hF⟩ := zlet_e hF
      refine z_callV (q := 175) (o := o0) (av := [.int (zi 5), .int (zi a4), .int (zi ((fX8_of o0 5 a4 h16) + 1))]) (rest := []) (stk2 := []) C hR clX8 (zon C ho0) hd0 (M_fX8_set (zlv hd rfl) ho0 hd0 eh19.symm) mY_X8_set q_598 (Nat.le_of_ble_eq_true rfl) dX8_decide_172 rfl rfl rfl ?_
      have hF := Option.some.inj hF
      subst hF
      exact z_vret C e1 e2 dX8_decide_175
    · have hF := (if_neg c18).symm.trans hF
      refine z_aload_n (q := 143) C dX8_decide_142 2 rfl rfl rfl ?_
      refine z_iconst (q := 144) C dX8_decide_143 rfl ?_
      refine z_iload (q := 146) C dX8_decide_144 6 rfl rfl ?_
      refine z_iload (q := 148) C dX8_decide_146 0 rfl rfl ?_
      refine z_iconst (q := 149) C dX8_decide_148 rfl ?_
      refine z_iload (q := 151) C dX8_decide_149 1 rfl rfl ?_
      refine z_ishl (q := 152) C dX8_decide_151 rfl ?_
      refine z_ior (q := 153) C dX8_decide_152 rfl ?_
      obtain ⟨h20, eh20, hF⟩ := zlet_e hF
      refine z_callV (q := 156) (o := o0) (av := [.int (zi 0), .int (zi a4), .int (zi (zor v2 (zshl 1 v1)))]) (rest := []) (stk2 := []) C hR clX8 (zon C ho0) hd0 (M_fX8_set (zlv hd rfl) ho0 hd0 eh20.symm) mY_X8_set q_598 (Nat.le_of_ble_eq_true rfl) dX8_decide_153 rfl rfl rfl ?_
      refine z_goto (q := 175) C dX8_decide_156 (by decide) ?_
      have hF := Option.some.inj hF
      subst hF
      exact z_vret C e1 e2 dX8_decide_175
set_option maxRecDepth 20000 in
set_option maxHeartbeats 4000000 in
theorem M_fX8_decide {l : Launch} {D : va_G} {cy : ClassId} {α : Nat → Nat} {n : Nat} {σ : zSg} {d : Nat} (hd : 4 ≤ d) {N : Nat} {o0 : Nat} (ho0 : o0 < zN) (hd0 : zkd o0 = 8) {o1 : Nat} (ho1 : o1 < zN) (hd1 : zkd o1 = 1) {a3 : Int} {a4 : Int} {h : zH} {g : zH} (hF : fX8_decide N o0 o1 a3 a4 h = some g) : zMet l yX8_decide cX8_decide 7 none (zrm d) D cy α n σ [.ref (α o0), .ref (α o1), .ref (α 5), .int (zi a3), .int (zi a4)] h (none) g := by
  obtain ⟨d, rfl⟩ : ∃ e, d = e + 1 := ⟨d - 1, by omega⟩
  refine z_met (by decide +kernel) (Nat.le_of_ble_eq_true rfl) (fun κ k1 k2 k3 k4 k5 k6 k7 k8 k9 C => ?_)
  subst k1 k3 k4 k5 k6 k7
  exact J_fX8_decide C k2 hd ho0 hd0 ho1 hd1 k8 k9 hF
set_option maxRecDepth 20000 in
set_option maxHeartbeats 4000000 in
theorem J_fX8_serve {κ : zT} (C : zC κ RX8 cX8_serve 6 none) {d : Nat} (hR : zR κ = zrm (d + 1)) (hd : 5 ≤ d + 1) {N : Nat} {o0 : Nat} (ho0 : o0 < zN) (hd0 : zkd o0 = 8) {o1 : Nat} (ho1 : o1 < zN) (hd1 : zkd o1 = 1) {r : zH} (e1 : zrv κ = none) (e2 : zhf κ = r) {a3 : Int} {h : zH} (hF : fX8_serve N o0 o1 a3 h = some r) : Z κ h 0 [(0, .ref (zα κ o0)), (1, .ref (zα κ o1)), (2, .ref (zα κ 5)), (3, .int (zi a3))] [] := by
  unfold fX8_serve at hF
  refine z_aload_n (q := 1) C dX8_serve_0 0 rfl rfl rfl ?_
  refine z_iload_n (q := 2) C dX8_serve_1 3 rfl rfl rfl ?_
  obtain ⟨v1, ev1, hF⟩ := zb_e hF
  refine z_callV (q := 5) (o := o0) (av := [.int (zi a3)]) (rest := []) (stk2 := [.int (zi v1)]) C hR clX8 (zon C ho0) hd0 (M_fX8_first (zlv hd rfl) ho0 hd0 ev1) mY_X8_first q_738 (Nat.le_of_ble_eq_true rfl) dX8_serve_2 rfl rfl rfl ?_
  refine z_istore (q := 7) C dX8_serve_5 (by decide) rfl rfl ?_
  refine z_iload (q := 9) C dX8_serve_7 0 rfl rfl ?_
  refine z_iconst (q := 10) C dX8_serve_9 rfl ?_
  refine z_icmp_ne (tgt := 14) (q := 13) C dX8_serve_10 (by decide) rfl (fun c2 => ?_) (fun c2 => ?_)
  · have hF := (if_neg c2).symm.trans hF
    refine z_aload_n (q := 15) C dX8_serve_14 1 rfl rfl rfl ?_
    refine z_iconst (q := 16) C dX8_serve_15 rfl ?_
    refine z_iload (q := 18) C dX8_serve_16 0 rfl rfl ?_
    refine z_callV (q := 21) (o := o0) (av := [.int (zi 2), .int (zi v1)]) (rest := []) (stk2 := [.int (zi (fX8_of o0 2 v1 h))]) C hR clX8 (zon C ho0) hd0 (M_fX8_of (zlv hd rfl) ho0 hd0 rfl) mY_X8_of q_639 (Nat.le_of_ble_eq_true rfl) dX8_serve_18 rfl rfl rfl ?_
    refine z_iconst (q := 22) C dX8_serve_21 rfl ?_
    refine z_iadd (q := 23) C dX8_serve_22 rfl ?_
    obtain ⟨v3, ev3, hF⟩ := zlet_e hF
    refine z_istoreE (q := 25) C ev3 dX8_serve_23 (by decide) rfl rfl ?_
    refine z_aload_n (q := 26) C dX8_serve_25 2 rfl rfl rfl ?_
    refine z_iconst (q := 27) C dX8_serve_26 rfl ?_
    refine z_iload (q := 29) C dX8_serve_27 1 rfl rfl ?_
    refine z_iload (q := 31) C dX8_serve_29 0 rfl rfl ?_
    obtain ⟨h4, eh4, hF⟩ := zlet_e hF
    refine z_callV (q := 34) (o := o0) (av := [.int (zi 2), .int (zi v1), .int (zi v3)]) (rest := []) (stk2 := []) C hR clX8 (zon C ho0) hd0 (M_fX8_set (zlv hd rfl) ho0 hd0 eh4.symm) mY_X8_set q_598 (Nat.le_of_ble_eq_true rfl) dX8_serve_31 rfl rfl rfl ?_
    refine z_iload (q := 36) C dX8_serve_34 0 rfl rfl ?_
    refine z_aload_n (q := 37) C dX8_serve_36 3 rfl rfl rfl ?_
    refine z_iconst (q := 38) C dX8_serve_37 rfl ?_
    refine z_iload_n (q := 39) C dX8_serve_38 5 rfl rfl rfl ?_
    refine z_iconst (q := 40) C dX8_serve_39 rfl ?_
    refine z_callV (q := 43) (o := o1) (av := [.int (zi 2), .int (zi a3), .int (zi 2)]) (rest := [.int (zi v3)]) (stk2 := [.int (zi (fX1_item o1 2 a3 2 h4)), .int (zi v3)]) C hR clX1 (zon C ho1) hd1 (M_fX1_item (zlv hd rfl) ho1 hd1 rfl) mY_X1_item q_699 (Nat.le_of_ble_eq_true rfl) dX8_serve_40 rfl rfl rfl ?_
    refine z_icmp_lt (tgt := 55) (q := 46) C dX8_serve_43 (by decide) rfl (fun c5 => ?_) (fun c5 => ?_)
    · have hF := (if_pos c5).symm.trans hF
      have hF := Option.some.inj hF
      subst hF
      exact z_vret C e1 e2 dX8_serve_55
    · have hF := (if_neg c5).symm.trans hF
      refine z_aload_n (q := 47) C dX8_serve_46 2 rfl rfl rfl ?_
      refine z_aload_n (q := 48) C dX8_serve_47 3 rfl rfl rfl ?_
      refine z_aload_n (q := 49) C dX8_serve_48 4 rfl rfl rfl ?_
      refine z_iload_n (q := 50) C dX8_serve_49 5 rfl rfl rfl ?_
      refine z_iload (q := 52) C dX8_serve_50 1 rfl rfl ?_
      obtain ⟨h6, eh6, hF⟩ := zb_e hF
      refine z_callV (q := 55) (o := o0) (av := [.ref (zα κ o1), .ref (zα κ 5), .int (zi a3), .int (zi v1)]) (rest := []) (stk2 := []) C hR clX8 (zon C ho0) hd0 (M_fX8_decide (zlv hd rfl) ho0 hd0 ho1 hd1 eh6) mY_X8_decide q_739 (Nat.le_of_ble_eq_true rfl) dX8_serve_52 rfl rfl rfl ?_
      have hF := Option.some.inj hF
      subst hF
      exact z_vret C e1 e2 dX8_serve_55
  · have hF := (if_pos c2).symm.trans hF
    have hF := Option.some.inj hF
    subst hF
    exact z_vret C e1 e2 dX8_serve_13
set_option maxRecDepth 20000 in
set_option maxHeartbeats 4000000 in
theorem M_fX8_serve {l : Launch} {D : va_G} {cy : ClassId} {α : Nat → Nat} {n : Nat} {σ : zSg} {d : Nat} (hd : 5 ≤ d) {N : Nat} {o0 : Nat} (ho0 : o0 < zN) (hd0 : zkd o0 = 8) {o1 : Nat} (ho1 : o1 < zN) (hd1 : zkd o1 = 1) {a3 : Int} {h : zH} {g : zH} (hF : fX8_serve N o0 o1 a3 h = some g) : zMet l yX8_serve cX8_serve 6 none (zrm d) D cy α n σ [.ref (α o0), .ref (α o1), .ref (α 5), .int (zi a3)] h (none) g := by
  obtain ⟨d, rfl⟩ : ∃ e, d = e + 1 := ⟨d - 1, by omega⟩
  refine z_met (by decide +kernel) (Nat.le_of_ble_eq_true rfl) (fun κ k1 k2 k3 k4 k5 k6 k7 k8 k9 C => ?_)
  subst k1 k3 k4 k5 k6 k7
  exact J_fX8_serve C k2 hd ho0 hd0 ho1 hd1 k8 k9 hF
set_option maxRecDepth 20000 in
set_option maxHeartbeats 4000000 in
theorem J_fX8_pass_c27b {κ : zT} (C : zC κ RX8 cX8_pass 6 none) {d : Nat} (hR : zR κ = zrm (d + 1)) (hd : 6 ≤ d + 1) {N : Nat} {o0 : Nat} (ho0 : o0 < zN) (hd0 : zkd o0 = 8) {o1 : Nat} (ho1 : o1 < zN) (hd1 : zkd o1 = 1) {r : zH} (e1 : zrv κ = none) (e2 : zhf κ = r) {K27 : Int → Int → zH → Option zH} (hK27 : ∀ (l4 : Int) (l5 : Int) (h : zH), K27 l4 l5 h = some r → Z κ h 27 [(0, .ref (zα κ o0)), (1, .ref (zα κ o1)), (2, .ref (zα κ 5)), (4, .int (zi l4)), (5, .int (zi l5))] []) (l4 : Int) (l5 : Int) (h : zH) (hF : fX8_pass_c27b N o0 o1 K27 l4 l5 h = some r) : Z κ h 27 [(0, .ref (zα κ o0)), (1, .ref (zα κ o1)), (2, .ref (zα κ 5)), (4, .int (zi l4)), (5, .int (zi l5))] [] := by
  unfold fX8_pass_c27b at hF
  refine z_iload (q := 29) C dX8_pass_27 4 rfl rfl ?_
  refine z_aload_n (q := 30) C dX8_pass_29 1 rfl rfl rfl ?_
  refine z_iconst (q := 31) C dX8_pass_30 rfl ?_
  refine z_callV (q := 34) (o := o1) (av := [.int (zi 2)]) (rest := [.int (zi l5)]) (stk2 := [.int (zi (fX1_many o1 2 h)), .int (zi l5)]) C hR clX1 (zon C ho1) hd1 (M_fX1_many (zlv hd rfl) ho1 hd1 rfl) mY_X1_many q_727 (Nat.le_of_ble_eq_true rfl) dX8_pass_31 rfl rfl rfl ?_
  refine z_icmp_ge (tgt := 62) (q := 37) C dX8_pass_34 (by decide) rfl (fun c1 => ?_) (fun c1 => ?_)
  · have hF := (if_pos c1).symm.trans hF
    refine z_aload_n (q := 63) C dX8_pass_62 0 rfl rfl rfl ?_
    refine z_getf (q := 66) C clX8 (zon C ho0) hd0 (k := 0) (by decide) q_184 rfl (zfv_r hd0 rfl rfl) dX8_pass_63 rfl ?_
    refine z_bipush (q := 68) C dX8_pass_66 bp_48 rfl ?_
    refine z_dup2 (q := 69) C dX8_pass_68 rfl rfl rfl ?_
    refine z_ialdc (q := 70) (j := 48) C (zon C (frl_8_0 ho0 hd0)) (frk_8_0 ho0 hd0) zwk_48 (by rw [(frn_8_0 ho0 hd0)]; decide) dX8_pass_69 rfl ?_
    refine z_iconst (q := 71) C dX8_pass_70 rfl ?_
    refine z_iadd (q := 72) C dX8_pass_71 rfl ?_
    obtain ⟨h2, eh2, hF⟩ := zlet_e hF
    refine z_iastc (q := 73) (j := 48) C (zon C (frl_8_0 ho0 hd0)) (frk_8_0 ho0 hd0) zwk_48 (by rw [(frn_8_0 ho0 hd0)]; decide) dX8_pass_72 rfl eh2 ?_
    have hF := Option.some.inj hF
    subst hF
    exact z_vret C e1 e2 dX8_pass_73
  · have hF := (if_neg c1).symm.trans hF
    refine z_aload_n (q := 38) C dX8_pass_37 1 rfl rfl rfl ?_
    refine z_iload (q := 40) C dX8_pass_38 4 rfl rfl ?_
    refine z_iload (q := 42) C dX8_pass_40 3 rfl rfl ?_
    refine z_callV (q := 45) (o := o1) (av := [.int (zi l5), .int (zi l4)]) (rest := []) (stk2 := [.int (zi (fX1_isOpen o1 l5 l4 h))]) C hR clX1 (zon C ho1) hd1 (M_fX1_isOpen (zlv hd rfl) ho1 hd1 rfl) mY_X1_isOpen q_733 (Nat.le_of_ble_eq_true rfl) dX8_pass_42 rfl rfl rfl ?_
    refine z_if_eq (tgt := 56) (q := 48) C dX8_pass_45 (by decide) rfl (fun c3 => ?_) (fun c3 => ?_)
    · have hF := (if_pos c3).symm.trans hF
      refine z_iinc (q := 59) (x := l5) C dX8_pass_56 (j := 4) rfl (by decide) rfl rfl ?_
      refine z_goto (q := 27) C dX8_pass_59 (by decide) ?_
      exact z_sub (hK27 _ _ _ hF) [1, 2, 3, 4, 0] rfl
    · have hF := (if_neg c3).symm.trans hF
      refine z_aload_n (q := 49) C dX8_pass_48 0 rfl rfl rfl ?_
      refine z_aload_n (q := 50) C dX8_pass_49 1 rfl rfl rfl ?_
      refine z_aload_n (q := 51) C dX8_pass_50 2 rfl rfl rfl ?_
      refine z_iload (q := 53) C dX8_pass_51 4 rfl rfl ?_
      obtain ⟨h4, eh4, hF⟩ := zb_e hF
      refine z_callV (q := 56) (o := o0) (av := [.ref (zα κ o1), .ref (zα κ 5), .int (zi l5)]) (rest := []) (stk2 := []) C hR clX8 (zon C ho0) hd0 (M_fX8_serve (zlv hd rfl) ho0 hd0 ho1 hd1 eh4) mY_X8_serve q_734 (Nat.le_of_ble_eq_true rfl) dX8_pass_53 rfl rfl rfl ?_
      refine z_iinc (q := 59) (x := l5) C dX8_pass_56 (j := 4) rfl (by decide) rfl rfl ?_
      refine z_goto (q := 27) C dX8_pass_59 (by decide) ?_
      exact z_sub (hK27 _ _ _ hF) [1, 2, 3, 4, 0] rfl
set_option maxRecDepth 20000 in
set_option maxHeartbeats 4000000 in
theorem J_fX8_pass_c27 {κ : zT} (C : zC κ RX8 cX8_pass 6 none) {d : Nat} (hR : zR κ = zrm (d + 1)) (hd : 6 ≤ d + 1) {N : Nat} {o0 : Nat} (ho0 : o0 < zN) (hd0 : zkd o0 = 8) {o1 : Nat} (ho1 : o1 < zN) (hd1 : zkd o1 = 1) {r : zH} (e1 : zrv κ = none) (e2 : zhf κ = r) : ∀ (k : Nat) (l4 : Int) (l5 : Int) (h : zH), fX8_pass_c27 N o0 o1 k l4 l5 h = some r → Z κ h 27 [(0, .ref (zα κ o0)), (1, .ref (zα κ o1)), (2, .ref (zα κ 5)), (4, .int (zi l4)), (5, .int (zi l5))] [] := by
  intro k
  induction k with
  | zero => intro l4 l5 h hF; cases hF
  | succ k ih => intro l4 l5 h hF; exact J_fX8_pass_c27b C hR hd ho0 hd0 ho1 hd1 e1 e2 ih l4 l5 h hF
set_option maxRecDepth 20000 in
set_option maxHeartbeats 4000000 in
theorem J_fX8_pass {κ : zT} (C : zC κ RX8 cX8_pass 6 none) {d : Nat} (hR : zR κ = zrm (d + 1)) (hd : 6 ≤ d + 1) {N : Nat} {o0 : Nat} (ho0 : o0 < zN) (hd0 : zkd o0 = 8) {o1 : Nat} (ho1 : o1 < zN) (hd1 : zkd o1 = 1) {r : zH} (e1 : zrv κ = none) (e2 : zhf κ = r) {a3 : Int} {h : zH} (hF : fX8_pass N o0 o1 a3 h = some r) : Z κ h 0 [(0, .ref (zα κ o0)), (1, .ref (zα κ o1)), (2, .ref (zα κ 5)), (3, .int (zi a3))] [] := by
  unfold fX8_pass at hF
  refine z_aload_n (q := 1) C dX8_pass_0 0 rfl rfl rfl ?_
  refine z_callV (q := 4) (o := o0) (av := []) (rest := []) (stk2 := [.int (zi (fX8_time o0 h))]) C hR clX8 (zon C ho0) hd0 (M_fX8_time (zlv hd rfl) ho0 hd0 rfl) mY_X8_time q_722 (Nat.le_of_ble_eq_true rfl) dX8_pass_1 rfl rfl rfl ?_
  obtain ⟨v1, ev1, hF⟩ := zlet_e hF
  refine z_istoreE (q := 6) C ev1 dX8_pass_4 (by decide) rfl rfl ?_
  refine z_iload (q := 8) C dX8_pass_6 0 rfl rfl ?_
  refine z_aload_n (q := 9) C dX8_pass_8 2 rfl rfl rfl ?_
  refine z_iconst (q := 10) C dX8_pass_9 rfl ?_
  refine z_iconst (q := 11) C dX8_pass_10 rfl ?_
  refine z_iconst (q := 12) C dX8_pass_11 rfl ?_
  refine z_callV (q := 15) (o := o1) (av := [.int (zi 0), .int (zi 0), .int (zi 0)]) (rest := [.int (zi v1)]) (stk2 := [.int (zi (fX1_item o1 0 0 0 h)), .int (zi v1)]) C hR clX1 (zon C ho1) hd1 (M_fX1_item (zlv hd rfl) ho1 hd1 rfl) mY_X1_item q_699 (Nat.le_of_ble_eq_true rfl) dX8_pass_12 rfl rfl rfl ?_
  refine z_icmp_ne (tgt := 24) (q := 18) C dX8_pass_15 (by decide) rfl (fun c2 => ?_) (fun c2 => ?_)
  · have hF := (if_neg c2).symm.trans hF
    refine z_iconst (q := 25) C dX8_pass_24 rfl ?_
    refine z_istore (q := 27) C dX8_pass_25 (by decide) rfl rfl ?_
    exact z_sub (J_fX8_pass_c27 C hR hd ho0 hd0 ho1 hd1 e1 e2 N _ _ _ hF) [2, 3, 4, 1, 0] rfl
  · have hF := (if_pos c2).symm.trans hF
    refine z_aload_n (q := 19) C dX8_pass_18 1 rfl rfl rfl ?_
    refine z_aload_n (q := 20) C dX8_pass_19 2 rfl rfl rfl ?_
    refine z_iload_n (q := 21) C dX8_pass_20 4 rfl rfl rfl ?_
    obtain ⟨h3, eh3, hF⟩ := zb_e hF
    refine z_callV (q := 24) (o := o0) (av := [.ref (zα κ o1), .int (zi a3)]) (rest := []) (stk2 := []) C hR clX8 (zon C ho0) hd0 (M_fX8_dawn (zlv hd rfl) ho0 hd0 ho1 hd1 eh3) mY_X8_dawn q_723 (Nat.le_of_ble_eq_true rfl) dX8_pass_21 rfl rfl rfl ?_
    refine z_iconst (q := 25) C dX8_pass_24 rfl ?_
    refine z_istore (q := 27) C dX8_pass_25 (by decide) rfl rfl ?_
    exact z_sub (J_fX8_pass_c27 C hR hd ho0 hd0 ho1 hd1 e1 e2 N _ _ _ hF) [2, 3, 4, 1, 0] rfl
set_option maxRecDepth 20000 in
set_option maxHeartbeats 4000000 in
theorem M_fX8_pass {l : Launch} {D : va_G} {cy : ClassId} {α : Nat → Nat} {n : Nat} {σ : zSg} {d : Nat} (hd : 6 ≤ d) {N : Nat} {o0 : Nat} (ho0 : o0 < zN) (hd0 : zkd o0 = 8) {o1 : Nat} (ho1 : o1 < zN) (hd1 : zkd o1 = 1) {a3 : Int} {h : zH} {g : zH} (hF : fX8_pass N o0 o1 a3 h = some g) : zMet l yX8_pass cX8_pass 6 none (zrm d) D cy α n σ [.ref (α o0), .ref (α o1), .ref (α 5), .int (zi a3)] h (none) g := by
  obtain ⟨d, rfl⟩ : ∃ e, d = e + 1 := ⟨d - 1, by omega⟩
  refine z_met (by decide +kernel) (Nat.le_of_ble_eq_true rfl) (fun κ k1 k2 k3 k4 k5 k6 k7 k8 k9 C => ?_)
  subst k1 k3 k4 k5 k6 k7
  exact J_fX8_pass C k2 hd ho0 hd0 ho1 hd1 k8 k9 hF
set_option maxRecDepth 20000 in
set_option maxHeartbeats 4000000 in
theorem J_fX10_go_c15b {κ : zT} (C : zC κ RX10 cX10_go 3 (some .int)) {d : Nat} (hR : zR κ = zrm (d + 1)) (hd : 7 ≤ d + 1) {N : Nat} {r : Int × zH} (e1 : zrv κ = some (.int (zi r.1))) (e2 : zhf κ = r.2) {K15 : Int → Int → zH → Option (Int × zH)} (hK15 : ∀ (l1 : Int) (l2 : Int) (h : zH), K15 l1 l2 h = some r → Z κ h 15 [(0, .ref (zα κ 0)), (1, .int (zi l1)), (2, .int (zi l2))] []) (l1 : Int) (l2 : Int) (h : zH) (hF : fX10_go_c15b N K15 l1 l2 h = some r) : Z κ h 15 [(0, .ref (zα κ 0)), (1, .int (zi l1)), (2, .int (zi l2))] [] := by
  unfold fX10_go_c15b at hF
  refine z_iload_n (q := 16) C dX10_go_15 2 rfl rfl rfl ?_
  refine z_iload_n (q := 17) C dX10_go_16 1 rfl rfl rfl ?_
  refine z_icmp_ge (tgt := 53) (q := 20) C dX10_go_17 (by decide) rfl (fun c1 => ?_) (fun c1 => ?_)
  · have hF := (if_pos c1).symm.trans hF
    refine z_aload_n (q := 54) C dX10_go_53 0 rfl rfl rfl ?_
    refine z_getf (q := 57) C clX10 (zon C zo_0) kd_0 (k := 6) (by decide) q_277 rfl (zfv_r kd_0 rfl fr_0_6) dX10_go_54 rfl ?_
    refine z_callV (q := 60) (o := 7) (av := []) (rest := []) (stk2 := [.int (zi (fX8_hour 7 h))]) C hR clX8 (zon C zo_7) kd_7 (M_fX8_hour (zlv hd rfl) zo_7 kd_7 rfl) mY_X8_hour q_717 (Nat.le_of_ble_eq_true rfl) dX10_go_57 rfl rfl rfl ?_
    have hF := Option.some.inj hF
    subst hF
    exact z_iret C e1 e2 dX10_go_60
  · have hF := (if_neg c1).symm.trans hF
    refine z_aload_n (q := 21) C dX10_go_20 0 rfl rfl rfl ?_
    refine z_getf (q := 24) C clX10 (zon C zo_0) kd_0 (k := 9) (by decide) q_280 rfl (zfv_r kd_0 rfl fr_0_9) dX10_go_21 rfl ?_
    refine z_aload_n (q := 25) C dX10_go_24 0 rfl rfl rfl ?_
    refine z_getf (q := 28) C clX10 (zon C zo_0) kd_0 (k := 6) (by decide) q_277 rfl (zfv_r kd_0 rfl fr_0_6) dX10_go_25 rfl ?_
    obtain ⟨h2, eh2, hF⟩ := zb_e hF
    refine z_callV (q := 31) (o := 10) (av := [.ref (zα κ 7)]) (rest := []) (stk2 := []) C hR clX0 (zon C zo_10) kd_10 (M_fX0_keep (zlv hd rfl) zo_7 kd_7 eh2) mY_X0_keep q_686 (Nat.le_of_ble_eq_true rfl) dX10_go_28 rfl rfl rfl ?_
    refine z_aload_n (q := 32) C dX10_go_31 0 rfl rfl rfl ?_
    refine z_getf (q := 35) C clX10 (zon C zo_0) kd_0 (k := 6) (by decide) q_277 rfl (zfv_r kd_0 rfl fr_0_6) dX10_go_32 rfl ?_
    refine z_aload_n (q := 36) C dX10_go_35 0 rfl rfl rfl ?_
    refine z_getf (q := 39) C clX10 (zon C zo_0) kd_0 (k := 1) (by decide) q_272 rfl (zfv_r kd_0 rfl fr_0_1) dX10_go_36 rfl ?_
    refine z_aload_n (q := 40) C dX10_go_39 0 rfl rfl rfl ?_
    refine z_getf (q := 43) C clX10 (zon C zo_0) kd_0 (k := 4) (by decide) q_275 rfl (zfv_r kd_0 rfl fr_0_4) dX10_go_40 rfl ?_
    refine z_iconst (q := 44) C dX10_go_43 rfl ?_
    obtain ⟨h3, eh3, hF⟩ := zb_e hF
    refine z_callV (q := 47) (o := 7) (av := [.ref (zα κ 2), .ref (zα κ 5), .int (zi 0)]) (rest := []) (stk2 := []) C hR clX8 (zon C zo_7) kd_7 (M_fX8_pass (zlv hd rfl) zo_7 kd_7 zo_2 kd_2 eh3) mY_X8_pass q_718 (Nat.le_of_ble_eq_true rfl) dX10_go_44 rfl rfl rfl ?_
    refine z_iinc (q := 50) (x := l2) C dX10_go_47 (j := 2) rfl (by decide) rfl rfl ?_
    refine z_goto (q := 15) C dX10_go_50 (by decide) ?_
    exact z_sub (hK15 _ _ _ hF) [1, 2, 0] rfl
set_option maxRecDepth 20000 in
set_option maxHeartbeats 4000000 in
theorem J_fX10_go_c15 {κ : zT} (C : zC κ RX10 cX10_go 3 (some .int)) {d : Nat} (hR : zR κ = zrm (d + 1)) (hd : 7 ≤ d + 1) {N : Nat} {r : Int × zH} (e1 : zrv κ = some (.int (zi r.1))) (e2 : zhf κ = r.2) : ∀ (k : Nat) (l1 : Int) (l2 : Int) (h : zH), fX10_go_c15 N k l1 l2 h = some r → Z κ h 15 [(0, .ref (zα κ 0)), (1, .int (zi l1)), (2, .int (zi l2))] [] := by
  intro k
  induction k with
  | zero => intro l1 l2 h hF; cases hF
  | succ k ih => intro l1 l2 h hF; exact J_fX10_go_c15b C hR hd e1 e2 ih l1 l2 h hF
set_option maxRecDepth 20000 in
set_option maxHeartbeats 4000000 in
theorem J_fX10_go {κ : zT} (C : zC κ RX10 cX10_go 3 (some .int)) {d : Nat} (hR : zR κ = zrm (d + 1)) (hd : 7 ≤ d + 1) {N : Nat} {r : Int × zH} (e1 : zrv κ = some (.int (zi r.1))) (e2 : zhf κ = r.2) {a1 : Int} {h : zH} (hF : fX10_go N a1 h = some r) : Z κ h 0 [(0, .ref (zα κ 0)), (1, .int (zi a1))] [] := by
  unfold fX10_go at hF
  refine z_aload_n (q := 1) C dX10_go_0 0 rfl rfl rfl ?_
  refine z_iload_n (q := 2) C dX10_go_1 1 rfl rfl rfl ?_
  refine z_sipush (q := 5) C dX10_go_2 sp_240 rfl ?_
  refine z_callV (q := 8) (o := 0) (av := [.int (zi a1), .int (zi 240)]) (rest := []) (stk2 := [.int (zi (fX10_canPass a1 240 h))]) C hR clX10 (zon C zo_0) kd_0 (M_fX10_canPass (zlv hd rfl) rfl) mY_X10_canPass q_713 (Nat.le_of_ble_eq_true rfl) dX10_go_5 rfl rfl rfl ?_
  refine z_if_ne (tgt := 13) (q := 11) C dX10_go_8 (by decide) rfl (fun c1 => ?_) (fun c1 => ?_)
  · have hF := (if_neg c1).symm.trans hF
    refine z_iconst (q := 14) C dX10_go_13 rfl ?_
    refine z_istore_n (q := 15) C dX10_go_14 (by decide) rfl rfl rfl ?_
    exact z_sub (J_fX10_go_c15 C hR hd e1 e2 N _ _ _ hF) [1, 2, 0] rfl
  · have hF := (if_pos c1).symm.trans hF
    refine z_iconst (q := 12) C dX10_go_11 rfl ?_
    have hF := Option.some.inj hF
    subst hF
    exact z_iret C e1 e2 dX10_go_12
set_option maxRecDepth 20000 in
set_option maxHeartbeats 4000000 in
theorem M_fX10_go {l : Launch} {D : va_G} {cy : ClassId} {α : Nat → Nat} {n : Nat} {σ : zSg} {d : Nat} (hd : 7 ≤ d) {N : Nat} {a1 : Int} {h : zH} {r : Int} {g : zH} (hF : fX10_go N a1 h = some (r, g)) : zMet l yX10_go cX10_go 3 (some .int) (zrm d) D cy α n σ [.ref (α 0), .int (zi a1)] h (some (.int (zi r))) g := by
  obtain ⟨d, rfl⟩ : ∃ e, d = e + 1 := ⟨d - 1, by omega⟩
  refine z_met (by decide +kernel) (Nat.le_of_ble_eq_true rfl) (fun κ k1 k2 k3 k4 k5 k6 k7 k8 k9 C => ?_)
  subst k1 k3 k4 k5 k6 k7
  exact J_fX10_go C k2 hd k8 k9 hF
set_option maxRecDepth 20000 in
set_option maxHeartbeats 4000000 in
theorem J_fX8_isIdle {κ : zT} (C : zC κ RX8 cX8_isIdle 3 (some .boolean)) {d : Nat} (hR : zR κ = zrm (d + 1)) (hd : 3 ≤ d + 1) {o0 : Nat} (ho0 : o0 < zN) (hd0 : zkd o0 = 8) {o1 : Nat} (ho1 : o1 < zN) (hd1 : zkd o1 = 1) {h : zH} {r : Int} (e1 : zrv κ = some (.int (zi r))) (e2 : zhf κ = h) {a2 : Int} (hF : fX8_isIdle o0 o1 a2 h = r) : Z κ h 0 [(0, .ref (zα κ o0)), (1, .ref (zα κ o1)), (2, .int (zi a2))] [] := by
  unfold fX8_isIdle at hF
  refine z_aload_n (q := 1) C dX8_isIdle_0 0 rfl rfl rfl ?_
  refine z_iconst (q := 2) C dX8_isIdle_1 rfl ?_
  refine z_iload_n (q := 3) C dX8_isIdle_2 2 rfl rfl rfl ?_
  refine z_callV (q := 6) (o := o0) (av := [.int (zi 1), .int (zi a2)]) (rest := []) (stk2 := [.int (zi (fX8_of o0 1 a2 h))]) C hR clX8 (zon C ho0) hd0 (M_fX8_of (zlv hd rfl) ho0 hd0 rfl) mY_X8_of q_639 (Nat.le_of_ble_eq_true rfl) dX8_isIdle_3 rfl rfl rfl ?_
  refine z_iconst (q := 7) C dX8_isIdle_6 rfl ?_
  refine z_icmp_ne (tgt := 33) (q := 10) C dX8_isIdle_7 (by decide) rfl (fun c1 => ?_) (fun c1 => ?_)
  · have hF := (if_neg c1).symm.trans hF
    refine z_iconst (q := 34) C dX8_isIdle_33 rfl ?_
    subst hF
    exact z_zret C (zb01 (Or.inl rfl)) e1 e2 dX8_isIdle_34
  · have hF := (if_pos c1).symm.trans hF
    refine z_aload_n (q := 11) C dX8_isIdle_10 0 rfl rfl rfl ?_
    refine z_iconst (q := 12) C dX8_isIdle_11 rfl ?_
    refine z_iload_n (q := 13) C dX8_isIdle_12 2 rfl rfl rfl ?_
    refine z_callV (q := 16) (o := o0) (av := [.int (zi 0), .int (zi a2)]) (rest := []) (stk2 := [.int (zi (fX8_of o0 0 a2 h))]) C hR clX8 (zon C ho0) hd0 (M_fX8_of (zlv hd rfl) ho0 hd0 rfl) mY_X8_of q_639 (Nat.le_of_ble_eq_true rfl) dX8_isIdle_13 rfl rfl rfl ?_
    refine z_aload_n (q := 17) C dX8_isIdle_16 1 rfl rfl rfl ?_
    refine z_iconst (q := 18) C dX8_isIdle_17 rfl ?_
    refine z_iload_n (q := 19) C dX8_isIdle_18 2 rfl rfl rfl ?_
    refine z_iconst (q := 20) C dX8_isIdle_19 rfl ?_
    refine z_callV (q := 23) (o := o1) (av := [.int (zi 1), .int (zi a2), .int (zi 0)]) (rest := [.int (zi (fX8_of o0 0 a2 h))]) (stk2 := [.int (zi (fX1_item o1 1 a2 0 h)), .int (zi (fX8_of o0 0 a2 h))]) C hR clX1 (zon C ho1) hd1 (M_fX1_item (zlv hd rfl) ho1 hd1 rfl) mY_X1_item q_699 (Nat.le_of_ble_eq_true rfl) dX8_isIdle_20 rfl rfl rfl ?_
    obtain ⟨v2, ev2, hF⟩ := zlet_e hF
    refine z_callSN (q := 26) (av := [.int (zi (fX8_of o0 0 a2 h)), .int (zi (fX1_item o1 1 a2 0 h))]) (rest := []) (stk2 := [.int (zi v2)]) C hR (M_fX10_isIn (zlv hd rfl) ev2.symm) mY_X10_isIn q_681 (Nat.le_of_ble_eq_true rfl) dX8_isIdle_23 rfl rfl rfl ?_
    refine z_if_ne (tgt := 33) (q := 29) C dX8_isIdle_26 (by decide) rfl (fun c3 => ?_) (fun c3 => ?_)
    · have hF := (if_neg c3).symm.trans hF
      refine z_iconst (q := 34) C dX8_isIdle_33 rfl ?_
      subst hF
      exact z_zret C (zb01 (Or.inl rfl)) e1 e2 dX8_isIdle_34
    · have hF := (if_pos c3).symm.trans hF
      refine z_iconst (q := 30) C dX8_isIdle_29 rfl ?_
      refine z_goto (q := 34) C dX8_isIdle_30 (by decide) ?_
      subst hF
      exact z_zret C (zb01 (Or.inr rfl)) e1 e2 dX8_isIdle_34
set_option maxRecDepth 20000 in
set_option maxHeartbeats 4000000 in
theorem M_fX8_isIdle {l : Launch} {D : va_G} {cy : ClassId} {α : Nat → Nat} {n : Nat} {σ : zSg} {d : Nat} (hd : 3 ≤ d) {o0 : Nat} (ho0 : o0 < zN) (hd0 : zkd o0 = 8) {o1 : Nat} (ho1 : o1 < zN) (hd1 : zkd o1 = 1) {a2 : Int} {h : zH} {r : Int} (hF : fX8_isIdle o0 o1 a2 h = r) : zMet l yX8_isIdle cX8_isIdle 3 (some .boolean) (zrm d) D cy α n σ [.ref (α o0), .ref (α o1), .int (zi a2)] h (some (.int (zi r))) h := by
  obtain ⟨d, rfl⟩ : ∃ e, d = e + 1 := ⟨d - 1, by omega⟩
  refine z_met (by decide +kernel) (Nat.le_of_ble_eq_true rfl) (fun κ k1 k2 k3 k4 k5 k6 k7 k8 k9 C => ?_)
  subst k1 k3 k4 k5 k6 k7
  exact J_fX8_isIdle C k2 hd ho0 hd0 ho1 hd1 k8 k9 hF
theorem B_fX8_isIdle {o0 : Nat} {o1 : Nat} {a2 : Int} {h : zH} : fX8_isIdle o0 o1 a2 h = 0 ∨ fX8_isIdle o0 o1 a2 h = 1 := by
  unfold fX8_isIdle
  try simp only [zlet, zlet2]
  repeat' (first | exact Or.inl rfl | exact Or.inr rfl | exact B_fX10_isIn | apply zite01)
