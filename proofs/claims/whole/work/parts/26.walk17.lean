set_option maxRecDepth 20000 in
set_option maxHeartbeats 4000000 in
theorem J_fX11_works_c67b {κ : zT} (C : zC κ RX11 cX11_works 8 (some .int)) {d : Nat} (hR : zR κ = zrm (d + 1)) (hd : 2 ≤ d + 1) {N : Nat} {h : zH} {r : Int} (e1 : zrv κ = some (.int (zi r))) (e2 : zhf κ = h) {K47 : Int → Int → Int → Int → Int → Option Int} (hK47 : ∀ (l1 : Int) (l2 : Int) (l3 : Int) (l4 : Int) (l5 : Int), K47 l1 l2 l3 l4 l5 = some r → Z κ h 47 [(0, .ref (zα κ 14)), (1, .int (zi l1)), (2, .int (zi l2)), (3, .int (zi l3)), (4, .int (zi l4)), (5, .int (zi l5))] []) {K67 : Int → Int → Int → Int → Int → Int → Int → Option Int} (hK67 : ∀ (l1 : Int) (l2 : Int) (l3 : Int) (l4 : Int) (l5 : Int) (l6 : Int) (l7 : Int), K67 l1 l2 l3 l4 l5 l6 l7 = some r → Z κ h 67 [(0, .ref (zα κ 14)), (1, .int (zi l1)), (2, .int (zi l2)), (3, .int (zi l3)), (4, .int (zi l4)), (5, .int (zi l5)), (6, .int (zi l6)), (7, .int (zi l7))] []) (l1 : Int) (l2 : Int) (l3 : Int) (l4 : Int) (l5 : Int) (l6 : Int) (l7 : Int) (hF : fX11_works_c67b N h K47 K67 l1 l2 l3 l4 l5 l6 l7 = some r) : Z κ h 67 [(0, .ref (zα κ 14)), (1, .int (zi l1)), (2, .int (zi l2)), (3, .int (zi l3)), (4, .int (zi l4)), (5, .int (zi l5)), (6, .int (zi l6)), (7, .int (zi l7))] [] := by
  unfold fX11_works_c67b at hF
  refine z_iload (q := 69) C dX11_works_67 7 rfl rfl ?_
  refine z_iload_n (q := 70) C dX11_works_69 1 rfl rfl rfl ?_
  refine z_icmp_ge (tgt := 101) (q := 73) C dX11_works_70 (by decide) rfl (fun c1 => ?_) (fun c1 => ?_)
  · have hF := (if_pos c1).symm.trans hF
    refine z_iload (q := 103) C dX11_works_101 6 rfl rfl ?_
    refine z_iload (q := 105) C dX11_works_103 4 rfl rfl ?_
    refine z_icmp_le (tgt := 113) (q := 108) C dX11_works_105 (by decide) rfl (fun c2 => ?_) (fun c2 => ?_)
    · have hF := (if_pos c2).symm.trans hF
      refine z_iload_n (q := 114) C dX11_works_113 3 rfl rfl rfl ?_
      refine z_istore_n (q := 115) C dX11_works_114 (by decide) rfl rfl rfl ?_
      refine z_iload (q := 117) C dX11_works_115 4 rfl rfl ?_
      refine z_iload (q := 119) C dX11_works_117 6 rfl rfl ?_
      refine z_callS (q := 122) (av := [.int (zi l4), .int (zi l6)]) (rest := []) (stk2 := [.int (zi (fJ9_max_7cf53 l4 l6))]) C hR (M_fJ9_max_7cf53 (zlv hd rfl) rfl) mY_J9_max_7cf53 q_1721 (Nat.le_of_ble_eq_true rfl) dX11_works_119 rfl rfl rfl ?_
      obtain ⟨v3, ev3, hF⟩ := zlet_e hF
      refine z_istoreE (q := 124) C ev3 dX11_works_122 (by decide) rfl rfl ?_
      refine z_iinc (q := 127) (x := l5) C dX11_works_124 (j := 5) rfl (by decide) rfl rfl ?_
      refine z_goto (q := 47) C dX11_works_127 (by decide) ?_
      exact z_sub (hK47 _ _ _ _ _ hF) [3, 4, 5, 2, 1, 0] rfl
    · have hF := (if_neg c2).symm.trans hF
      refine z_iload (q := 110) C dX11_works_108 5 rfl rfl ?_
      refine z_goto (q := 114) C dX11_works_110 (by decide) ?_
      refine z_istore_n (q := 115) C dX11_works_114 (by decide) rfl rfl rfl ?_
      refine z_iload (q := 117) C dX11_works_115 4 rfl rfl ?_
      refine z_iload (q := 119) C dX11_works_117 6 rfl rfl ?_
      refine z_callS (q := 122) (av := [.int (zi l4), .int (zi l6)]) (rest := []) (stk2 := [.int (zi (fJ9_max_7cf53 l4 l6))]) C hR (M_fJ9_max_7cf53 (zlv hd rfl) rfl) mY_J9_max_7cf53 q_1721 (Nat.le_of_ble_eq_true rfl) dX11_works_119 rfl rfl rfl ?_
      obtain ⟨v4, ev4, hF⟩ := zlet_e hF
      refine z_istoreE (q := 124) C ev4 dX11_works_122 (by decide) rfl rfl ?_
      refine z_iinc (q := 127) (x := l5) C dX11_works_124 (j := 5) rfl (by decide) rfl rfl ?_
      refine z_goto (q := 47) C dX11_works_127 (by decide) ?_
      exact z_sub (hK47 _ _ _ _ _ hF) [3, 4, 5, 2, 1, 0] rfl
  · have hF := (if_neg c1).symm.trans hF
    refine z_iload (q := 75) C dX11_works_73 6 rfl rfl ?_
    refine z_aload_n (q := 76) C dX11_works_75 0 rfl rfl rfl ?_
    refine z_getf (q := 79) C clX11 (zon C zo_14) kd_14 (k := 34) (by decide) q_1136 rfl (zfv_r kd_14 rfl fr_14_34) dX11_works_76 rfl ?_
    refine z_bipush (q := 81) C dX11_works_79 bp_45 rfl ?_
    refine z_iconst (q := 82) C dX11_works_81 rfl ?_
    refine z_iload (q := 84) C dX11_works_82 5 rfl rfl ?_
    refine z_iload (q := 86) C dX11_works_84 7 rfl rfl ?_
    refine z_iadd (q := 87) C dX11_works_86 rfl ?_
    refine z_imul (q := 88) C dX11_works_87 rfl ?_
    refine z_iadd (q := 89) C dX11_works_88 rfl ?_
    refine z_iconst (q := 90) C dX11_works_89 rfl ?_
    refine z_iadd (q := 91) C dX11_works_90 rfl ?_
    obtain ⟨g5, hF⟩ := zif_none hF
    refine z_iald (q := 92) C (zon C zo_69) kd_69 g5.1 (by rw [ln_69]; exact g5.2) dX11_works_91 rfl ?_
    refine z_iadd (q := 93) C dX11_works_92 rfl ?_
    obtain ⟨v6, ev6, hF⟩ := zlet_e hF
    refine z_istoreE (q := 95) C ev6 dX11_works_93 (by decide) rfl rfl ?_
    refine z_iinc (q := 98) (x := l7) C dX11_works_95 (j := 7) rfl (by decide) rfl rfl ?_
    refine z_goto (q := 67) C dX11_works_98 (by decide) ?_
    exact z_sub (hK67 _ _ _ _ _ _ _ hF) [2, 3, 4, 5, 6, 7, 1, 0] rfl
set_option maxRecDepth 20000 in
set_option maxHeartbeats 4000000 in
theorem J_fX11_works_c67 {κ : zT} (C : zC κ RX11 cX11_works 8 (some .int)) {d : Nat} (hR : zR κ = zrm (d + 1)) (hd : 2 ≤ d + 1) {N : Nat} {h : zH} {r : Int} (e1 : zrv κ = some (.int (zi r))) (e2 : zhf κ = h) {K47 : Int → Int → Int → Int → Int → Option Int} (hK47 : ∀ (l1 : Int) (l2 : Int) (l3 : Int) (l4 : Int) (l5 : Int), K47 l1 l2 l3 l4 l5 = some r → Z κ h 47 [(0, .ref (zα κ 14)), (1, .int (zi l1)), (2, .int (zi l2)), (3, .int (zi l3)), (4, .int (zi l4)), (5, .int (zi l5))] []) : ∀ (k : Nat) (l1 : Int) (l2 : Int) (l3 : Int) (l4 : Int) (l5 : Int) (l6 : Int) (l7 : Int), fX11_works_c67 N h K47 k l1 l2 l3 l4 l5 l6 l7 = some r → Z κ h 67 [(0, .ref (zα κ 14)), (1, .int (zi l1)), (2, .int (zi l2)), (3, .int (zi l3)), (4, .int (zi l4)), (5, .int (zi l5)), (6, .int (zi l6)), (7, .int (zi l7))] [] := by
  intro k
  induction k with
  | zero => intro l1 l2 l3 l4 l5 l6 l7 hF; cases hF
  | succ k ih => intro l1 l2 l3 l4 l5 l6 l7 hF; exact J_fX11_works_c67b C hR hd e1 e2 hK47 ih l1 l2 l3 l4 l5 l6 l7 hF
set_option maxRecDepth 20000 in
set_option maxHeartbeats 4000000 in
theorem J_fX11_works_c47b {κ : zT} (C : zC κ RX11 cX11_works 8 (some .int)) {d : Nat} (hR : zR κ = zrm (d + 1)) (hd : 2 ≤ d + 1) {N : Nat} {h : zH} {r : Int} (e1 : zrv κ = some (.int (zi r))) (e2 : zhf κ = h) {K47 : Int → Int → Int → Int → Int → Option Int} (hK47 : ∀ (l1 : Int) (l2 : Int) (l3 : Int) (l4 : Int) (l5 : Int), K47 l1 l2 l3 l4 l5 = some r → Z κ h 47 [(0, .ref (zα κ 14)), (1, .int (zi l1)), (2, .int (zi l2)), (3, .int (zi l3)), (4, .int (zi l4)), (5, .int (zi l5))] []) (l1 : Int) (l2 : Int) (l3 : Int) (l4 : Int) (l5 : Int) (hF : fX11_works_c47b N h K47 l1 l2 l3 l4 l5 = some r) : Z κ h 47 [(0, .ref (zα κ 14)), (1, .int (zi l1)), (2, .int (zi l2)), (3, .int (zi l3)), (4, .int (zi l4)), (5, .int (zi l5))] [] := by
  unfold fX11_works_c47b at hF
  refine z_iload (q := 49) C dX11_works_47 5 rfl rfl ?_
  refine z_iload_n (q := 50) C dX11_works_49 1 rfl rfl rfl ?_
  refine z_iadd (q := 51) C dX11_works_50 rfl ?_
  refine z_aload_n (q := 52) C dX11_works_51 0 rfl rfl rfl ?_
  refine z_getf (q := 55) C clX11 (zon C zo_14) kd_14 (k := 34) (by decide) q_1136 rfl (zfv_r kd_14 rfl fr_14_34) dX11_works_52 rfl ?_
  refine z_bipush (q := 57) C dX11_works_55 bp_44 rfl ?_
  refine z_ialdc (q := 58) (j := 44) C (zon C zo_69) kd_69 zwk_44 (by rw [ln_69]; decide) dX11_works_57 rfl ?_
  refine z_icmp_gt (tgt := 130) (q := 61) C dX11_works_58 (by decide) rfl (fun c1 => ?_) (fun c1 => ?_)
  · have hF := (if_pos c1).symm.trans hF
    refine z_iload_n (q := 131) C dX11_works_130 2 rfl rfl rfl ?_
    refine z_if_ne (tgt := 138) (q := 134) C dX11_works_131 (by decide) rfl (fun c2 => ?_) (fun c2 => ?_)
    · have hF := (if_neg c2).symm.trans hF
      refine z_iload (q := 140) C dX11_works_138 4 rfl rfl ?_
      have hF := Option.some.inj hF
      subst hF
      exact z_iret C e1 e2 dX11_works_140
    · have hF := (if_pos c2).symm.trans hF
      refine z_iload_n (q := 135) C dX11_works_134 3 rfl rfl rfl ?_
      refine z_goto (q := 140) C dX11_works_135 (by decide) ?_
      have hF := Option.some.inj hF
      subst hF
      exact z_iret C e1 e2 dX11_works_140
  · have hF := (if_neg c1).symm.trans hF
    refine z_iconst (q := 62) C dX11_works_61 rfl ?_
    refine z_istore (q := 64) C dX11_works_62 (by decide) rfl rfl ?_
    refine z_iconst (q := 65) C dX11_works_64 rfl ?_
    refine z_istore (q := 67) C dX11_works_65 (by decide) rfl rfl ?_
    exact z_sub (J_fX11_works_c67 C hR hd e1 e2 hK47 N _ _ _ _ _ _ _ hF) [2, 3, 4, 5, 6, 7, 1, 0] rfl
set_option maxRecDepth 20000 in
set_option maxHeartbeats 4000000 in
theorem J_fX11_works_c47 {κ : zT} (C : zC κ RX11 cX11_works 8 (some .int)) {d : Nat} (hR : zR κ = zrm (d + 1)) (hd : 2 ≤ d + 1) {N : Nat} {h : zH} {r : Int} (e1 : zrv κ = some (.int (zi r))) (e2 : zhf κ = h) : ∀ (k : Nat) (l1 : Int) (l2 : Int) (l3 : Int) (l4 : Int) (l5 : Int), fX11_works_c47 N h k l1 l2 l3 l4 l5 = some r → Z κ h 47 [(0, .ref (zα κ 14)), (1, .int (zi l1)), (2, .int (zi l2)), (3, .int (zi l3)), (4, .int (zi l4)), (5, .int (zi l5))] [] := by
  intro k
  induction k with
  | zero => intro l1 l2 l3 l4 l5 hF; cases hF
  | succ k ih => intro l1 l2 l3 l4 l5 hF; exact J_fX11_works_c47b C hR hd e1 e2 ih l1 l2 l3 l4 l5 hF
set_option maxRecDepth 20000 in
set_option maxHeartbeats 4000000 in
theorem J_fX11_works {κ : zT} (C : zC κ RX11 cX11_works 8 (some .int)) {d : Nat} (hR : zR κ = zrm (d + 1)) (hd : 2 ≤ d + 1) {N : Nat} {h : zH} {r : Int} (e1 : zrv κ = some (.int (zi r))) (e2 : zhf κ = h) {a1 : Int} {a2 : Int} (hF : fX11_works N a1 a2 h = some r) : Z κ h 0 [(0, .ref (zα κ 14)), (1, .int (zi a1)), (2, .int (zi a2))] [] := by
  unfold fX11_works at hF
  refine z_aload_n (q := 1) C dX11_works_0 0 rfl rfl rfl ?_
  refine z_getf (q := 4) C clX11 (zon C zo_14) kd_14 (k := 28) (by decide) q_1130 rfl (zfv_i kd_14 rfl) dX11_works_1 rfl ?_
  refine z_if_eq (tgt := 37) (q := 7) C dX11_works_4 (by decide) rfl (fun c1 => ?_) (fun c1 => ?_)
  · have hF := (if_pos c1).symm.trans hF
    refine z_iconst (q := 38) C dX11_works_37 rfl ?_
    have hF := Option.some.inj hF
    subst hF
    exact z_iret C e1 e2 dX11_works_38
  · have hF := (if_neg c1).symm.trans hF
    refine z_iload_n (q := 8) C dX11_works_7 1 rfl rfl rfl ?_
    refine z_iconst (q := 9) C dX11_works_8 rfl ?_
    refine z_bipush (q := 11) C dX11_works_9 bp_9 rfl ?_
    refine z_callS (q := 14) (av := [.int (zi a1), .int (zi 1), .int (zi 9)]) (rest := []) (stk2 := [.int (zi (fX11_in a1 1 9))]) C hR (M_fX11_in (zlv hd rfl) rfl) mY_X11_in q_1314 (Nat.le_of_ble_eq_true rfl) dX11_works_11 rfl rfl rfl ?_
    refine z_if_eq (tgt := 37) (q := 17) C dX11_works_14 (by decide) rfl (fun c2 => ?_) (fun c2 => ?_)
    · have hF := (if_pos c2).symm.trans hF
      refine z_iconst (q := 38) C dX11_works_37 rfl ?_
      have hF := Option.some.inj hF
      subst hF
      exact z_iret C e1 e2 dX11_works_38
    · have hF := (if_neg c2).symm.trans hF
      refine z_iload_n (q := 18) C dX11_works_17 2 rfl rfl rfl ?_
      refine z_iconst (q := 19) C dX11_works_18 rfl ?_
      refine z_iconst (q := 20) C dX11_works_19 rfl ?_
      refine z_callS (q := 23) (av := [.int (zi a2), .int (zi 0), .int (zi 1)]) (rest := []) (stk2 := [.int (zi (fX11_in a2 0 1))]) C hR (M_fX11_in (zlv hd rfl) rfl) mY_X11_in q_1314 (Nat.le_of_ble_eq_true rfl) dX11_works_20 rfl rfl rfl ?_
      refine z_if_eq (tgt := 37) (q := 26) C dX11_works_23 (by decide) rfl (fun c3 => ?_) (fun c3 => ?_)
      · have hF := (if_pos c3).symm.trans hF
        refine z_iconst (q := 38) C dX11_works_37 rfl ?_
        have hF := Option.some.inj hF
        subst hF
        exact z_iret C e1 e2 dX11_works_38
      · have hF := (if_neg c3).symm.trans hF
        refine z_aload_n (q := 27) C dX11_works_26 0 rfl rfl rfl ?_
        refine z_getf (q := 30) C clX11 (zon C zo_14) kd_14 (k := 34) (by decide) q_1136 rfl (zfv_r kd_14 rfl fr_14_34) dX11_works_27 rfl ?_
        refine z_bipush (q := 32) C dX11_works_30 bp_44 rfl ?_
        refine z_ialdc (q := 33) (j := 44) C (zon C zo_69) kd_69 zwk_44 (by rw [ln_69]; decide) dX11_works_32 rfl ?_
        refine z_iload_n (q := 34) C dX11_works_33 1 rfl rfl rfl ?_
        refine z_icmp_ge (tgt := 39) (q := 37) C dX11_works_34 (by decide) rfl (fun c4 => ?_) (fun c4 => ?_)
        · have hF := (if_pos c4).symm.trans hF
          refine z_iconst (q := 40) C dX11_works_39 rfl ?_
          refine z_istore_n (q := 41) C dX11_works_40 (by decide) rfl rfl rfl ?_
          refine z_iconst (q := 42) C dX11_works_41 rfl ?_
          refine z_istore (q := 44) C dX11_works_42 (by decide) rfl rfl ?_
          refine z_iconst (q := 45) C dX11_works_44 rfl ?_
          refine z_istore (q := 47) C dX11_works_45 (by decide) rfl rfl ?_
          exact z_sub (J_fX11_works_c47 C hR hd e1 e2 N _ _ _ _ _ hF) [3, 4, 5, 2, 1, 0] rfl
        · have hF := (if_neg c4).symm.trans hF
          refine z_iconst (q := 38) C dX11_works_37 rfl ?_
          have hF := Option.some.inj hF
          subst hF
          exact z_iret C e1 e2 dX11_works_38
set_option maxRecDepth 20000 in
set_option maxHeartbeats 4000000 in
theorem M_fX11_works {l : Launch} {D : va_G} {cy : ClassId} {α : Nat → Nat} {n : Nat} {σ : zSg} {d : Nat} (hd : 2 ≤ d) {N : Nat} {a1 : Int} {a2 : Int} {h : zH} {r : Int} (hF : fX11_works N a1 a2 h = some r) : zMet l yX11_works cX11_works 8 (some .int) (zrm d) D cy α n σ [.ref (α 14), .int (zi a1), .int (zi a2)] h (some (.int (zi r))) h := by
  obtain ⟨d, rfl⟩ : ∃ e, d = e + 1 := ⟨d - 1, by omega⟩
  refine z_met (by decide +kernel) (Nat.le_of_ble_eq_true rfl) (fun κ k1 k2 k3 k4 k5 k6 k7 k8 k9 C => ?_)
  subst k1 k3 k4 k5 k6 k7
  exact J_fX11_works C k2 hd k8 k9 hF
set_option maxRecDepth 20000 in
set_option maxHeartbeats 4000000 in
theorem J_fX11_isIdle {κ : zT} (C : zC κ RX11 cX11_isIdle 2 (some .boolean)) {d : Nat} (hR : zR κ = zrm (d + 1)) (hd : 2 ≤ d + 1) {h : zH} {r : Int} (e1 : zrv κ = some (.int (zi r))) (e2 : zhf κ = h) {a1 : Int} (hF : fX11_isIdle a1 h = some r) : Z κ h 0 [(0, .ref (zα κ 14)), (1, .int (zi a1))] [] := by
  unfold fX11_isIdle at hF
  refine z_aload_n (q := 1) C dX11_isIdle_0 0 rfl rfl rfl ?_
  refine z_iload_n (q := 2) C dX11_isIdle_1 1 rfl rfl rfl ?_
  refine z_iconst (q := 3) C dX11_isIdle_2 rfl ?_
  obtain ⟨v1, ev1, hF⟩ := zb_e hF
  refine z_callV (q := 6) (o := 14) (av := [.int (zi a1), .int (zi 1)]) (rest := []) (stk2 := [.int (zi v1)]) C hR clX11 (zon C zo_14) kd_14 (M_fX11_of (zlv hd rfl) ev1) mY_X11_of q_1430 (Nat.le_of_ble_eq_true rfl) dX11_isIdle_3 rfl rfl rfl ?_
  refine z_iconst (q := 7) C dX11_isIdle_6 rfl ?_
  refine z_icmp_ne (tgt := 31) (q := 10) C dX11_isIdle_7 (by decide) rfl (fun c2 => ?_) (fun c2 => ?_)
  · have hF := (if_neg c2).symm.trans hF
    refine z_iconst (q := 32) C dX11_isIdle_31 rfl ?_
    have hF := Option.some.inj hF
    subst hF
    exact z_zret C (zb01 (Or.inl rfl)) e1 e2 dX11_isIdle_32
  · have hF := (if_pos c2).symm.trans hF
    refine z_aload_n (q := 11) C dX11_isIdle_10 0 rfl rfl rfl ?_
    refine z_iload_n (q := 12) C dX11_isIdle_11 1 rfl rfl rfl ?_
    refine z_iconst (q := 13) C dX11_isIdle_12 rfl ?_
    obtain ⟨v3, ev3, hF⟩ := zb_e hF
    refine z_callV (q := 16) (o := 14) (av := [.int (zi a1), .int (zi 0)]) (rest := []) (stk2 := [.int (zi v3)]) C hR clX11 (zon C zo_14) kd_14 (M_fX11_of (zlv hd rfl) ev3) mY_X11_of q_1430 (Nat.le_of_ble_eq_true rfl) dX11_isIdle_13 rfl rfl rfl ?_
    refine z_aload_n (q := 17) C dX11_isIdle_16 0 rfl rfl rfl ?_
    refine z_iload_n (q := 18) C dX11_isIdle_17 1 rfl rfl rfl ?_
    obtain ⟨v4, ev4, hF⟩ := zb_e hF
    refine z_callV (q := 21) (o := 14) (av := [.int (zi a1)]) (rest := [.int (zi v3)]) (stk2 := [.int (zi v4), .int (zi v3)]) C hR clX11 (zon C zo_14) kd_14 (M_fX11_form (zlv hd rfl) ev4) mY_X11_form q_1530 (Nat.le_of_ble_eq_true rfl) dX11_isIdle_18 rfl rfl rfl ?_
    refine z_callS (q := 24) (av := [.int (zi v3), .int (zi v4)]) (rest := []) (stk2 := [.int (zi (fX11_has v3 v4))]) C hR (M_fX11_has (zlv hd rfl) rfl) mY_X11_has q_1294 (Nat.le_of_ble_eq_true rfl) dX11_isIdle_21 rfl rfl rfl ?_
    refine z_if_ne (tgt := 31) (q := 27) C dX11_isIdle_24 (by decide) rfl (fun c5 => ?_) (fun c5 => ?_)
    · have hF := (if_neg c5).symm.trans hF
      refine z_iconst (q := 32) C dX11_isIdle_31 rfl ?_
      have hF := Option.some.inj hF
      subst hF
      exact z_zret C (zb01 (Or.inl rfl)) e1 e2 dX11_isIdle_32
    · have hF := (if_pos c5).symm.trans hF
      refine z_iconst (q := 28) C dX11_isIdle_27 rfl ?_
      refine z_goto (q := 32) C dX11_isIdle_28 (by decide) ?_
      have hF := Option.some.inj hF
      subst hF
      exact z_zret C (zb01 (Or.inr rfl)) e1 e2 dX11_isIdle_32
set_option maxRecDepth 20000 in
set_option maxHeartbeats 4000000 in
theorem M_fX11_isIdle {l : Launch} {D : va_G} {cy : ClassId} {α : Nat → Nat} {n : Nat} {σ : zSg} {d : Nat} (hd : 2 ≤ d) {a1 : Int} {h : zH} {r : Int} (hF : fX11_isIdle a1 h = some r) : zMet l yX11_isIdle cX11_isIdle 2 (some .boolean) (zrm d) D cy α n σ [.ref (α 14), .int (zi a1)] h (some (.int (zi r))) h := by
  obtain ⟨d, rfl⟩ : ∃ e, d = e + 1 := ⟨d - 1, by omega⟩
  refine z_met (by decide +kernel) (Nat.le_of_ble_eq_true rfl) (fun κ k1 k2 k3 k4 k5 k6 k7 k8 k9 C => ?_)
  subst k1 k3 k4 k5 k6 k7
  exact J_fX11_isIdle C k2 hd k8 k9 hF
set_option maxRecDepth 20000 in
set_option maxHeartbeats 4000000 in
theorem J_fX11_firstDigit {κ : zT} (C : zC κ RX11 cX11_firstDigit 2 (some .int)) {d : Nat} (hR : zR κ = zrm (d + 1)) (hd : 2 ≤ d + 1) {N : Nat} {h : zH} {r : Int} (e1 : zrv κ = some (.int (zi r))) (e2 : zhf κ = h) {a0 : Int} {a1 : Int} (hF : fX11_firstDigit N a0 a1 = some r) : Z κ h 0 [(0, .int (zi a0)), (1, .int (zi a1))] [] := by
  unfold fX11_firstDigit at hF
  refine z_iload_n (q := 1) C dX11_firstDigit_0 0 rfl rfl rfl ?_
  refine z_iload_n (q := 2) C dX11_firstDigit_1 1 rfl rfl rfl ?_
  refine z_iconst (q := 3) C dX11_firstDigit_2 rfl ?_
  refine z_isub (q := 4) C dX11_firstDigit_3 rfl ?_
  obtain ⟨v1, ev1, hF⟩ := zb_e hF
  refine z_callS (q := 7) (av := [.int (zi (a1 - 1))]) (rest := [.int (zi a0)]) (stk2 := [.int (zi v1), .int (zi a0)]) C hR (M_fX11_ten (zlv hd rfl) ev1) mY_X11_ten q_1671 (Nat.le_of_ble_eq_true rfl) dX11_firstDigit_4 rfl rfl rfl ?_
  obtain ⟨g2, hF⟩ := zif_none hF
  refine z_idiv (q := 8) C g2 dX11_firstDigit_7 rfl ?_
  have hF := Option.some.inj hF
  subst hF
  exact z_iret C e1 e2 dX11_firstDigit_8
set_option maxRecDepth 20000 in
set_option maxHeartbeats 4000000 in
theorem M_fX11_firstDigit {l : Launch} {D : va_G} {cy : ClassId} {α : Nat → Nat} {n : Nat} {σ : zSg} {d : Nat} (hd : 2 ≤ d) {N : Nat} {a0 : Int} {a1 : Int} {h : zH} {r : Int} (hF : fX11_firstDigit N a0 a1 = some r) : zMet l yX11_firstDigit cX11_firstDigit 2 (some .int) (zrm d) D cy α n σ [.int (zi a0), .int (zi a1)] h (some (.int (zi r))) h := by
  obtain ⟨d, rfl⟩ : ∃ e, d = e + 1 := ⟨d - 1, by omega⟩
  refine z_met (by decide +kernel) (Nat.le_of_ble_eq_true rfl) (fun κ k1 k2 k3 k4 k5 k6 k7 k8 k9 C => ?_)
  subst k1 k3 k4 k5 k6 k7
  exact J_fX11_firstDigit C k2 hd k8 k9 hF
set_option maxRecDepth 20000 in
set_option maxHeartbeats 4000000 in
theorem J_fX11_fileSoonest {κ : zT} (C : zC κ RX11 cX11_fileSoonest 3 none) {d : Nat} (hR : zR κ = zrm (d + 1)) (hd : 64 ≤ d + 1) {N : Nat} {r : zH} (e1 : zrv κ = none) (e2 : zhf κ = r) {a1 : Int} {h : zH} (hF : fX11_fileSoonest N a1 h = some r) : Z κ h 0 [(0, .ref (zα κ 14)), (1, .int (zi a1))] [] := by
  unfold fX11_fileSoonest at hF
  refine z_aload_n (q := 1) C dX11_fileSoonest_0 0 rfl rfl rfl ?_
  refine z_iload_n (q := 2) C dX11_fileSoonest_1 1 rfl rfl rfl ?_
  refine z_aload_n (q := 3) C dX11_fileSoonest_2 0 rfl rfl rfl ?_
  refine z_iload_n (q := 4) C dX11_fileSoonest_3 1 rfl rfl rfl ?_
  refine z_iconst (q := 5) C dX11_fileSoonest_4 rfl ?_
  obtain ⟨v1, ev1, hF⟩ := zb_e hF
  refine z_callV (q := 8) (o := 14) (av := [.int (zi a1), .int (zi 0)]) (rest := [.int (zi a1), .ref (zα κ 14)]) (stk2 := [.int (zi v1), .int (zi a1), .ref (zα κ 14)]) C hR clX11 (zon C zo_14) kd_14 (M_fX11_of (zlv hd rfl) ev1) mY_X11_of q_1430 (Nat.le_of_ble_eq_true rfl) dX11_fileSoonest_5 rfl rfl rfl ?_
  obtain ⟨v2, ev2, hF⟩ := zb_e hF
  refine z_callV (q := 11) (o := 14) (av := [.int (zi a1), .int (zi v1)]) (rest := []) (stk2 := [.int (zi v2)]) C hR clX11 (zon C zo_14) kd_14 (M_fX11_lacks (zlv hd rfl) ev2) mY_X11_lacks q_1639 (Nat.le_of_ble_eq_true rfl) dX11_fileSoonest_8 rfl rfl rfl ?_
  refine z_callS (q := 14) (av := [.int (zi v2)]) (rest := []) (stk2 := [.int (zi (fJ6_bitCount_0f7a4 v2))]) C hR (M_fJ6_bitCount_0f7a4 (zlv hd rfl) rfl) mY_J6_bitCount_0f7a4 q_1555 (Nat.le_of_ble_eq_true rfl) dX11_fileSoonest_11 rfl rfl rfl ?_
  obtain ⟨v3, ev3, hF⟩ := zlet_e hF
  refine z_istoreE_n (q := 15) C ev3 dX11_fileSoonest_14 (by decide) rfl rfl rfl ?_
  refine z_aload_n (q := 16) C dX11_fileSoonest_15 1 rfl rfl rfl ?_
  refine z_iload_n (q := 17) C dX11_fileSoonest_16 2 rfl rfl rfl ?_
  refine z_aload_n (q := 18) C dX11_fileSoonest_17 1 rfl rfl rfl ?_
  refine z_iload_n (q := 19) C dX11_fileSoonest_18 2 rfl rfl rfl ?_
  refine z_iconst (q := 20) C dX11_fileSoonest_19 rfl ?_
  obtain ⟨v4, ev4, hF⟩ := zb_e hF
  refine z_callV (q := 23) (o := 14) (av := [.int (zi a1), .int (zi 0)]) (rest := [.int (zi a1), .ref (zα κ 14)]) (stk2 := [.int (zi v4), .int (zi a1), .ref (zα κ 14)]) C hR clX11 (zon C zo_14) kd_14 (M_fX11_of (zlv hd rfl) ev4) mY_X11_of q_1430 (Nat.le_of_ble_eq_true rfl) dX11_fileSoonest_20 rfl rfl rfl ?_
  obtain ⟨h5, eh5, hF⟩ := zb_e hF
  refine z_callV (q := 26) (o := 14) (av := [.int (zi a1), .int (zi v4)]) (rest := []) (stk2 := []) C hR clX11 (zon C zo_14) kd_14 (M_fX11_laySoonest (zlv hd rfl) eh5) mY_X11_laySoonest q_1635 (Nat.le_of_ble_eq_true rfl) dX11_fileSoonest_23 rfl rfl rfl ?_
  refine z_aload_n (q := 27) C dX11_fileSoonest_26 1 rfl rfl rfl ?_
  refine z_getf (q := 30) C clX11 (zon C zo_14) kd_14 (k := 41) (by decide) q_1143 rfl (zfv_i kd_14 rfl) dX11_fileSoonest_27 rfl ?_
  refine z_iconst (q := 31) C dX11_fileSoonest_30 rfl ?_
  refine z_icmp_eq (tgt := 47) (q := 34) C dX11_fileSoonest_31 (by decide) rfl (fun c6 => ?_) (fun c6 => ?_)
  · have hF := (if_pos c6).symm.trans hF
    have hF := Option.some.inj hF
    subst hF
    exact z_vret C e1 e2 dX11_fileSoonest_47
  · have hF := (if_neg c6).symm.trans hF
    refine z_aload_n (q := 35) C dX11_fileSoonest_34 1 rfl rfl rfl ?_
    refine z_iload_n (q := 36) C dX11_fileSoonest_35 2 rfl rfl rfl ?_
    refine z_aload_n (q := 37) C dX11_fileSoonest_36 1 rfl rfl rfl ?_
    refine z_getf (q := 40) C clX11 (zon C zo_14) kd_14 (k := 40) (by decide) q_1142 rfl (zfv_i kd_14 rfl) dX11_fileSoonest_37 rfl ?_
    refine z_iload_n (q := 41) C dX11_fileSoonest_40 0 rfl rfl rfl ?_
    obtain ⟨v7, ev7, hF⟩ := zb_e hF
    refine z_callS (q := 44) (av := [.int (zi (h5 14 40)), .int (zi v3)]) (rest := [.int (zi a1), .ref (zα κ 14)]) (stk2 := [.int (zi v7), .int (zi a1), .ref (zα κ 14)]) C hR (M_fX11_firstDigit (zlv hd rfl) ev7) mY_X11_firstDigit q_1734 (Nat.le_of_ble_eq_true rfl) dX11_fileSoonest_41 rfl rfl rfl ?_
    obtain ⟨h8, eh8, hF⟩ := zb_e hF
    refine z_callV (q := 47) (o := 14) (av := [.int (zi a1), .int (zi v7)]) (rest := []) (stk2 := []) C hR clX11 (zon C zo_14) kd_14 (M_fX11_fileNow (zlv hd rfl) eh8) mY_X11_fileNow q_1494 (Nat.le_of_ble_eq_true rfl) dX11_fileSoonest_44 rfl rfl rfl ?_
    have hF := Option.some.inj hF
    subst hF
    exact z_vret C e1 e2 dX11_fileSoonest_47
set_option maxRecDepth 20000 in
set_option maxHeartbeats 4000000 in
theorem M_fX11_fileSoonest {l : Launch} {D : va_G} {cy : ClassId} {α : Nat → Nat} {n : Nat} {σ : zSg} {d : Nat} (hd : 64 ≤ d) {N : Nat} {a1 : Int} {h : zH} {g : zH} (hF : fX11_fileSoonest N a1 h = some g) : zMet l yX11_fileSoonest cX11_fileSoonest 3 none (zrm d) D cy α n σ [.ref (α 14), .int (zi a1)] h (none) g := by
  obtain ⟨d, rfl⟩ : ∃ e, d = e + 1 := ⟨d - 1, by omega⟩
  refine z_met (by decide +kernel) (Nat.le_of_ble_eq_true rfl) (fun κ k1 k2 k3 k4 k5 k6 k7 k8 k9 C => ?_)
  subst k1 k3 k4 k5 k6 k7
  exact J_fX11_fileSoonest C k2 hd k8 k9 hF
set_option maxRecDepth 20000 in
set_option maxHeartbeats 4000000 in
theorem J_fX11_toil_c25b {κ : zT} (C : zC κ RX11 cX11_toil 4 (some .int)) {d : Nat} (hR : zR κ = zrm (d + 1)) (hd : 65 ≤ d + 1) {N : Nat} {r : Int × zH} (e1 : zrv κ = some (.int (zi r.1))) (e2 : zhf κ = r.2) {K14 : Int → Int → zH → Option (Int × zH)} (hK14 : ∀ (l1 : Int) (l2 : Int) (h : zH), K14 l1 l2 h = some r → Z κ h 14 [(0, .ref (zα κ 14)), (1, .int (zi l1)), (2, .int (zi l2))] []) {K25 : Int → Int → Int → zH → Option (Int × zH)} (hK25 : ∀ (l1 : Int) (l2 : Int) (l3 : Int) (h : zH), K25 l1 l2 l3 h = some r → Z κ h 25 [(0, .ref (zα κ 14)), (1, .int (zi l1)), (2, .int (zi l2)), (3, .int (zi l3))] []) (l1 : Int) (l2 : Int) (l3 : Int) (h : zH) (hF : fX11_toil_c25b N K14 K25 l1 l2 l3 h = some r) : Z κ h 25 [(0, .ref (zα κ 14)), (1, .int (zi l1)), (2, .int (zi l2)), (3, .int (zi l3))] [] := by
  unfold fX11_toil_c25b at hF
  refine z_iload_n (q := 26) C dX11_toil_25 3 rfl rfl rfl ?_
  refine z_aload_n (q := 27) C dX11_toil_26 0 rfl rfl rfl ?_
  refine z_getf (q := 30) C clX11 (zon C zo_14) kd_14 (k := 28) (by decide) q_1130 rfl (zfv_i kd_14 rfl) dX11_toil_27 rfl ?_
  refine z_icmp_ge (tgt := 52) (q := 33) C dX11_toil_30 (by decide) rfl (fun c1 => ?_) (fun c1 => ?_)
  · have hF := (if_pos c1).symm.trans hF
    refine z_aload_n (q := 53) C dX11_toil_52 0 rfl rfl rfl ?_
    refine z_iconst (q := 54) C dX11_toil_53 rfl ?_
    obtain ⟨h2, eh2, hF⟩ := zb_e hF
    refine z_callV (q := 57) (o := 14) (av := [.int (zi 0)]) (rest := []) (stk2 := []) C hR clX11 (zon C zo_14) kd_14 (M_fX11_pass (zlv hd rfl) eh2) mY_X11_pass q_1518 (Nat.le_of_ble_eq_true rfl) dX11_toil_54 rfl rfl rfl ?_
    refine z_iinc (q := 60) (x := l2) C dX11_toil_57 (j := 2) rfl (by decide) rfl rfl ?_
    refine z_goto (q := 14) C dX11_toil_60 (by decide) ?_
    exact z_sub (hK14 _ _ _ hF) [1, 2, 0] rfl
  · have hF := (if_neg c1).symm.trans hF
    refine z_aload_n (q := 34) C dX11_toil_33 0 rfl rfl rfl ?_
    refine z_iload_n (q := 35) C dX11_toil_34 3 rfl rfl rfl ?_
    obtain ⟨v3, ev3, hF⟩ := zb_e hF
    refine z_callV (q := 38) (o := 14) (av := [.int (zi l3)]) (rest := []) (stk2 := [.int (zi v3)]) C hR clX11 (zon C zo_14) kd_14 (M_fX11_isIdle (zlv hd rfl) ev3) mY_X11_isIdle q_1726 (Nat.le_of_ble_eq_true rfl) dX11_toil_35 rfl rfl rfl ?_
    refine z_if_eq (tgt := 46) (q := 41) C dX11_toil_38 (by decide) rfl (fun c4 => ?_) (fun c4 => ?_)
    · have hF := (if_pos c4).symm.trans hF
      refine z_iinc (q := 49) (x := l3) C dX11_toil_46 (j := 3) rfl (by decide) rfl rfl ?_
      refine z_goto (q := 25) C dX11_toil_49 (by decide) ?_
      exact z_sub (hK25 _ _ _ _ hF) [1, 2, 3, 0] rfl
    · have hF := (if_neg c4).symm.trans hF
      refine z_aload_n (q := 42) C dX11_toil_41 0 rfl rfl rfl ?_
      refine z_iload_n (q := 43) C dX11_toil_42 3 rfl rfl rfl ?_
      obtain ⟨h5, eh5, hF⟩ := zb_e hF
      refine z_callV (q := 46) (o := 14) (av := [.int (zi l3)]) (rest := []) (stk2 := []) C hR clX11 (zon C zo_14) kd_14 (M_fX11_fileSoonest (zlv hd rfl) eh5) mY_X11_fileSoonest q_1730 (Nat.le_of_ble_eq_true rfl) dX11_toil_43 rfl rfl rfl ?_
      refine z_iinc (q := 49) (x := l3) C dX11_toil_46 (j := 3) rfl (by decide) rfl rfl ?_
      refine z_goto (q := 25) C dX11_toil_49 (by decide) ?_
      exact z_sub (hK25 _ _ _ _ hF) [1, 2, 3, 0] rfl
set_option maxRecDepth 20000 in
set_option maxHeartbeats 4000000 in
theorem J_fX11_toil_c25 {κ : zT} (C : zC κ RX11 cX11_toil 4 (some .int)) {d : Nat} (hR : zR κ = zrm (d + 1)) (hd : 65 ≤ d + 1) {N : Nat} {r : Int × zH} (e1 : zrv κ = some (.int (zi r.1))) (e2 : zhf κ = r.2) {K14 : Int → Int → zH → Option (Int × zH)} (hK14 : ∀ (l1 : Int) (l2 : Int) (h : zH), K14 l1 l2 h = some r → Z κ h 14 [(0, .ref (zα κ 14)), (1, .int (zi l1)), (2, .int (zi l2))] []) : ∀ (k : Nat) (l1 : Int) (l2 : Int) (l3 : Int) (h : zH), fX11_toil_c25 N K14 k l1 l2 l3 h = some r → Z κ h 25 [(0, .ref (zα κ 14)), (1, .int (zi l1)), (2, .int (zi l2)), (3, .int (zi l3))] [] := by
  intro k
  induction k with
  | zero => intro l1 l2 l3 h hF; cases hF
  | succ k ih => intro l1 l2 l3 h hF; exact J_fX11_toil_c25b C hR hd e1 e2 hK14 ih l1 l2 l3 h hF
set_option maxRecDepth 20000 in
set_option maxHeartbeats 4000000 in
theorem J_fX11_toil_c14b {κ : zT} (C : zC κ RX11 cX11_toil 4 (some .int)) {d : Nat} (hR : zR κ = zrm (d + 1)) (hd : 65 ≤ d + 1) {N : Nat} {r : Int × zH} (e1 : zrv κ = some (.int (zi r.1))) (e2 : zhf κ = r.2) {K14 : Int → Int → zH → Option (Int × zH)} (hK14 : ∀ (l1 : Int) (l2 : Int) (h : zH), K14 l1 l2 h = some r → Z κ h 14 [(0, .ref (zα κ 14)), (1, .int (zi l1)), (2, .int (zi l2))] []) (l1 : Int) (l2 : Int) (h : zH) (hF : fX11_toil_c14b N K14 l1 l2 h = some r) : Z κ h 14 [(0, .ref (zα κ 14)), (1, .int (zi l1)), (2, .int (zi l2))] [] := by
  unfold fX11_toil_c14b at hF
  refine z_iload_n (q := 15) C dX11_toil_14 2 rfl rfl rfl ?_
  refine z_iload_n (q := 16) C dX11_toil_15 1 rfl rfl rfl ?_
  refine z_icmp_ge (tgt := 63) (q := 19) C dX11_toil_16 (by decide) rfl (fun c1 => ?_) (fun c1 => ?_)
  · have hF := (if_pos c1).symm.trans hF
    refine z_aload_n (q := 64) C dX11_toil_63 0 rfl rfl rfl ?_
    refine z_getf (q := 67) C clX11 (zon C zo_14) kd_14 (k := 34) (by decide) q_1136 rfl (zfv_r kd_14 rfl fr_14_34) dX11_toil_64 rfl ?_
    refine z_bipush (q := 69) C dX11_toil_67 bp_42 rfl ?_
    refine z_ialdc (q := 70) (j := 42) C (zon C zo_69) kd_69 zwk_42 (by rw [ln_69]; decide) dX11_toil_69 rfl ?_
    have hF := Option.some.inj hF
    subst hF
    exact z_iret C e1 e2 dX11_toil_70
  · have hF := (if_neg c1).symm.trans hF
    refine z_aload_n (q := 20) C dX11_toil_19 0 rfl rfl rfl ?_
    obtain ⟨h2, eh2, hF⟩ := zb_e hF
    refine z_callV (q := 23) (o := 14) (av := []) (rest := []) (stk2 := []) C hR clX11 (zon C zo_14) kd_14 (M_fX11_keep (zlv hd rfl) eh2) mY_X11_keep q_1490 (Nat.le_of_ble_eq_true rfl) dX11_toil_20 rfl rfl rfl ?_
    refine z_iconst (q := 24) C dX11_toil_23 rfl ?_
    refine z_istore_n (q := 25) C dX11_toil_24 (by decide) rfl rfl rfl ?_
    exact z_sub (J_fX11_toil_c25 C hR hd e1 e2 hK14 N _ _ _ _ hF) [1, 2, 3, 0] rfl
set_option maxRecDepth 20000 in
set_option maxHeartbeats 4000000 in
theorem J_fX11_toil_c14 {κ : zT} (C : zC κ RX11 cX11_toil 4 (some .int)) {d : Nat} (hR : zR κ = zrm (d + 1)) (hd : 65 ≤ d + 1) {N : Nat} {r : Int × zH} (e1 : zrv κ = some (.int (zi r.1))) (e2 : zhf κ = r.2) : ∀ (k : Nat) (l1 : Int) (l2 : Int) (h : zH), fX11_toil_c14 N k l1 l2 h = some r → Z κ h 14 [(0, .ref (zα κ 14)), (1, .int (zi l1)), (2, .int (zi l2))] [] := by
  intro k
  induction k with
  | zero => intro l1 l2 h hF; cases hF
  | succ k ih => intro l1 l2 h hF; exact J_fX11_toil_c14b C hR hd e1 e2 ih l1 l2 h hF
set_option maxRecDepth 20000 in
set_option maxHeartbeats 4000000 in
theorem J_fX11_toil {κ : zT} (C : zC κ RX11 cX11_toil 4 (some .int)) {d : Nat} (hR : zR κ = zrm (d + 1)) (hd : 65 ≤ d + 1) {N : Nat} {r : Int × zH} (e1 : zrv κ = some (.int (zi r.1))) (e2 : zhf κ = r.2) {a1 : Int} {h : zH} (hF : fX11_toil N a1 h = some r) : Z κ h 0 [(0, .ref (zα κ 14)), (1, .int (zi a1))] [] := by
  unfold fX11_toil at hF
  refine z_aload_n (q := 1) C dX11_toil_0 0 rfl rfl rfl ?_
  refine z_iload_n (q := 2) C dX11_toil_1 1 rfl rfl rfl ?_
  refine z_bipush (q := 4) C dX11_toil_2 bp_48 rfl ?_
  refine z_callV (q := 7) (o := 14) (av := [.int (zi a1), .int (zi 48)]) (rest := []) (stk2 := [.int (zi (fX11_areHours a1 48 h))]) C hR clX11 (zon C zo_14) kd_14 (M_fX11_areHours (zlv hd rfl) rfl) mY_X11_areHours q_1514 (Nat.le_of_ble_eq_true rfl) dX11_toil_4 rfl rfl rfl ?_
  refine z_if_ne (tgt := 12) (q := 10) C dX11_toil_7 (by decide) rfl (fun c1 => ?_) (fun c1 => ?_)
  · have hF := (if_neg c1).symm.trans hF
    refine z_iconst (q := 13) C dX11_toil_12 rfl ?_
    refine z_istore_n (q := 14) C dX11_toil_13 (by decide) rfl rfl rfl ?_
    exact z_sub (J_fX11_toil_c14 C hR hd e1 e2 N _ _ _ hF) [1, 2, 0] rfl
  · have hF := (if_pos c1).symm.trans hF
    refine z_iconst (q := 11) C dX11_toil_10 rfl ?_
    have hF := Option.some.inj hF
    subst hF
    exact z_iret C e1 e2 dX11_toil_11
set_option maxRecDepth 20000 in
set_option maxHeartbeats 4000000 in
theorem M_fX11_toil {l : Launch} {D : va_G} {cy : ClassId} {α : Nat → Nat} {n : Nat} {σ : zSg} {d : Nat} (hd : 65 ≤ d) {N : Nat} {a1 : Int} {h : zH} {r : Int} {g : zH} (hF : fX11_toil N a1 h = some (r, g)) : zMet l yX11_toil cX11_toil 4 (some .int) (zrm d) D cy α n σ [.ref (α 14), .int (zi a1)] h (some (.int (zi r))) g := by
  obtain ⟨d, rfl⟩ : ∃ e, d = e + 1 := ⟨d - 1, by omega⟩
  refine z_met (by decide +kernel) (Nat.le_of_ble_eq_true rfl) (fun κ k1 k2 k3 k4 k5 k6 k7 k8 k9 C => ?_)
  subst k1 k3 k4 k5 k6 k7
  exact J_fX11_toil C k2 hd k8 k9 hF
set_option maxRecDepth 20000 in
set_option maxHeartbeats 4000000 in
theorem J_fX11_draw {κ : zT} (C : zC κ RX11 cX11_draw 2 (some .int)) {d : Nat} (hR : zR κ = zrm (d + 1)) (hd : 1 ≤ d + 1) {r : Int × zH} (e1 : zrv κ = some (.int (zi r.1))) (e2 : zhf κ = r.2) {a1 : Int} {h : zH} (hF : fX11_draw a1 h = some r) : Z κ h 0 [(0, .ref (zα κ 14)), (1, .int (zi a1))] [] := by
  unfold fX11_draw at hF
  refine z_aload_n (q := 1) C dX11_draw_0 0 rfl rfl rfl ?_
  refine z_aload_n (q := 2) C dX11_draw_1 0 rfl rfl rfl ?_
  refine z_getf (q := 5) C clX11 (zon C zo_14) kd_14 (k := 47) (by decide) q_1149 rfl (zfv_l kd_14 rfl) dX11_draw_2 rfl ?_
  refine z_ldc2 (q := 8) C kc_RX11_469 dX11_draw_5 rfl ?_
  refine z_lmul (q := 9) C dX11_draw_8 rfl ?_
  refine z_ldc2 (q := 12) C kc_RX11_471 dX11_draw_9 rfl ?_
  refine z_ladd (q := 13) C dX11_draw_12 rfl ?_
  obtain ⟨h1, eh1, hF⟩ := zlet_e hF
  refine z_putf (q := 16) C clX11 (zon C zo_14) kd_14 (k := 47) (x := ((h 14 47) * 6364136223846793005) + 1442695040888963407) (by decide) q_1149 rfl rfl rfl rfl (((zfv_l kd_14 rfl)).trans (by rw [if_pos rfl])) dX11_draw_13 rfl eh1 ?_
  refine z_aload_n (q := 17) C dX11_draw_16 0 rfl rfl rfl ?_
  refine z_getf (q := 20) C clX11 (zon C zo_14) kd_14 (k := 47) (by decide) q_1149 rfl (zfv_l kd_14 rfl) dX11_draw_17 rfl ?_
  refine z_bipush (q := 22) C dX11_draw_20 bp_33 rfl ?_
  refine z_lushr (q := 23) C dX11_draw_22 rfl ?_
  refine z_iload_n (q := 24) C dX11_draw_23 1 rfl rfl rfl ?_
  refine z_i2l (q := 25) C dX11_draw_24 rfl ?_
  obtain ⟨g2, hF⟩ := zif_none hF
  refine z_lrem (q := 26) C g2 dX11_draw_25 rfl ?_
  refine z_l2i (q := 27) C dX11_draw_26 rfl ?_
  have hF := Option.some.inj hF
  subst hF
  exact z_iret C e1 e2 dX11_draw_27
set_option maxRecDepth 20000 in
set_option maxHeartbeats 4000000 in
theorem M_fX11_draw {l : Launch} {D : va_G} {cy : ClassId} {α : Nat → Nat} {n : Nat} {σ : zSg} {d : Nat} (hd : 1 ≤ d) {a1 : Int} {h : zH} {r : Int} {g : zH} (hF : fX11_draw a1 h = some (r, g)) : zMet l yX11_draw cX11_draw 2 (some .int) (zrm d) D cy α n σ [.ref (α 14), .int (zi a1)] h (some (.int (zi r))) g := by
  obtain ⟨d, rfl⟩ : ∃ e, d = e + 1 := ⟨d - 1, by omega⟩
  refine z_met (by decide +kernel) (Nat.le_of_ble_eq_true rfl) (fun κ k1 k2 k3 k4 k5 k6 k7 k8 k9 C => ?_)
  subst k1 k3 k4 k5 k6 k7
  exact J_fX11_draw C k2 hd k8 k9 hF
set_option maxRecDepth 20000 in
set_option maxHeartbeats 4000000 in
theorem J_fX11_years_c34b {κ : zT} (C : zC κ RX11 cX11_years 6 (some .int)) {d : Nat} (hR : zR κ = zrm (d + 1)) (hd : 65 ≤ d + 1) {N : Nat} {r : Int × zH} (e1 : zrv κ = some (.int (zi r.1))) (e2 : zhf κ = r.2) {K21 : Int → Int → zH → Option (Int × zH)} (hK21 : ∀ (l1 : Int) (l4 : Int) (h : zH), K21 l1 l4 h = some r → Z κ h 21 [(0, .ref (zα κ 14)), (1, .int (zi l1)), (4, .int (zi l4))] []) {K34 : Int → Int → Int → zH → Option (Int × zH)} (hK34 : ∀ (l1 : Int) (l4 : Int) (l5 : Int) (h : zH), K34 l1 l4 l5 h = some r → Z κ h 34 [(0, .ref (zα κ 14)), (1, .int (zi l1)), (4, .int (zi l4)), (5, .int (zi l5))] []) (l1 : Int) (l4 : Int) (l5 : Int) (h : zH) (hF : fX11_years_c34b N K21 K34 l1 l4 l5 h = some r) : Z κ h 34 [(0, .ref (zα κ 14)), (1, .int (zi l1)), (4, .int (zi l4)), (5, .int (zi l5))] [] := by
  unfold fX11_years_c34b at hF
  refine z_iload (q := 36) C dX11_years_34 3 rfl rfl ?_
  refine z_aload_n (q := 37) C dX11_years_36 0 rfl rfl rfl ?_
  refine z_getf (q := 40) C clX11 (zon C zo_14) kd_14 (k := 28) (by decide) q_1130 rfl (zfv_i kd_14 rfl) dX11_years_37 rfl ?_
  refine z_icmp_ge (tgt := 84) (q := 43) C dX11_years_40 (by decide) rfl (fun c1 => ?_) (fun c1 => ?_)
  · have hF := (if_pos c1).symm.trans hF
    refine z_aload_n (q := 85) C dX11_years_84 0 rfl rfl rfl ?_
    refine z_aload_n (q := 86) C dX11_years_85 0 rfl rfl rfl ?_
    refine z_callV (q := 89) (o := 14) (av := []) (rest := [.ref (zα κ 14)]) (stk2 := [.int (zi (fX11_isDawn h)), .ref (zα κ 14)]) C hR clX11 (zon C zo_14) kd_14 (M_fX11_isDawn (zlv hd rfl) rfl) mY_X11_isDawn q_1522 (Nat.le_of_ble_eq_true rfl) dX11_years_86 rfl rfl rfl ?_
    refine z_if_eq (tgt := 109) (q := 92) C dX11_years_89 (by decide) rfl (fun c2 => ?_) (fun c2 => ?_)
    · have hF := (if_pos c2).symm.trans hF
      refine z_iconst (q := 110) C dX11_years_109 rfl ?_
      obtain ⟨h3, eh3, hF⟩ := zb_e hF
      refine z_callV (q := 113) (o := 14) (av := [.int (zi 0)]) (rest := []) (stk2 := []) C hR clX11 (zon C zo_14) kd_14 (M_fX11_pass (zlv hd rfl) eh3) mY_X11_pass q_1518 (Nat.le_of_ble_eq_true rfl) dX11_years_110 rfl rfl rfl ?_
      refine z_iinc (q := 116) (x := l4) C dX11_years_113 (j := 2) rfl (by decide) rfl rfl ?_
      refine z_goto (q := 21) C dX11_years_116 (by decide) ?_
      exact z_sub (hK21 _ _ _ hF) [1, 2, 0] rfl
    · have hF := (if_neg c2).symm.trans hF
      refine z_aload_n (q := 93) C dX11_years_92 0 rfl rfl rfl ?_
      refine z_bipush (q := 95) C dX11_years_93 bp_100 rfl ?_
      obtain ⟨v5, h4, ev5, hF⟩ := z2_e hF
      refine z_callV (q := 98) (o := 14) (av := [.int (zi 100)]) (rest := [.ref (zα κ 14)]) (stk2 := [.int (zi v5), .ref (zα κ 14)]) C hR clX11 (zon C zo_14) kd_14 (M_fX11_draw (zlv hd rfl) ev5) mY_X11_draw q_1741 (Nat.le_of_ble_eq_true rfl) dX11_years_95 rfl rfl rfl ?_
      refine z_aload_n (q := 99) C dX11_years_98 0 rfl rfl rfl ?_
      refine z_getf (q := 102) C clX11 (zon C zo_14) kd_14 (k := 36) (by decide) q_1138 rfl (zfv_i kd_14 rfl) dX11_years_99 rfl ?_
      refine z_icmp_ge (tgt := 109) (q := 105) C dX11_years_102 (by decide) rfl (fun c6 => ?_) (fun c6 => ?_)
      · have hF := (if_pos c6).symm.trans hF
        refine z_iconst (q := 110) C dX11_years_109 rfl ?_
        obtain ⟨h7, eh7, hF⟩ := zb_e hF
        refine z_callV (q := 113) (o := 14) (av := [.int (zi 0)]) (rest := []) (stk2 := []) C hR clX11 (zon C zo_14) kd_14 (M_fX11_pass (zlv hd rfl) eh7) mY_X11_pass q_1518 (Nat.le_of_ble_eq_true rfl) dX11_years_110 rfl rfl rfl ?_
        refine z_iinc (q := 116) (x := l4) C dX11_years_113 (j := 2) rfl (by decide) rfl rfl ?_
        refine z_goto (q := 21) C dX11_years_116 (by decide) ?_
        exact z_sub (hK21 _ _ _ hF) [1, 2, 0] rfl
      · have hF := (if_neg c6).symm.trans hF
        refine z_iconst (q := 106) C dX11_years_105 rfl ?_
        refine z_goto (q := 110) C dX11_years_106 (by decide) ?_
        obtain ⟨h8, eh8, hF⟩ := zb_e hF
        refine z_callV (q := 113) (o := 14) (av := [.int (zi 1)]) (rest := []) (stk2 := []) C hR clX11 (zon C zo_14) kd_14 (M_fX11_pass (zlv hd rfl) eh8) mY_X11_pass q_1518 (Nat.le_of_ble_eq_true rfl) dX11_years_110 rfl rfl rfl ?_
        refine z_iinc (q := 116) (x := l4) C dX11_years_113 (j := 2) rfl (by decide) rfl rfl ?_
        refine z_goto (q := 21) C dX11_years_116 (by decide) ?_
        exact z_sub (hK21 _ _ _ hF) [1, 2, 0] rfl
  · have hF := (if_neg c1).symm.trans hF
    refine z_aload_n (q := 44) C dX11_years_43 0 rfl rfl rfl ?_
    refine z_iload (q := 46) C dX11_years_44 3 rfl rfl ?_
    obtain ⟨v9, ev9, hF⟩ := zb_e hF
    refine z_callV (q := 49) (o := 14) (av := [.int (zi l5)]) (rest := []) (stk2 := [.int (zi v9)]) C hR clX11 (zon C zo_14) kd_14 (M_fX11_isIdle (zlv hd rfl) ev9) mY_X11_isIdle q_1726 (Nat.le_of_ble_eq_true rfl) dX11_years_46 rfl rfl rfl ?_
    refine z_if_eq (tgt := 78) (q := 52) C dX11_years_49 (by decide) rfl (fun c10 => ?_) (fun c10 => ?_)
    · have hF := (if_pos c10).symm.trans hF
      refine z_iinc (q := 81) (x := l5) C dX11_years_78 (j := 3) rfl (by decide) rfl rfl ?_
      refine z_goto (q := 34) C dX11_years_81 (by decide) ?_
      exact z_sub (hK34 _ _ _ _ hF) [1, 2, 3, 0] rfl
    · have hF := (if_neg c10).symm.trans hF
      refine z_aload_n (q := 53) C dX11_years_52 0 rfl rfl rfl ?_
      refine z_bipush (q := 55) C dX11_years_53 bp_10 rfl ?_
      obtain ⟨v12, h11, ev12, hF⟩ := z2_e hF
      refine z_callV (q := 58) (o := 14) (av := [.int (zi 10)]) (rest := []) (stk2 := [.int (zi v12)]) C hR clX11 (zon C zo_14) kd_14 (M_fX11_draw (zlv hd rfl) ev12) mY_X11_draw q_1741 (Nat.le_of_ble_eq_true rfl) dX11_years_55 rfl rfl rfl ?_
      refine z_aload_n (q := 59) C dX11_years_58 0 rfl rfl rfl ?_
      refine z_getf (q := 62) C clX11 (zon C zo_14) kd_14 (k := 25) (by decide) q_1127 rfl (zfv_r kd_14 rfl fr_14_25) dX11_years_59 rfl ?_
      refine z_iconst (q := 63) C dX11_years_62 rfl ?_
      refine z_iload (q := 65) C dX11_years_63 3 rfl rfl ?_
      refine z_imul (q := 66) C dX11_years_65 rfl ?_
      refine z_iconst (q := 67) C dX11_years_66 rfl ?_
      refine z_iadd (q := 68) C dX11_years_67 rfl ?_
      obtain ⟨g13, hF⟩ := zif_none hF
      refine z_iald (q := 69) C (zon C zo_64) kd_64 g13.1 (by rw [ln_64]; exact g13.2) dX11_years_68 rfl ?_
      refine z_icmp_ge (tgt := 78) (q := 72) C dX11_years_69 (by decide) rfl (fun c14 => ?_) (fun c14 => ?_)
      · have hF := (if_pos c14).symm.trans hF
        refine z_iinc (q := 81) (x := l5) C dX11_years_78 (j := 3) rfl (by decide) rfl rfl ?_
        refine z_goto (q := 34) C dX11_years_81 (by decide) ?_
        exact z_sub (hK34 _ _ _ _ hF) [1, 2, 3, 0] rfl
      · have hF := (if_neg c14).symm.trans hF
        refine z_aload_n (q := 73) C dX11_years_72 0 rfl rfl rfl ?_
        refine z_iload (q := 75) C dX11_years_73 3 rfl rfl ?_
        obtain ⟨h15, eh15, hF⟩ := zb_e hF
        refine z_callV (q := 78) (o := 14) (av := [.int (zi l5)]) (rest := []) (stk2 := []) C hR clX11 (zon C zo_14) kd_14 (M_fX11_fileSoonest (zlv hd rfl) eh15) mY_X11_fileSoonest q_1730 (Nat.le_of_ble_eq_true rfl) dX11_years_75 rfl rfl rfl ?_
        refine z_iinc (q := 81) (x := l5) C dX11_years_78 (j := 3) rfl (by decide) rfl rfl ?_
        refine z_goto (q := 34) C dX11_years_81 (by decide) ?_
        exact z_sub (hK34 _ _ _ _ hF) [1, 2, 3, 0] rfl
set_option maxRecDepth 20000 in
set_option maxHeartbeats 4000000 in
theorem J_fX11_years_c34 {κ : zT} (C : zC κ RX11 cX11_years 6 (some .int)) {d : Nat} (hR : zR κ = zrm (d + 1)) (hd : 65 ≤ d + 1) {N : Nat} {r : Int × zH} (e1 : zrv κ = some (.int (zi r.1))) (e2 : zhf κ = r.2) {K21 : Int → Int → zH → Option (Int × zH)} (hK21 : ∀ (l1 : Int) (l4 : Int) (h : zH), K21 l1 l4 h = some r → Z κ h 21 [(0, .ref (zα κ 14)), (1, .int (zi l1)), (4, .int (zi l4))] []) : ∀ (k : Nat) (l1 : Int) (l4 : Int) (l5 : Int) (h : zH), fX11_years_c34 N K21 k l1 l4 l5 h = some r → Z κ h 34 [(0, .ref (zα κ 14)), (1, .int (zi l1)), (4, .int (zi l4)), (5, .int (zi l5))] [] := by
  intro k
  induction k with
  | zero => intro l1 l4 l5 h hF; cases hF
  | succ k ih => intro l1 l4 l5 h hF; exact J_fX11_years_c34b C hR hd e1 e2 hK21 ih l1 l4 l5 h hF
set_option maxRecDepth 20000 in
set_option maxHeartbeats 4000000 in
theorem J_fX11_years_c21b {κ : zT} (C : zC κ RX11 cX11_years 6 (some .int)) {d : Nat} (hR : zR κ = zrm (d + 1)) (hd : 65 ≤ d + 1) {N : Nat} {r : Int × zH} (e1 : zrv κ = some (.int (zi r.1))) (e2 : zhf κ = r.2) {K21 : Int → Int → zH → Option (Int × zH)} (hK21 : ∀ (l1 : Int) (l4 : Int) (h : zH), K21 l1 l4 h = some r → Z κ h 21 [(0, .ref (zα κ 14)), (1, .int (zi l1)), (4, .int (zi l4))] []) (l1 : Int) (l4 : Int) (h : zH) (hF : fX11_years_c21b N K21 l1 l4 h = some r) : Z κ h 21 [(0, .ref (zα κ 14)), (1, .int (zi l1)), (4, .int (zi l4))] [] := by
  unfold fX11_years_c21b at hF
  refine z_iload (q := 23) C dX11_years_21 2 rfl rfl ?_
  refine z_iload_n (q := 24) C dX11_years_23 1 rfl rfl rfl ?_
  refine z_icmp_ge (tgt := 119) (q := 27) C dX11_years_24 (by decide) rfl (fun c1 => ?_) (fun c1 => ?_)
  · have hF := (if_pos c1).symm.trans hF
    refine z_aload_n (q := 120) C dX11_years_119 0 rfl rfl rfl ?_
    refine z_getf (q := 123) C clX11 (zon C zo_14) kd_14 (k := 34) (by decide) q_1136 rfl (zfv_r kd_14 rfl fr_14_34) dX11_years_120 rfl ?_
    refine z_bipush (q := 125) C dX11_years_123 bp_42 rfl ?_
    refine z_ialdc (q := 126) (j := 42) C (zon C zo_69) kd_69 zwk_42 (by rw [ln_69]; decide) dX11_years_125 rfl ?_
    have hF := Option.some.inj hF
    subst hF
    exact z_iret C e1 e2 dX11_years_126
  · have hF := (if_neg c1).symm.trans hF
    refine z_aload_n (q := 28) C dX11_years_27 0 rfl rfl rfl ?_
    obtain ⟨h2, eh2, hF⟩ := zb_e hF
    refine z_callV (q := 31) (o := 14) (av := []) (rest := []) (stk2 := []) C hR clX11 (zon C zo_14) kd_14 (M_fX11_keep (zlv hd rfl) eh2) mY_X11_keep q_1490 (Nat.le_of_ble_eq_true rfl) dX11_years_28 rfl rfl rfl ?_
    refine z_iconst (q := 32) C dX11_years_31 rfl ?_
    refine z_istore (q := 34) C dX11_years_32 (by decide) rfl rfl ?_
    exact z_sub (J_fX11_years_c34 C hR hd e1 e2 hK21 N _ _ _ _ hF) [1, 2, 3, 0] rfl
set_option maxRecDepth 20000 in
set_option maxHeartbeats 4000000 in
theorem J_fX11_years_c21 {κ : zT} (C : zC κ RX11 cX11_years 6 (some .int)) {d : Nat} (hR : zR κ = zrm (d + 1)) (hd : 65 ≤ d + 1) {N : Nat} {r : Int × zH} (e1 : zrv κ = some (.int (zi r.1))) (e2 : zhf κ = r.2) : ∀ (k : Nat) (l1 : Int) (l4 : Int) (h : zH), fX11_years_c21 N k l1 l4 h = some r → Z κ h 21 [(0, .ref (zα κ 14)), (1, .int (zi l1)), (4, .int (zi l4))] [] := by
  intro k
  induction k with
  | zero => intro l1 l4 h hF; cases hF
  | succ k ih => intro l1 l4 h hF; exact J_fX11_years_c21b C hR hd e1 e2 ih l1 l4 h hF
set_option maxRecDepth 20000 in
set_option maxHeartbeats 4000000 in
theorem J_fX11_years {κ : zT} (C : zC κ RX11 cX11_years 6 (some .int)) {d : Nat} (hR : zR κ = zrm (d + 1)) (hd : 65 ≤ d + 1) {N : Nat} {r : Int × zH} (e1 : zrv κ = some (.int (zi r.1))) (e2 : zhf κ = r.2) {a1 : Int} {a2 : Int} {h : zH} (hF : fX11_years N a1 a2 h = some r) : Z κ h 0 [(0, .ref (zα κ 14)), (1, .int (zi a1)), (2, .long (zl a2))] [] := by
  unfold fX11_years at hF
  refine z_aload_n (q := 1) C dX11_years_0 0 rfl rfl rfl ?_
  refine z_iload_n (q := 2) C dX11_years_1 1 rfl rfl rfl ?_
  refine z_sipush (q := 5) C dX11_years_2 sp_240 rfl ?_
  refine z_callV (q := 8) (o := 14) (av := [.int (zi a1), .int (zi 240)]) (rest := []) (stk2 := [.int (zi (fX11_areHours a1 240 h))]) C hR clX11 (zon C zo_14) kd_14 (M_fX11_areHours (zlv hd rfl) rfl) mY_X11_areHours q_1514 (Nat.le_of_ble_eq_true rfl) dX11_years_5 rfl rfl rfl ?_
  refine z_if_ne (tgt := 13) (q := 11) C dX11_years_8 (by decide) rfl (fun c1 => ?_) (fun c1 => ?_)
  · have hF := (if_neg c1).symm.trans hF
    refine z_aload_n (q := 14) C dX11_years_13 0 rfl rfl rfl ?_
    refine z_lload_n (q := 15) C dX11_years_14 2 rfl rfl rfl ?_
    obtain ⟨h2, eh2, hF⟩ := zlet_e hF
    refine z_putf (q := 18) C clX11 (zon C zo_14) kd_14 (k := 47) (x := a2) (by decide) q_1149 rfl rfl rfl rfl (((zfv_l kd_14 rfl)).trans (by rw [if_pos rfl])) dX11_years_15 rfl eh2 ?_
    refine z_iconst (q := 19) C dX11_years_18 rfl ?_
    refine z_istore (q := 21) C dX11_years_19 (by decide) rfl rfl ?_
    exact z_sub (J_fX11_years_c21 C hR hd e1 e2 N _ _ _ hF) [1, 2, 0] rfl
  · have hF := (if_pos c1).symm.trans hF
    refine z_iconst (q := 12) C dX11_years_11 rfl ?_
    have hF := Option.some.inj hF
    subst hF
    exact z_iret C e1 e2 dX11_years_12
set_option maxRecDepth 20000 in
set_option maxHeartbeats 4000000 in
theorem M_fX11_years {l : Launch} {D : va_G} {cy : ClassId} {α : Nat → Nat} {n : Nat} {σ : zSg} {d : Nat} (hd : 65 ≤ d) {N : Nat} {a1 : Int} {a2 : Int} {h : zH} {r : Int} {g : zH} (hF : fX11_years N a1 a2 h = some (r, g)) : zMet l yX11_years cX11_years 6 (some .int) (zrm d) D cy α n σ [.ref (α 14), .int (zi a1), .long (zl a2)] h (some (.int (zi r))) g := by
  obtain ⟨d, rfl⟩ : ∃ e, d = e + 1 := ⟨d - 1, by omega⟩
  refine z_met (by decide +kernel) (Nat.le_of_ble_eq_true rfl) (fun κ k1 k2 k3 k4 k5 k6 k7 k8 k9 C => ?_)
  subst k1 k3 k4 k5 k6 k7
  exact J_fX11_years C k2 hd k8 k9 hF
set_option maxRecDepth 20000 in
set_option maxHeartbeats 4000000 in
theorem J_fX11_image_c11b {κ : zT} (C : zC κ RX11 cX11_image 2 (some .int)) {d : Nat} (hR : zR κ = zrm (d + 1)) (hd : 1 ≤ d + 1) {N : Nat} {r : Int × zH} (e1 : zrv κ = some (.int (zi r.1))) (e2 : zhf κ = r.2) {K11 : Int → zH → Option (Int × zH)} (hK11 : ∀ (l1 : Int) (h : zH), K11 l1 h = some r → Z κ h 11 [(0, .ref (zα κ 14)), (1, .int (zi l1))] []) (l1 : Int) (h : zH) (hF : fX11_image_c11b N K11 l1 h = some r) : Z κ h 11 [(0, .ref (zα κ 14)), (1, .int (zi l1))] [] := by
  unfold fX11_image_c11b at hF
  refine z_iload_n (q := 12) C dX11_image_11 1 rfl rfl rfl ?_
  refine z_sipush (q := 15) C dX11_image_12 sp_165 rfl ?_
  refine z_icmp_ge (tgt := 36) (q := 18) C dX11_image_15 (by decide) rfl (fun c1 => ?_) (fun c1 => ?_)
  · have hF := (if_pos c1).symm.trans hF
    refine z_aload_n (q := 37) C dX11_image_36 0 rfl rfl rfl ?_
    refine z_iconst (q := 38) C dX11_image_37 rfl ?_
    obtain ⟨h2, eh2, hF⟩ := zlet_e hF
    refine z_putf (q := 41) C clX11 (zon C zo_14) kd_14 (k := 49) (x := 1) (by decide) q_1151 rfl rfl (zbn (Or.inr rfl)) (zbf (Or.inr rfl)) (((zfv_i kd_14 rfl)).trans (by rw [if_pos rfl])) dX11_image_38 rfl eh2 ?_
    refine z_aload_n (q := 42) C dX11_image_41 0 rfl rfl rfl ?_
    refine z_getf (q := 45) C clX11 (zon C zo_14) kd_14 (k := 34) (by decide) q_1136 rfl (zfv_r kd_14 rfl fr_14_34) dX11_image_42 rfl ?_
    refine z_bipush (q := 47) C dX11_image_45 bp_42 rfl ?_
    refine z_ialdc (q := 48) (j := 42) C (zon C zo_69) kd_69 zwk_42 (by rw [ln_69]; decide) dX11_image_47 rfl ?_
    have hF := Option.some.inj hF
    subst hF
    exact z_iret C e1 e2 dX11_image_48
  · have hF := (if_neg c1).symm.trans hF
    refine z_aload_n (q := 19) C dX11_image_18 0 rfl rfl rfl ?_
    refine z_getf (q := 22) C clX11 (zon C zo_14) kd_14 (k := 48) (by decide) q_1150 rfl (zfv_r kd_14 rfl fr_14_48) dX11_image_19 rfl ?_
    refine z_iload_n (q := 23) C dX11_image_22 1 rfl rfl rfl ?_
    refine z_aload_n (q := 24) C dX11_image_23 0 rfl rfl rfl ?_
    refine z_getf (q := 27) C clX11 (zon C zo_14) kd_14 (k := 34) (by decide) q_1136 rfl (zfv_r kd_14 rfl fr_14_34) dX11_image_24 rfl ?_
    refine z_iload_n (q := 28) C dX11_image_27 1 rfl rfl rfl ?_
    obtain ⟨g3, hF⟩ := zif_none hF
    refine z_iald (q := 29) C (zon C zo_69) kd_69 g3.1 (by rw [ln_69]; exact g3.2) dX11_image_28 rfl ?_
    obtain ⟨g4, hF⟩ := zif_none hF
    obtain ⟨h5, eh5, hF⟩ := zlet_e hF
    refine z_iast (q := 30) C (zon C zo_75) kd_75 g4.1 (by rw [ln_75]; exact g4.2) dX11_image_29 rfl eh5 ?_
    refine z_iinc (q := 33) (x := l1) C dX11_image_30 (j := 1) rfl (by decide) rfl rfl ?_
    refine z_goto (q := 11) C dX11_image_33 (by decide) ?_
    exact z_sub (hK11 _ _ hF) [1, 0] rfl
set_option maxRecDepth 20000 in
set_option maxHeartbeats 4000000 in
theorem J_fX11_image_c11 {κ : zT} (C : zC κ RX11 cX11_image 2 (some .int)) {d : Nat} (hR : zR κ = zrm (d + 1)) (hd : 1 ≤ d + 1) {N : Nat} {r : Int × zH} (e1 : zrv κ = some (.int (zi r.1))) (e2 : zhf κ = r.2) : ∀ (k : Nat) (l1 : Int) (h : zH), fX11_image_c11 N k l1 h = some r → Z κ h 11 [(0, .ref (zα κ 14)), (1, .int (zi l1))] [] := by
  intro k
  induction k with
  | zero => intro l1 h hF; cases hF
  | succ k ih => intro l1 h hF; exact J_fX11_image_c11b C hR hd e1 e2 ih l1 h hF
set_option maxRecDepth 20000 in
set_option maxHeartbeats 4000000 in
theorem J_fX11_image {κ : zT} (C : zC κ RX11 cX11_image 2 (some .int)) {d : Nat} (hR : zR κ = zrm (d + 1)) (hd : 1 ≤ d + 1) {N : Nat} {r : Int × zH} (e1 : zrv κ = some (.int (zi r.1))) (e2 : zhf κ = r.2) {h : zH} (hF : fX11_image N h = some r) : Z κ h 0 [(0, .ref (zα κ 14))] [] := by
  unfold fX11_image at hF
  refine z_aload_n (q := 1) C dX11_image_0 0 rfl rfl rfl ?_
  refine z_getf (q := 4) C clX11 (zon C zo_14) kd_14 (k := 28) (by decide) q_1130 rfl (zfv_i kd_14 rfl) dX11_image_1 rfl ?_
  refine z_if_ne (tgt := 9) (q := 7) C dX11_image_4 (by decide) rfl (fun c1 => ?_) (fun c1 => ?_)
  · have hF := (if_neg c1).symm.trans hF
    refine z_iconst (q := 10) C dX11_image_9 rfl ?_
    refine z_istore_n (q := 11) C dX11_image_10 (by decide) rfl rfl rfl ?_
    exact z_sub (J_fX11_image_c11 C hR hd e1 e2 N _ _ hF) [1, 0] rfl
  · have hF := (if_pos c1).symm.trans hF
    refine z_iconst (q := 8) C dX11_image_7 rfl ?_
    have hF := Option.some.inj hF
    subst hF
    exact z_iret C e1 e2 dX11_image_8
set_option maxRecDepth 20000 in
set_option maxHeartbeats 4000000 in
theorem M_fX11_image {l : Launch} {D : va_G} {cy : ClassId} {α : Nat → Nat} {n : Nat} {σ : zSg} {d : Nat} (hd : 1 ≤ d) {N : Nat} {h : zH} {r : Int} {g : zH} (hF : fX11_image N h = some (r, g)) : zMet l yX11_image cX11_image 2 (some .int) (zrm d) D cy α n σ [.ref (α 14)] h (some (.int (zi r))) g := by
  obtain ⟨d, rfl⟩ : ∃ e, d = e + 1 := ⟨d - 1, by omega⟩
  refine z_met (by decide +kernel) (Nat.le_of_ble_eq_true rfl) (fun κ k1 k2 k3 k4 k5 k6 k7 k8 k9 C => ?_)
  subst k1 k3 k4 k5 k6 k7
  exact J_fX11_image C k2 hd k8 k9 hF
set_option maxRecDepth 20000 in
set_option maxHeartbeats 4000000 in
theorem J_fX11_back_c11b {κ : zT} (C : zC κ RX11 cX11_back 2 (some .int)) {d : Nat} (hR : zR κ = zrm (d + 1)) (hd : 1 ≤ d + 1) {N : Nat} {r : Int × zH} (e1 : zrv κ = some (.int (zi r.1))) (e2 : zhf κ = r.2) {K11 : Int → zH → Option (Int × zH)} (hK11 : ∀ (l1 : Int) (h : zH), K11 l1 h = some r → Z κ h 11 [(0, .ref (zα κ 14)), (1, .int (zi l1))] []) (l1 : Int) (h : zH) (hF : fX11_back_c11b N K11 l1 h = some r) : Z κ h 11 [(0, .ref (zα κ 14)), (1, .int (zi l1))] [] := by
  unfold fX11_back_c11b at hF
  refine z_iload_n (q := 12) C dX11_back_11 1 rfl rfl rfl ?_
  refine z_sipush (q := 15) C dX11_back_12 sp_165 rfl ?_
  refine z_icmp_ge (tgt := 36) (q := 18) C dX11_back_15 (by decide) rfl (fun c1 => ?_) (fun c1 => ?_)
  · have hF := (if_pos c1).symm.trans hF
    refine z_aload_n (q := 37) C dX11_back_36 0 rfl rfl rfl ?_
    refine z_iconst (q := 38) C dX11_back_37 rfl ?_
    obtain ⟨h2, eh2, hF⟩ := zlet_e hF
    refine z_putf (q := 41) C clX11 (zon C zo_14) kd_14 (k := 38) (x := 0) (by decide) q_1140 rfl rfl rfl rfl (((zfv_i kd_14 rfl)).trans (by rw [if_pos rfl])) dX11_back_38 rfl eh2 ?_
    refine z_aload_n (q := 42) C dX11_back_41 0 rfl rfl rfl ?_
    refine z_getf (q := 45) C clX11 (zon C zo_14) kd_14 (k := 34) (by decide) q_1136 rfl (zfv_r kd_14 rfl fr_14_34) dX11_back_42 rfl ?_
    refine z_bipush (q := 47) C dX11_back_45 bp_42 rfl ?_
    refine z_ialdc (q := 48) (j := 42) C (zon C zo_69) kd_69 zwk_42 (by rw [ln_69]; decide) dX11_back_47 rfl ?_
    have hF := Option.some.inj hF
    subst hF
    exact z_iret C e1 e2 dX11_back_48
  · have hF := (if_neg c1).symm.trans hF
    refine z_aload_n (q := 19) C dX11_back_18 0 rfl rfl rfl ?_
    refine z_getf (q := 22) C clX11 (zon C zo_14) kd_14 (k := 34) (by decide) q_1136 rfl (zfv_r kd_14 rfl fr_14_34) dX11_back_19 rfl ?_
    refine z_iload_n (q := 23) C dX11_back_22 1 rfl rfl rfl ?_
    refine z_aload_n (q := 24) C dX11_back_23 0 rfl rfl rfl ?_
    refine z_getf (q := 27) C clX11 (zon C zo_14) kd_14 (k := 48) (by decide) q_1150 rfl (zfv_r kd_14 rfl fr_14_48) dX11_back_24 rfl ?_
    refine z_iload_n (q := 28) C dX11_back_27 1 rfl rfl rfl ?_
    obtain ⟨g3, hF⟩ := zif_none hF
    refine z_iald (q := 29) C (zon C zo_75) kd_75 g3.1 (by rw [ln_75]; exact g3.2) dX11_back_28 rfl ?_
    obtain ⟨g4, hF⟩ := zif_none hF
    obtain ⟨h5, eh5, hF⟩ := zlet_e hF
    refine z_iast (q := 30) C (zon C zo_69) kd_69 g4.1 (by rw [ln_69]; exact g4.2) dX11_back_29 rfl eh5 ?_
    refine z_iinc (q := 33) (x := l1) C dX11_back_30 (j := 1) rfl (by decide) rfl rfl ?_
    refine z_goto (q := 11) C dX11_back_33 (by decide) ?_
    exact z_sub (hK11 _ _ hF) [1, 0] rfl
set_option maxRecDepth 20000 in
set_option maxHeartbeats 4000000 in
theorem J_fX11_back_c11 {κ : zT} (C : zC κ RX11 cX11_back 2 (some .int)) {d : Nat} (hR : zR κ = zrm (d + 1)) (hd : 1 ≤ d + 1) {N : Nat} {r : Int × zH} (e1 : zrv κ = some (.int (zi r.1))) (e2 : zhf κ = r.2) : ∀ (k : Nat) (l1 : Int) (h : zH), fX11_back_c11 N k l1 h = some r → Z κ h 11 [(0, .ref (zα κ 14)), (1, .int (zi l1))] [] := by
  intro k
  induction k with
  | zero => intro l1 h hF; cases hF
  | succ k ih => intro l1 h hF; exact J_fX11_back_c11b C hR hd e1 e2 ih l1 h hF
set_option maxRecDepth 20000 in
set_option maxHeartbeats 4000000 in
theorem J_fX11_back {κ : zT} (C : zC κ RX11 cX11_back 2 (some .int)) {d : Nat} (hR : zR κ = zrm (d + 1)) (hd : 1 ≤ d + 1) {N : Nat} {r : Int × zH} (e1 : zrv κ = some (.int (zi r.1))) (e2 : zhf κ = r.2) {h : zH} (hF : fX11_back N h = some r) : Z κ h 0 [(0, .ref (zα κ 14))] [] := by
  unfold fX11_back at hF
  refine z_aload_n (q := 1) C dX11_back_0 0 rfl rfl rfl ?_
  refine z_getf (q := 4) C clX11 (zon C zo_14) kd_14 (k := 49) (by decide) q_1151 rfl (zfv_i kd_14 rfl) dX11_back_1 rfl ?_
  refine z_if_ne (tgt := 9) (q := 7) C dX11_back_4 (by decide) rfl (fun c1 => ?_) (fun c1 => ?_)
  · have hF := (if_neg c1).symm.trans hF
    refine z_iconst (q := 10) C dX11_back_9 rfl ?_
    refine z_istore_n (q := 11) C dX11_back_10 (by decide) rfl rfl rfl ?_
    exact z_sub (J_fX11_back_c11 C hR hd e1 e2 N _ _ hF) [1, 0] rfl
  · have hF := (if_pos c1).symm.trans hF
    refine z_iconst (q := 8) C dX11_back_7 rfl ?_
    have hF := Option.some.inj hF
    subst hF
    exact z_iret C e1 e2 dX11_back_8
set_option maxRecDepth 20000 in
set_option maxHeartbeats 4000000 in
theorem M_fX11_back {l : Launch} {D : va_G} {cy : ClassId} {α : Nat → Nat} {n : Nat} {σ : zSg} {d : Nat} (hd : 1 ≤ d) {N : Nat} {h : zH} {r : Int} {g : zH} (hF : fX11_back N h = some (r, g)) : zMet l yX11_back cX11_back 2 (some .int) (zrm d) D cy α n σ [.ref (α 14)] h (some (.int (zi r))) g := by
  obtain ⟨d, rfl⟩ : ∃ e, d = e + 1 := ⟨d - 1, by omega⟩
  refine z_met (by decide +kernel) (Nat.le_of_ble_eq_true rfl) (fun κ k1 k2 k3 k4 k5 k6 k7 k8 k9 C => ?_)
  subst k1 k3 k4 k5 k6 k7
  exact J_fX11_back C k2 hd k8 k9 hF
set_option maxRecDepth 20000 in
set_option maxHeartbeats 4000000 in
theorem J_fX11_count {κ : zT} (C : zC κ RX11 cX11_count 2 (some .int)) {d : Nat} (hR : zR κ = zrm (d + 1)) (hd : 1 ≤ d + 1) {h : zH} {r : Int} (e1 : zrv κ = some (.int (zi r))) (e2 : zhf κ = h) {a1 : Int} (hF : fX11_count a1 h = r) : Z κ h 0 [(0, .ref (zα κ 14)), (1, .int (zi a1))] [] := by
  unfold fX11_count at hF
  refine z_iload_n (q := 1) C dX11_count_0 1 rfl rfl rfl ?_
  by_cases c1 : zw a1 = 0
  · have hF := (if_pos c1).symm.trans hF
    refine z_tableIn (off := 63) (tgt := 64) C c1 dX11_count_1 (by decide) (by decide) (by decide) (by decide) ?_
    refine z_aload_n (q := 65) C dX11_count_64 0 rfl rfl rfl ?_
    refine z_getf (q := 68) C clX11 (zon C zo_14) kd_14 (k := 28) (by decide) q_1130 rfl (zfv_i kd_14 rfl) dX11_count_65 rfl ?_
    subst hF
    exact z_iret C e1 e2 dX11_count_68
  · have hF := (if_neg c1).symm.trans hF
    by_cases c2 : zw a1 = 1
    · have hF := (if_pos c2).symm.trans hF
      refine z_tableIn (off := 68) (tgt := 69) C c2 dX11_count_1 (by decide) (by decide) (by decide) (by decide) ?_
      refine z_aload_n (q := 70) C dX11_count_69 0 rfl rfl rfl ?_
      refine z_getf (q := 73) C clX11 (zon C zo_14) kd_14 (k := 29) (by decide) q_1131 rfl (zfv_i kd_14 rfl) dX11_count_70 rfl ?_
      subst hF
      exact z_iret C e1 e2 dX11_count_73
    · have hF := (if_neg c2).symm.trans hF
      by_cases c3 : zw a1 = 2
      · have hF := (if_pos c3).symm.trans hF
        refine z_tableIn (off := 73) (tgt := 74) C c3 dX11_count_1 (by decide) (by decide) (by decide) (by decide) ?_
        refine z_aload_n (q := 75) C dX11_count_74 0 rfl rfl rfl ?_
        refine z_getf (q := 78) C clX11 (zon C zo_14) kd_14 (k := 30) (by decide) q_1132 rfl (zfv_i kd_14 rfl) dX11_count_75 rfl ?_
        subst hF
        exact z_iret C e1 e2 dX11_count_78
      · have hF := (if_neg c3).symm.trans hF
        by_cases c4 : zw a1 = 3
        · have hF := (if_pos c4).symm.trans hF
          refine z_tableIn (off := 78) (tgt := 79) C c4 dX11_count_1 (by decide) (by decide) (by decide) (by decide) ?_
          refine z_aload_n (q := 80) C dX11_count_79 0 rfl rfl rfl ?_
          refine z_getf (q := 83) C clX11 (zon C zo_14) kd_14 (k := 13) (by decide) q_1115 rfl (zfv_i kd_14 rfl) dX11_count_80 rfl ?_
          subst hF
          exact z_iret C e1 e2 dX11_count_83
        · have hF := (if_neg c4).symm.trans hF
          by_cases c5 : zw a1 = 4
          · have hF := (if_pos c5).symm.trans hF
            refine z_tableIn (off := 83) (tgt := 84) C c5 dX11_count_1 (by decide) (by decide) (by decide) (by decide) ?_
            refine z_aload_n (q := 85) C dX11_count_84 0 rfl rfl rfl ?_
            refine z_getf (q := 88) C clX11 (zon C zo_14) kd_14 (k := 33) (by decide) q_1135 rfl (zfv_i kd_14 rfl) dX11_count_85 rfl ?_
            subst hF
            exact z_iret C e1 e2 dX11_count_88
          · have hF := (if_neg c5).symm.trans hF
            by_cases c6 : zw a1 = 5
            · have hF := (if_pos c6).symm.trans hF
              refine z_tableIn (off := 88) (tgt := 89) C c6 dX11_count_1 (by decide) (by decide) (by decide) (by decide) ?_
              refine z_aload_n (q := 90) C dX11_count_89 0 rfl rfl rfl ?_
              refine z_getf (q := 93) C clX11 (zon C zo_14) kd_14 (k := 2) (by decide) q_1104 rfl (zfv_i kd_14 rfl) dX11_count_90 rfl ?_
              subst hF
              exact z_iret C e1 e2 dX11_count_93
            · have hF := (if_neg c6).symm.trans hF
              by_cases c7 : zw a1 = 6
              · have hF := (if_pos c7).symm.trans hF
                refine z_tableIn (off := 93) (tgt := 94) C c7 dX11_count_1 (by decide) (by decide) (by decide) (by decide) ?_
                refine z_aload_n (q := 95) C dX11_count_94 0 rfl rfl rfl ?_
                refine z_getf (q := 98) C clX11 (zon C zo_14) kd_14 (k := 35) (by decide) q_1137 rfl (zfv_i kd_14 rfl) dX11_count_95 rfl ?_
                subst hF
                exact z_iret C e1 e2 dX11_count_98
              · have hF := (if_neg c7).symm.trans hF
                by_cases c8 : zw a1 = 7
                · have hF := (if_pos c8).symm.trans hF
                  refine z_tableIn (off := 98) (tgt := 99) C c8 dX11_count_1 (by decide) (by decide) (by decide) (by decide) ?_
                  refine z_aload_n (q := 100) C dX11_count_99 0 rfl rfl rfl ?_
                  refine z_getf (q := 103) C clX11 (zon C zo_14) kd_14 (k := 34) (by decide) q_1136 rfl (zfv_r kd_14 rfl fr_14_34) dX11_count_100 rfl ?_
                  refine z_bipush (q := 105) C dX11_count_103 bp_42 rfl ?_
                  refine z_ialdc (q := 106) (j := 42) C (zon C zo_69) kd_69 zwk_42 (by rw [ln_69]; decide) dX11_count_105 rfl ?_
                  subst hF
                  exact z_iret C e1 e2 dX11_count_106
                · have hF := (if_neg c8).symm.trans hF
                  by_cases c9 : zw a1 = 8
                  · have hF := (if_pos c9).symm.trans hF
                    refine z_tableIn (off := 106) (tgt := 107) C c9 dX11_count_1 (by decide) (by decide) (by decide) (by decide) ?_
                    refine z_aload_n (q := 108) C dX11_count_107 0 rfl rfl rfl ?_
                    refine z_getf (q := 111) C clX11 (zon C zo_14) kd_14 (k := 36) (by decide) q_1138 rfl (zfv_i kd_14 rfl) dX11_count_108 rfl ?_
                    subst hF
                    exact z_iret C e1 e2 dX11_count_111
                  · have hF := (if_neg c9).symm.trans hF
                    by_cases c10 : zw a1 = 9
                    · have hF := (if_pos c10).symm.trans hF
                      refine z_tableIn (off := 111) (tgt := 112) C c10 dX11_count_1 (by decide) (by decide) (by decide) (by decide) ?_
                      refine z_aload_n (q := 113) C dX11_count_112 0 rfl rfl rfl ?_
                      refine z_getf (q := 116) C clX11 (zon C zo_14) kd_14 (k := 46) (by decide) q_1148 rfl (zfv_i kd_14 rfl) dX11_count_113 rfl ?_
                      subst hF
                      exact z_iret C e1 e2 dX11_count_116
                    · have hF := (if_neg c10).symm.trans hF
                      by_cases c11 : zw a1 = 10
                      · have hF := (if_pos c11).symm.trans hF
                        refine z_tableIn (off := 116) (tgt := 117) C c11 dX11_count_1 (by decide) (by decide) (by decide) (by decide) ?_
                        refine z_aload_n (q := 118) C dX11_count_117 0 rfl rfl rfl ?_
                        refine z_getf (q := 121) C clX11 (zon C zo_14) kd_14 (k := 34) (by decide) q_1136 rfl (zfv_r kd_14 rfl fr_14_34) dX11_count_118 rfl ?_
                        refine z_bipush (q := 123) C dX11_count_121 bp_44 rfl ?_
                        refine z_ialdc (q := 124) (j := 44) C (zon C zo_69) kd_69 zwk_44 (by rw [ln_69]; decide) dX11_count_123 rfl ?_
                        subst hF
                        exact z_iret C e1 e2 dX11_count_124
                      · have hF := (if_neg c11).symm.trans hF
                        by_cases c12 : zw a1 = 11
                        · have hF := (if_pos c12).symm.trans hF
                          refine z_tableIn (off := 124) (tgt := 125) C c12 dX11_count_1 (by decide) (by decide) (by decide) (by decide) ?_
                          refine z_aload_n (q := 126) C dX11_count_125 0 rfl rfl rfl ?_
                          refine z_getf (q := 129) C clX11 (zon C zo_14) kd_14 (k := 38) (by decide) q_1140 rfl (zfv_i kd_14 rfl) dX11_count_126 rfl ?_
                          subst hF
                          exact z_iret C e1 e2 dX11_count_129
                        · have hF := (if_neg c12).symm.trans hF
                          refine z_tableOut (tgt := 130) C dX11_count_1 (by omega) (by decide) ?_
                          refine z_ldcw (q := 133) C kc_RX11_392 dX11_count_130 rfl ?_
                          subst hF
                          exact z_iret C e1 e2 dX11_count_133
set_option maxRecDepth 20000 in
set_option maxHeartbeats 4000000 in
theorem M_fX11_count {l : Launch} {D : va_G} {cy : ClassId} {α : Nat → Nat} {n : Nat} {σ : zSg} {d : Nat} (hd : 1 ≤ d) {a1 : Int} {h : zH} {r : Int} (hF : fX11_count a1 h = r) : zMet l yX11_count cX11_count 2 (some .int) (zrm d) D cy α n σ [.ref (α 14), .int (zi a1)] h (some (.int (zi r))) h := by
  obtain ⟨d, rfl⟩ : ∃ e, d = e + 1 := ⟨d - 1, by omega⟩
  refine z_met (by decide +kernel) (Nat.le_of_ble_eq_true rfl) (fun κ k1 k2 k3 k4 k5 k6 k7 k8 k9 C => ?_)
  subst k1 k3 k4 k5 k6 k7
  exact J_fX11_count C k2 hd k8 k9 hF
