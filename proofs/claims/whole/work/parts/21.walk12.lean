set_option maxRecDepth 20000 in
set_option maxHeartbeats 4000000 in
theorem J_fX11_stepText_c36 {κ : zT} (C : zC κ RX11 cX11_stepText 4 none) {d : Nat} (hR : zR κ = zrm (d + 1)) (hd : 4 ≤ d + 1) {N : Nat} {r : zH} (e1 : zrv κ = none) (e2 : zhf κ = r) (l1 : Int) (s0 : Int) (h : zH) (hF : fX11_stepText_c36 N l1 s0 h = some r) : Z κ h 36 [(0, .ref (zα κ 14)), (1, .int (zi l1))] [.int (zi s0)] := by
  unfold fX11_stepText_c36 at hF
  refine z_istore_n (q := 37) C dX11_stepText_36 (by decide) rfl rfl rfl ?_
  refine z_iload_n (q := 38) C dX11_stepText_37 0 rfl rfl rfl ?_
  refine z_iconst (q := 39) C dX11_stepText_38 rfl ?_
  refine z_icmp_ne (tgt := 47) (q := 42) C dX11_stepText_39 (by decide) rfl (fun c1 => ?_) (fun c1 => ?_)
  · have hF := (if_neg c1).symm.trans hF
    refine z_aload_n (q := 48) C dX11_stepText_47 1 rfl rfl rfl ?_
    refine z_dup (q := 49) C dX11_stepText_48 rfl rfl ?_
    refine z_getf (q := 52) C clX11 (zon C zo_14) kd_14 (k := 3) (by decide) q_1105 rfl (zfv_i kd_14 rfl) dX11_stepText_49 rfl ?_
    refine z_iconst (q := 53) C dX11_stepText_52 rfl ?_
    refine z_iadd (q := 54) C dX11_stepText_53 rfl ?_
    obtain ⟨h3, eh3, hF⟩ := zlet_e hF
    refine z_putf (q := 57) C clX11 (zon C zo_14) kd_14 (k := 3) (x := (h 14 3) + 1) (by decide) q_1105 rfl rfl rfl rfl (((zfv_i kd_14 rfl)).trans (by rw [if_pos rfl])) dX11_stepText_54 rfl eh3 ?_
    refine z_aload_n (q := 58) C dX11_stepText_57 1 rfl rfl rfl ?_
    refine z_getf (q := 61) C clX11 (zon C zo_14) kd_14 (k := 31) (by decide) q_1133 rfl (zfv_r kd_14 rfl fr_14_31) dX11_stepText_58 rfl ?_
    refine z_iload_n (q := 62) C dX11_stepText_61 2 rfl rfl rfl ?_
    refine z_iload_n (q := 63) C dX11_stepText_62 0 rfl rfl rfl ?_
    obtain ⟨g4, hF⟩ := zif_none hF
    obtain ⟨h5, eh5, hF⟩ := zlet_e hF
    refine z_iast (q := 64) C (zon C zo_67) kd_67 g4.1 (by rw [ln_67]; exact g4.2) dX11_stepText_63 rfl eh5 ?_
    refine z_aload_n (q := 65) C dX11_stepText_64 1 rfl rfl rfl ?_
    refine z_getf (q := 68) C clX11 (zon C zo_14) kd_14 (k := 31) (by decide) q_1133 rfl (zfv_r kd_14 rfl fr_14_31) dX11_stepText_65 rfl ?_
    refine z_iload_n (q := 69) C dX11_stepText_68 2 rfl rfl rfl ?_
    refine z_iconst (q := 70) C dX11_stepText_69 rfl ?_
    refine z_iadd (q := 71) C dX11_stepText_70 rfl ?_
    refine z_iload_n (q := 72) C dX11_stepText_71 0 rfl rfl rfl ?_
    refine z_iconst (q := 73) C dX11_stepText_72 rfl ?_
    refine z_icmp_ge (tgt := 83) (q := 76) C dX11_stepText_73 (by decide) rfl (fun c6 => ?_) (fun c6 => ?_)
    · have hF := (if_pos c6).symm.trans hF
      refine z_iconst (q := 84) C dX11_stepText_83 rfl ?_
      obtain ⟨g7, hF⟩ := zif_none hF
      obtain ⟨h8, eh8, hF⟩ := zlet_e hF
      refine z_iast (q := 85) C (zon C zo_67) kd_67 g7.1 (by rw [ln_67]; exact g7.2) dX11_stepText_84 rfl eh8 ?_
      refine z_aload_n (q := 86) C dX11_stepText_85 1 rfl rfl rfl ?_
      refine z_getf (q := 89) C clX11 (zon C zo_14) kd_14 (k := 31) (by decide) q_1133 rfl (zfv_r kd_14 rfl fr_14_31) dX11_stepText_86 rfl ?_
      refine z_iload_n (q := 90) C dX11_stepText_89 2 rfl rfl rfl ?_
      refine z_iconst (q := 91) C dX11_stepText_90 rfl ?_
      refine z_iadd (q := 92) C dX11_stepText_91 rfl ?_
      refine z_iload_n (q := 93) C dX11_stepText_92 0 rfl rfl rfl ?_
      refine z_if_ne (tgt := 103) (q := 96) C dX11_stepText_93 (by decide) rfl (fun c9 => ?_) (fun c9 => ?_)
      · have hF := (if_neg c9).symm.trans hF
        refine z_iconst (q := 104) C dX11_stepText_103 rfl ?_
        obtain ⟨g14, hF⟩ := zif_none hF
        obtain ⟨h15, eh15, hF⟩ := zlet_e hF
        refine z_iast (q := 105) C (zon C zo_67) kd_67 g14.1 (by rw [ln_67]; exact g14.2) dX11_stepText_104 rfl eh15 ?_
        have hF := Option.some.inj hF
        subst hF
        exact z_vret C e1 e2 dX11_stepText_105
      · have hF := (if_pos c9).symm.trans hF
        refine z_aload_n (q := 97) C dX11_stepText_96 1 rfl rfl rfl ?_
        obtain ⟨v11, h10, ev11, hF⟩ := z2_e hF
        refine z_callV (q := 100) (o := 14) (av := []) (rest := [.int (zi (l1 + 2)), .ref (zα κ 67)]) (stk2 := [.int (zi v11), .int (zi (l1 + 2)), .ref (zα κ 67)]) C hR clX11 (zon C zo_14) kd_14 (M_fX11_figure (zlv hd rfl) ev11) mY_X11_figure q_1402 (Nat.le_of_ble_eq_true rfl) dX11_stepText_97 rfl rfl rfl ?_
        refine z_goto (q := 104) C dX11_stepText_100 (by decide) ?_
        obtain ⟨g12, hF⟩ := zif_none hF
        obtain ⟨h13, eh13, hF⟩ := zlet_e hF
        refine z_iast (q := 105) C (zon C zo_67) kd_67 g12.1 (by rw [ln_67]; exact g12.2) dX11_stepText_104 rfl eh13 ?_
        have hF := Option.some.inj hF
        subst hF
        exact z_vret C e1 e2 dX11_stepText_105
    · have hF := (if_neg c6).symm.trans hF
      refine z_aload_n (q := 77) C dX11_stepText_76 1 rfl rfl rfl ?_
      obtain ⟨v17, h16, ev17, hF⟩ := z2_e hF
      refine z_callV (q := 80) (o := 14) (av := []) (rest := [.int (zi (l1 + 1)), .ref (zα κ 67)]) (stk2 := [.int (zi v17), .int (zi (l1 + 1)), .ref (zα κ 67)]) C hR clX11 (zon C zo_14) kd_14 (M_fX11_figure (zlv hd rfl) ev17) mY_X11_figure q_1402 (Nat.le_of_ble_eq_true rfl) dX11_stepText_77 rfl rfl rfl ?_
      refine z_goto (q := 84) C dX11_stepText_80 (by decide) ?_
      obtain ⟨g18, hF⟩ := zif_none hF
      obtain ⟨h19, eh19, hF⟩ := zlet_e hF
      refine z_iast (q := 85) C (zon C zo_67) kd_67 g18.1 (by rw [ln_67]; exact g18.2) dX11_stepText_84 rfl eh19 ?_
      refine z_aload_n (q := 86) C dX11_stepText_85 1 rfl rfl rfl ?_
      refine z_getf (q := 89) C clX11 (zon C zo_14) kd_14 (k := 31) (by decide) q_1133 rfl (zfv_r kd_14 rfl fr_14_31) dX11_stepText_86 rfl ?_
      refine z_iload_n (q := 90) C dX11_stepText_89 2 rfl rfl rfl ?_
      refine z_iconst (q := 91) C dX11_stepText_90 rfl ?_
      refine z_iadd (q := 92) C dX11_stepText_91 rfl ?_
      refine z_iload_n (q := 93) C dX11_stepText_92 0 rfl rfl rfl ?_
      refine z_if_ne (tgt := 103) (q := 96) C dX11_stepText_93 (by decide) rfl (fun c20 => ?_) (fun c20 => ?_)
      · have hF := (if_neg c20).symm.trans hF
        refine z_iconst (q := 104) C dX11_stepText_103 rfl ?_
        obtain ⟨g25, hF⟩ := zif_none hF
        obtain ⟨h26, eh26, hF⟩ := zlet_e hF
        refine z_iast (q := 105) C (zon C zo_67) kd_67 g25.1 (by rw [ln_67]; exact g25.2) dX11_stepText_104 rfl eh26 ?_
        have hF := Option.some.inj hF
        subst hF
        exact z_vret C e1 e2 dX11_stepText_105
      · have hF := (if_pos c20).symm.trans hF
        refine z_aload_n (q := 97) C dX11_stepText_96 1 rfl rfl rfl ?_
        obtain ⟨v22, h21, ev22, hF⟩ := z2_e hF
        refine z_callV (q := 100) (o := 14) (av := []) (rest := [.int (zi (l1 + 2)), .ref (zα κ 67)]) (stk2 := [.int (zi v22), .int (zi (l1 + 2)), .ref (zα κ 67)]) C hR clX11 (zon C zo_14) kd_14 (M_fX11_figure (zlv hd rfl) ev22) mY_X11_figure q_1402 (Nat.le_of_ble_eq_true rfl) dX11_stepText_97 rfl rfl rfl ?_
        refine z_goto (q := 104) C dX11_stepText_100 (by decide) ?_
        obtain ⟨g23, hF⟩ := zif_none hF
        obtain ⟨h24, eh24, hF⟩ := zlet_e hF
        refine z_iast (q := 105) C (zon C zo_67) kd_67 g23.1 (by rw [ln_67]; exact g23.2) dX11_stepText_104 rfl eh24 ?_
        have hF := Option.some.inj hF
        subst hF
        exact z_vret C e1 e2 dX11_stepText_105
  · have hF := (if_pos c1).symm.trans hF
    refine z_aload_n (q := 43) C dX11_stepText_42 1 rfl rfl rfl ?_
    obtain ⟨h2, eh2, hF⟩ := zlet_e hF
    refine z_callV (q := 46) (o := 14) (av := []) (rest := []) (stk2 := []) C hR clX11 (zon C zo_14) kd_14 (M_fX11_bad (zlv hd rfl) eh2.symm) mY_X11_bad q_1310 (Nat.le_of_ble_eq_true rfl) dX11_stepText_43 rfl rfl rfl ?_
    have hF := Option.some.inj hF
    subst hF
    exact z_vret C e1 e2 dX11_stepText_46
set_option maxRecDepth 20000 in
set_option maxHeartbeats 4000000 in
theorem J_fX11_stepText {κ : zT} (C : zC κ RX11 cX11_stepText 4 none) {d : Nat} (hR : zR κ = zrm (d + 1)) (hd : 4 ≤ d + 1) {N : Nat} {r : zH} (e1 : zrv κ = none) (e2 : zhf κ = r) {a1 : Int} {h : zH} (hF : fX11_stepText N a1 h = some r) : Z κ h 0 [(0, .ref (zα κ 14)), (1, .int (zi a1))] [] := by
  unfold fX11_stepText at hF
  refine z_aload_n (q := 1) C dX11_stepText_0 0 rfl rfl rfl ?_
  obtain ⟨v2, h1, ev2, hF⟩ := z2_e hF
  refine z_callV (q := 4) (o := 14) (av := []) (rest := []) (stk2 := [.int (zi v2)]) C hR clX11 (zon C zo_14) kd_14 (M_fX11_look (zlv hd rfl) ev2) mY_X11_look q_1279 (Nat.le_of_ble_eq_true rfl) dX11_stepText_1 rfl rfl rfl ?_
  refine z_istore_n (q := 5) C dX11_stepText_4 (by decide) rfl rfl rfl ?_
  refine z_iload_n (q := 6) C dX11_stepText_5 0 rfl rfl rfl ?_
  refine z_bipush (q := 8) C dX11_stepText_6 bp_102 rfl ?_
  refine z_icmp_ne (tgt := 15) (q := 11) C dX11_stepText_8 (by decide) rfl (fun c3 => ?_) (fun c3 => ?_)
  · have hF := (if_neg c3).symm.trans hF
    refine z_iload_n (q := 16) C dX11_stepText_15 0 rfl rfl rfl ?_
    refine z_bipush (q := 18) C dX11_stepText_16 bp_119 rfl ?_
    refine z_icmp_ne (tgt := 25) (q := 21) C dX11_stepText_18 (by decide) rfl (fun c4 => ?_) (fun c4 => ?_)
    · have hF := (if_neg c4).symm.trans hF
      refine z_iload_n (q := 26) C dX11_stepText_25 0 rfl rfl rfl ?_
      refine z_bipush (q := 28) C dX11_stepText_26 bp_104 rfl ?_
      refine z_icmp_ne (tgt := 35) (q := 31) C dX11_stepText_28 (by decide) rfl (fun c5 => ?_) (fun c5 => ?_)
      · have hF := (if_neg c5).symm.trans hF
        refine z_iconst (q := 36) C dX11_stepText_35 rfl ?_
        exact z_sub (J_fX11_stepText_c36 C hR hd e1 e2 _ _ _ hF) [1, 2] rfl
      · have hF := (if_pos c5).symm.trans hF
        refine z_iconst (q := 32) C dX11_stepText_31 rfl ?_
        refine z_goto (q := 36) C dX11_stepText_32 (by decide) ?_
        exact z_sub (J_fX11_stepText_c36 C hR hd e1 e2 _ _ _ hF) [1, 2] rfl
    · have hF := (if_pos c4).symm.trans hF
      refine z_iconst (q := 22) C dX11_stepText_21 rfl ?_
      refine z_goto (q := 36) C dX11_stepText_22 (by decide) ?_
      exact z_sub (J_fX11_stepText_c36 C hR hd e1 e2 _ _ _ hF) [1, 2] rfl
  · have hF := (if_pos c3).symm.trans hF
    refine z_iconst (q := 12) C dX11_stepText_11 rfl ?_
    refine z_goto (q := 36) C dX11_stepText_12 (by decide) ?_
    exact z_sub (J_fX11_stepText_c36 C hR hd e1 e2 _ _ _ hF) [1, 2] rfl
set_option maxRecDepth 20000 in
set_option maxHeartbeats 4000000 in
theorem M_fX11_stepText {l : Launch} {D : va_G} {cy : ClassId} {α : Nat → Nat} {n : Nat} {σ : zSg} {d : Nat} (hd : 4 ≤ d) {N : Nat} {a1 : Int} {h : zH} {g : zH} (hF : fX11_stepText N a1 h = some g) : zMet l yX11_stepText cX11_stepText 4 none (zrm d) D cy α n σ [.ref (α 14), .int (zi a1)] h (none) g := by
  obtain ⟨d, rfl⟩ : ∃ e, d = e + 1 := ⟨d - 1, by omega⟩
  refine z_met (by decide +kernel) (Nat.le_of_ble_eq_true rfl) (fun κ k1 k2 k3 k4 k5 k6 k7 k8 k9 C => ?_)
  subst k1 k3 k4 k5 k6 k7
  exact J_fX11_stepText C k2 hd k8 k9 hF
set_option maxRecDepth 20000 in
set_option maxHeartbeats 4000000 in
theorem J_fX11_readOrders_c90 {κ : zT} (C : zC κ RX11 cX11_readOrders 3 (some .int)) {d : Nat} (hR : zR κ = zrm (d + 1)) (hd : 5 ≤ d + 1) {N : Nat} {r : Int × zH} (e1 : zrv κ = some (.int (zi r.1))) (e2 : zhf κ = r.2) {K19 : Int → Int → zH → Option (Int × zH)} (hK19 : ∀ (l1 : Int) (l2 : Int) (h : zH), K19 l1 l2 h = some r → Z κ h 19 [(0, .ref (zα κ 14)), (1, .int (zi l1)), (2, .int (zi l2))] []) (l1 : Int) (h : zH) (hF : fX11_readOrders_c90 N K19 l1 h = some r) : Z κ h 90 [(0, .ref (zα κ 14)), (1, .int (zi l1))] [] := by
  unfold fX11_readOrders_c90 at hF
  refine z_iconst (q := 91) C dX11_readOrders_90 rfl ?_
  refine z_istore_n (q := 92) C dX11_readOrders_91 (by decide) rfl rfl rfl ?_
  refine z_aload_n (q := 93) C dX11_readOrders_92 1 rfl rfl rfl ?_
  refine z_dup (q := 94) C dX11_readOrders_93 rfl rfl ?_
  refine z_getf (q := 97) C clX11 (zon C zo_14) kd_14 (k := 3) (by decide) q_1105 rfl (zfv_i kd_14 rfl) dX11_readOrders_94 rfl ?_
  refine z_iload_n (q := 98) C dX11_readOrders_97 0 rfl rfl rfl ?_
  refine z_if_eq (tgt := 105) (q := 101) C dX11_readOrders_98 (by decide) rfl (fun c1 => ?_) (fun c1 => ?_)
  · have hF := (if_pos c1).symm.trans hF
    refine z_iconst (q := 106) C dX11_readOrders_105 rfl ?_
    refine z_iadd (q := 107) C dX11_readOrders_106 rfl ?_
    obtain ⟨h2, eh2, hF⟩ := zlet_e hF
    refine z_putf (q := 110) C clX11 (zon C zo_14) kd_14 (k := 3) (x := (h 14 3) + 0) (by decide) q_1105 rfl rfl rfl rfl (((zfv_i kd_14 rfl)).trans (by rw [if_pos rfl])) dX11_readOrders_107 rfl eh2 ?_
    refine z_goto (q := 19) C dX11_readOrders_110 (by decide) ?_
    exact z_sub (hK19 _ _ _ hF) [1, 2, 0] rfl
  · have hF := (if_neg c1).symm.trans hF
    refine z_iconst (q := 102) C dX11_readOrders_101 rfl ?_
    refine z_goto (q := 106) C dX11_readOrders_102 (by decide) ?_
    refine z_iadd (q := 107) C dX11_readOrders_106 rfl ?_
    obtain ⟨h3, eh3, hF⟩ := zlet_e hF
    refine z_putf (q := 110) C clX11 (zon C zo_14) kd_14 (k := 3) (x := (h 14 3) + 1) (by decide) q_1105 rfl rfl rfl rfl (((zfv_i kd_14 rfl)).trans (by rw [if_pos rfl])) dX11_readOrders_107 rfl eh3 ?_
    refine z_goto (q := 19) C dX11_readOrders_110 (by decide) ?_
    exact z_sub (hK19 _ _ _ hF) [1, 2, 0] rfl
set_option maxRecDepth 20000 in
set_option maxHeartbeats 4000000 in
theorem J_fX11_readOrders_c19b {κ : zT} (C : zC κ RX11 cX11_readOrders 3 (some .int)) {d : Nat} (hR : zR κ = zrm (d + 1)) (hd : 5 ≤ d + 1) {N : Nat} {r : Int × zH} (e1 : zrv κ = some (.int (zi r.1))) (e2 : zhf κ = r.2) {K19 : Int → Int → zH → Option (Int × zH)} (hK19 : ∀ (l1 : Int) (l2 : Int) (h : zH), K19 l1 l2 h = some r → Z κ h 19 [(0, .ref (zα κ 14)), (1, .int (zi l1)), (2, .int (zi l2))] []) (l1 : Int) (l2 : Int) (h : zH) (hF : fX11_readOrders_c19b N K19 l1 l2 h = some r) : Z κ h 19 [(0, .ref (zα κ 14)), (1, .int (zi l1)), (2, .int (zi l2))] [] := by
  unfold fX11_readOrders_c19b at hF
  refine z_iload_n (q := 20) C dX11_readOrders_19 2 rfl rfl rfl ?_
  refine z_if_eq (tgt := 113) (q := 23) C dX11_readOrders_20 (by decide) rfl (fun c1 => ?_) (fun c1 => ?_)
  · have hF := (if_pos c1).symm.trans hF
    refine z_aload_n (q := 114) C dX11_readOrders_113 0 rfl rfl rfl ?_
    refine z_getf (q := 117) C clX11 (zon C zo_14) kd_14 (k := 4) (by decide) q_1106 rfl (zfv_i kd_14 rfl) dX11_readOrders_114 rfl ?_
    refine z_iconst (q := 118) C dX11_readOrders_117 rfl ?_
    refine z_icmp_ne (tgt := 133) (q := 121) C dX11_readOrders_118 (by decide) rfl (fun c2 => ?_) (fun c2 => ?_)
    · have hF := (if_neg c2).symm.trans hF
      refine z_aload_n (q := 134) C dX11_readOrders_133 0 rfl rfl rfl ?_
      refine z_getf (q := 137) C clX11 (zon C zo_14) kd_14 (k := 4) (by decide) q_1106 rfl (zfv_i kd_14 rfl) dX11_readOrders_134 rfl ?_
      have hF := Option.some.inj hF
      subst hF
      exact z_iret C e1 e2 dX11_readOrders_137
    · have hF := (if_pos c2).symm.trans hF
      refine z_aload_n (q := 122) C dX11_readOrders_121 0 rfl rfl rfl ?_
      obtain ⟨v4, h3, ev4, hF⟩ := z2_e hF
      refine z_callV (q := 125) (o := 14) (av := []) (rest := []) (stk2 := [.int (zi v4)]) C hR clX11 (zon C zo_14) kd_14 (M_fX11_look (zlv hd rfl) ev4) mY_X11_look q_1279 (Nat.le_of_ble_eq_true rfl) dX11_readOrders_122 rfl rfl rfl ?_
      refine z_iconst (q := 126) C dX11_readOrders_125 rfl ?_
      refine z_icmp_eq (tgt := 133) (q := 129) C dX11_readOrders_126 (by decide) rfl (fun c5 => ?_) (fun c5 => ?_)
      · have hF := (if_pos c5).symm.trans hF
        refine z_aload_n (q := 134) C dX11_readOrders_133 0 rfl rfl rfl ?_
        refine z_getf (q := 137) C clX11 (zon C zo_14) kd_14 (k := 4) (by decide) q_1106 rfl (zfv_i kd_14 rfl) dX11_readOrders_134 rfl ?_
        have hF := Option.some.inj hF
        subst hF
        exact z_iret C e1 e2 dX11_readOrders_137
      · have hF := (if_neg c5).symm.trans hF
        refine z_aload_n (q := 130) C dX11_readOrders_129 0 rfl rfl rfl ?_
        obtain ⟨h6, eh6, hF⟩ := zlet_e hF
        refine z_callV (q := 133) (o := 14) (av := []) (rest := []) (stk2 := []) C hR clX11 (zon C zo_14) kd_14 (M_fX11_bad (zlv hd rfl) eh6.symm) mY_X11_bad q_1310 (Nat.le_of_ble_eq_true rfl) dX11_readOrders_130 rfl rfl rfl ?_
        refine z_aload_n (q := 134) C dX11_readOrders_133 0 rfl rfl rfl ?_
        refine z_getf (q := 137) C clX11 (zon C zo_14) kd_14 (k := 4) (by decide) q_1106 rfl (zfv_i kd_14 rfl) dX11_readOrders_134 rfl ?_
        have hF := Option.some.inj hF
        subst hF
        exact z_iret C e1 e2 dX11_readOrders_137
  · have hF := (if_neg c1).symm.trans hF
    refine z_aload_n (q := 24) C dX11_readOrders_23 0 rfl rfl rfl ?_
    refine z_getf (q := 27) C clX11 (zon C zo_14) kd_14 (k := 4) (by decide) q_1106 rfl (zfv_i kd_14 rfl) dX11_readOrders_24 rfl ?_
    refine z_iconst (q := 28) C dX11_readOrders_27 rfl ?_
    refine z_icmp_ne (tgt := 113) (q := 31) C dX11_readOrders_28 (by decide) rfl (fun c7 => ?_) (fun c7 => ?_)
    · have hF := (if_neg c7).symm.trans hF
      refine z_aload_n (q := 114) C dX11_readOrders_113 0 rfl rfl rfl ?_
      refine z_getf (q := 117) C clX11 (zon C zo_14) kd_14 (k := 4) (by decide) q_1106 rfl (zfv_i kd_14 rfl) dX11_readOrders_114 rfl ?_
      refine z_iconst (q := 118) C dX11_readOrders_117 rfl ?_
      refine z_icmp_ne (tgt := 133) (q := 121) C dX11_readOrders_118 (by decide) rfl (fun c22 => ?_) (fun c22 => ?_)
      · have hF := (if_neg c22).symm.trans hF
        refine z_aload_n (q := 134) C dX11_readOrders_133 0 rfl rfl rfl ?_
        refine z_getf (q := 137) C clX11 (zon C zo_14) kd_14 (k := 4) (by decide) q_1106 rfl (zfv_i kd_14 rfl) dX11_readOrders_134 rfl ?_
        have hF := Option.some.inj hF
        subst hF
        exact z_iret C e1 e2 dX11_readOrders_137
      · have hF := (if_pos c22).symm.trans hF
        refine z_aload_n (q := 122) C dX11_readOrders_121 0 rfl rfl rfl ?_
        obtain ⟨v24, h23, ev24, hF⟩ := z2_e hF
        refine z_callV (q := 125) (o := 14) (av := []) (rest := []) (stk2 := [.int (zi v24)]) C hR clX11 (zon C zo_14) kd_14 (M_fX11_look (zlv hd rfl) ev24) mY_X11_look q_1279 (Nat.le_of_ble_eq_true rfl) dX11_readOrders_122 rfl rfl rfl ?_
        refine z_iconst (q := 126) C dX11_readOrders_125 rfl ?_
        refine z_icmp_eq (tgt := 133) (q := 129) C dX11_readOrders_126 (by decide) rfl (fun c25 => ?_) (fun c25 => ?_)
        · have hF := (if_pos c25).symm.trans hF
          refine z_aload_n (q := 134) C dX11_readOrders_133 0 rfl rfl rfl ?_
          refine z_getf (q := 137) C clX11 (zon C zo_14) kd_14 (k := 4) (by decide) q_1106 rfl (zfv_i kd_14 rfl) dX11_readOrders_134 rfl ?_
          have hF := Option.some.inj hF
          subst hF
          exact z_iret C e1 e2 dX11_readOrders_137
        · have hF := (if_neg c25).symm.trans hF
          refine z_aload_n (q := 130) C dX11_readOrders_129 0 rfl rfl rfl ?_
          obtain ⟨h26, eh26, hF⟩ := zlet_e hF
          refine z_callV (q := 133) (o := 14) (av := []) (rest := []) (stk2 := []) C hR clX11 (zon C zo_14) kd_14 (M_fX11_bad (zlv hd rfl) eh26.symm) mY_X11_bad q_1310 (Nat.le_of_ble_eq_true rfl) dX11_readOrders_130 rfl rfl rfl ?_
          refine z_aload_n (q := 134) C dX11_readOrders_133 0 rfl rfl rfl ?_
          refine z_getf (q := 137) C clX11 (zon C zo_14) kd_14 (k := 4) (by decide) q_1106 rfl (zfv_i kd_14 rfl) dX11_readOrders_134 rfl ?_
          have hF := Option.some.inj hF
          subst hF
          exact z_iret C e1 e2 dX11_readOrders_137
    · have hF := (if_pos c7).symm.trans hF
      refine z_aload_n (q := 32) C dX11_readOrders_31 0 rfl rfl rfl ?_
      refine z_iconst (q := 33) C dX11_readOrders_32 rfl ?_
      refine z_bipush (q := 35) C dX11_readOrders_33 bp_16 rfl ?_
      refine z_iload_n (q := 36) C dX11_readOrders_35 1 rfl rfl rfl ?_
      refine z_imul (q := 37) C dX11_readOrders_36 rfl ?_
      refine z_aload_n (q := 38) C dX11_readOrders_37 0 rfl rfl rfl ?_
      refine z_getf (q := 41) C clX11 (zon C zo_14) kd_14 (k := 32) (by decide) q_1134 rfl (zfv_r kd_14 rfl fr_14_32) dX11_readOrders_38 rfl ?_
      refine z_iload_n (q := 42) C dX11_readOrders_41 1 rfl rfl rfl ?_
      obtain ⟨g8, hF⟩ := zif_none hF
      refine z_iald (q := 43) C (zon C zo_68) kd_68 g8.1 (by rw [ln_68]; exact g8.2) dX11_readOrders_42 rfl ?_
      refine z_iadd (q := 44) C dX11_readOrders_43 rfl ?_
      refine z_imul (q := 45) C dX11_readOrders_44 rfl ?_
      obtain ⟨h9, eh9, hF⟩ := zb_e hF
      refine z_callV (q := 48) (o := 14) (av := [.int (zi (3 * ((16 * l1) + (h 68 (zw l1).toNat))))]) (rest := []) (stk2 := []) C hR clX11 (zon C zo_14) kd_14 (M_fX11_stepText (zlv hd rfl) eh9) mY_X11_stepText q_1398 (Nat.le_of_ble_eq_true rfl) dX11_readOrders_45 rfl rfl rfl ?_
      refine z_aload_n (q := 49) C dX11_readOrders_48 0 rfl rfl rfl ?_
      refine z_getf (q := 52) C clX11 (zon C zo_14) kd_14 (k := 32) (by decide) q_1134 rfl (zfv_r kd_14 rfl fr_14_32) dX11_readOrders_49 rfl ?_
      refine z_iload_n (q := 53) C dX11_readOrders_52 1 rfl rfl rfl ?_
      refine z_dup2 (q := 54) C dX11_readOrders_53 rfl rfl rfl ?_
      obtain ⟨g10, hF⟩ := zif_none hF
      refine z_iald (q := 55) C (zon C zo_68) kd_68 g10.1 (by rw [ln_68]; exact g10.2) dX11_readOrders_54 rfl ?_
      refine z_iconst (q := 56) C dX11_readOrders_55 rfl ?_
      refine z_iadd (q := 57) C dX11_readOrders_56 rfl ?_
      obtain ⟨g11, hF⟩ := zif_none hF
      obtain ⟨h12, eh12, hF⟩ := zlet_e hF
      refine z_iast (q := 58) C (zon C zo_68) kd_68 g11.1 (by rw [ln_68]; exact g11.2) dX11_readOrders_57 rfl eh12 ?_
      refine z_aload_n (q := 59) C dX11_readOrders_58 0 rfl rfl rfl ?_
      refine z_getf (q := 62) C clX11 (zon C zo_14) kd_14 (k := 4) (by decide) q_1106 rfl (zfv_i kd_14 rfl) dX11_readOrders_59 rfl ?_
      refine z_iconst (q := 63) C dX11_readOrders_62 rfl ?_
      refine z_icmp_ne (tgt := 90) (q := 66) C dX11_readOrders_63 (by decide) rfl (fun c13 => ?_) (fun c13 => ?_)
      · have hF := (if_neg c13).symm.trans hF
        exact z_sub (J_fX11_readOrders_c90 C hR hd e1 e2 hK19 _ _ hF) [0, 1] rfl
      · have hF := (if_pos c13).symm.trans hF
        refine z_aload_n (q := 67) C dX11_readOrders_66 0 rfl rfl rfl ?_
        obtain ⟨v15, h14, ev15, hF⟩ := z2_e hF
        refine z_callV (q := 70) (o := 14) (av := []) (rest := []) (stk2 := [.int (zi v15)]) C hR clX11 (zon C zo_14) kd_14 (M_fX11_look (zlv hd rfl) ev15) mY_X11_look q_1279 (Nat.le_of_ble_eq_true rfl) dX11_readOrders_67 rfl rfl rfl ?_
        refine z_bipush (q := 72) C dX11_readOrders_70 bp_59 rfl ?_
        refine z_icmp_ne (tgt := 90) (q := 75) C dX11_readOrders_72 (by decide) rfl (fun c16 => ?_) (fun c16 => ?_)
        · have hF := (if_neg c16).symm.trans hF
          exact z_sub (J_fX11_readOrders_c90 C hR hd e1 e2 hK19 _ _ hF) [0, 1] rfl
        · have hF := (if_pos c16).symm.trans hF
          refine z_aload_n (q := 76) C dX11_readOrders_75 0 rfl rfl rfl ?_
          refine z_getf (q := 79) C clX11 (zon C zo_14) kd_14 (k := 32) (by decide) q_1134 rfl (zfv_r kd_14 rfl fr_14_32) dX11_readOrders_76 rfl ?_
          refine z_iload_n (q := 80) C dX11_readOrders_79 1 rfl rfl rfl ?_
          obtain ⟨g17, hF⟩ := zif_none hF
          refine z_iald (q := 81) C (zon C zo_68) kd_68 g17.1 (by rw [ln_68]; exact g17.2) dX11_readOrders_80 rfl ?_
          refine z_bipush (q := 83) C dX11_readOrders_81 bp_16 rfl ?_
          refine z_icmp_ge (tgt := 90) (q := 86) C dX11_readOrders_83 (by decide) rfl (fun c18 => ?_) (fun c18 => ?_)
          · have hF := (if_pos c18).symm.trans hF
            exact z_sub (J_fX11_readOrders_c90 C hR hd e1 e2 hK19 _ _ hF) [0, 1] rfl
          · have hF := (if_neg c18).symm.trans hF
            refine z_iconst (q := 87) C dX11_readOrders_86 rfl ?_
            refine z_goto (q := 91) C dX11_readOrders_87 (by decide) ?_
            refine z_istore_n (q := 92) C dX11_readOrders_91 (by decide) rfl rfl rfl ?_
            refine z_aload_n (q := 93) C dX11_readOrders_92 1 rfl rfl rfl ?_
            refine z_dup (q := 94) C dX11_readOrders_93 rfl rfl ?_
            refine z_getf (q := 97) C clX11 (zon C zo_14) kd_14 (k := 3) (by decide) q_1105 rfl (zfv_i kd_14 rfl) dX11_readOrders_94 rfl ?_
            refine z_iload_n (q := 98) C dX11_readOrders_97 0 rfl rfl rfl ?_
            refine z_if_eq (tgt := 105) (q := 101) C dX11_readOrders_98 (by decide) rfl (fun c19 => ?_) (fun c19 => ?_)
            · have hF := (if_pos c19).symm.trans hF
              refine z_iconst (q := 106) C dX11_readOrders_105 rfl ?_
              refine z_iadd (q := 107) C dX11_readOrders_106 rfl ?_
              obtain ⟨h20, eh20, hF⟩ := zlet_e hF
              refine z_putf (q := 110) C clX11 (zon C zo_14) kd_14 (k := 3) (x := (h14 14 3) + 0) (by decide) q_1105 rfl rfl rfl rfl (((zfv_i kd_14 rfl)).trans (by rw [if_pos rfl])) dX11_readOrders_107 rfl eh20 ?_
              refine z_goto (q := 19) C dX11_readOrders_110 (by decide) ?_
              exact z_sub (hK19 _ _ _ hF) [1, 2, 0] rfl
            · have hF := (if_neg c19).symm.trans hF
              refine z_iconst (q := 102) C dX11_readOrders_101 rfl ?_
              refine z_goto (q := 106) C dX11_readOrders_102 (by decide) ?_
              refine z_iadd (q := 107) C dX11_readOrders_106 rfl ?_
              obtain ⟨h21, eh21, hF⟩ := zlet_e hF
              refine z_putf (q := 110) C clX11 (zon C zo_14) kd_14 (k := 3) (x := (h14 14 3) + 1) (by decide) q_1105 rfl rfl rfl rfl (((zfv_i kd_14 rfl)).trans (by rw [if_pos rfl])) dX11_readOrders_107 rfl eh21 ?_
              refine z_goto (q := 19) C dX11_readOrders_110 (by decide) ?_
              exact z_sub (hK19 _ _ _ hF) [1, 2, 0] rfl
set_option maxRecDepth 20000 in
set_option maxHeartbeats 4000000 in
theorem J_fX11_readOrders_c19 {κ : zT} (C : zC κ RX11 cX11_readOrders 3 (some .int)) {d : Nat} (hR : zR κ = zrm (d + 1)) (hd : 5 ≤ d + 1) {N : Nat} {r : Int × zH} (e1 : zrv κ = some (.int (zi r.1))) (e2 : zhf κ = r.2) : ∀ (k : Nat) (l1 : Int) (l2 : Int) (h : zH), fX11_readOrders_c19 N k l1 l2 h = some r → Z κ h 19 [(0, .ref (zα κ 14)), (1, .int (zi l1)), (2, .int (zi l2))] [] := by
  intro k
  induction k with
  | zero => intro l1 l2 h hF; cases hF
  | succ k ih => intro l1 l2 h hF; exact J_fX11_readOrders_c19b C hR hd e1 e2 ih l1 l2 h hF
set_option maxRecDepth 20000 in
set_option maxHeartbeats 4000000 in
theorem J_fX11_readOrders {κ : zT} (C : zC κ RX11 cX11_readOrders 3 (some .int)) {d : Nat} (hR : zR κ = zrm (d + 1)) (hd : 5 ≤ d + 1) {N : Nat} {r : Int × zH} (e1 : zrv κ = some (.int (zi r.1))) (e2 : zhf κ = r.2) {a1 : Int} {h : zH} (hF : fX11_readOrders N a1 h = some r) : Z κ h 0 [(0, .ref (zα κ 14)), (1, .int (zi a1))] [] := by
  unfold fX11_readOrders at hF
  refine z_aload_n (q := 1) C dX11_readOrders_0 0 rfl rfl rfl ?_
  refine z_iconst (q := 2) C dX11_readOrders_1 rfl ?_
  obtain ⟨h1, eh1, hF⟩ := zlet_e hF
  refine z_putf (q := 5) C clX11 (zon C zo_14) kd_14 (k := 3) (x := 0) (by decide) q_1105 rfl rfl rfl rfl (((zfv_i kd_14 rfl)).trans (by rw [if_pos rfl])) dX11_readOrders_2 rfl eh1 ?_
  refine z_aload_n (q := 6) C dX11_readOrders_5 0 rfl rfl rfl ?_
  refine z_iconst (q := 7) C dX11_readOrders_6 rfl ?_
  obtain ⟨h2, eh2, hF⟩ := zlet_e hF
  refine z_putf (q := 10) C clX11 (zon C zo_14) kd_14 (k := 4) (x := (-1)) (by decide) q_1106 rfl rfl rfl rfl (((zfv_i kd_14 rfl)).trans (by rw [if_pos rfl])) dX11_readOrders_7 rfl eh2 ?_
  refine z_aload_n (q := 11) C dX11_readOrders_10 0 rfl rfl rfl ?_
  refine z_getf (q := 14) C clX11 (zon C zo_14) kd_14 (k := 32) (by decide) q_1134 rfl (zfv_r kd_14 rfl fr_14_32) dX11_readOrders_11 rfl ?_
  refine z_iload_n (q := 15) C dX11_readOrders_14 1 rfl rfl rfl ?_
  refine z_iconst (q := 16) C dX11_readOrders_15 rfl ?_
  obtain ⟨g3, hF⟩ := zif_none hF
  obtain ⟨h4, eh4, hF⟩ := zlet_e hF
  refine z_iast (q := 17) C (zon C zo_68) kd_68 g3.1 (by rw [ln_68]; exact g3.2) dX11_readOrders_16 rfl eh4 ?_
  refine z_iconst (q := 18) C dX11_readOrders_17 rfl ?_
  refine z_istore_n (q := 19) C dX11_readOrders_18 (by decide) rfl rfl rfl ?_
  exact z_sub (J_fX11_readOrders_c19 C hR hd e1 e2 N _ _ _ hF) [1, 2, 0] rfl
set_option maxRecDepth 20000 in
set_option maxHeartbeats 4000000 in
theorem M_fX11_readOrders {l : Launch} {D : va_G} {cy : ClassId} {α : Nat → Nat} {n : Nat} {σ : zSg} {d : Nat} (hd : 5 ≤ d) {N : Nat} {a1 : Int} {h : zH} {r : Int} {g : zH} (hF : fX11_readOrders N a1 h = some (r, g)) : zMet l yX11_readOrders cX11_readOrders 3 (some .int) (zrm d) D cy α n σ [.ref (α 14), .int (zi a1)] h (some (.int (zi r))) g := by
  obtain ⟨d, rfl⟩ : ∃ e, d = e + 1 := ⟨d - 1, by omega⟩
  refine z_met (by decide +kernel) (Nat.le_of_ble_eq_true rfl) (fun κ k1 k2 k3 k4 k5 k6 k7 k8 k9 C => ?_)
  subst k1 k3 k4 k5 k6 k7
  exact J_fX11_readOrders C k2 hd k8 k9 hF
set_option maxRecDepth 20000 in
set_option maxHeartbeats 4000000 in
theorem J_fX11_fault {κ : zT} (C : zC κ RX11 cX11_fault 2 (some .int)) {d : Nat} (hR : zR κ = zrm (d + 1)) (hd : 127 ≤ d + 1) {N : Nat} {r : Int × zH} (e1 : zrv κ = some (.int (zi r.1))) (e2 : zhf κ = r.2) {a1 : Int} {h : zH} (hF : fX11_fault N a1 h = some r) : Z κ h 0 [(0, .ref (zα κ 14)), (1, .int (zi a1))] [] := by
  unfold fX11_fault at hF
  refine z_iload_n (q := 1) C dX11_fault_0 1 rfl rfl rfl ?_
  refine z_if_ne (tgt := 11) (q := 4) C dX11_fault_1 (by decide) rfl (fun c1 => ?_) (fun c1 => ?_)
  · have hF := (if_neg c1).symm.trans hF
    refine z_iload_n (q := 12) C dX11_fault_11 1 rfl rfl rfl ?_
    refine z_iconst (q := 13) C dX11_fault_12 rfl ?_
    refine z_icmp_ne (tgt := 24) (q := 16) C dX11_fault_13 (by decide) rfl (fun c4 => ?_) (fun c4 => ?_)
    · have hF := (if_neg c4).symm.trans hF
      refine z_iload_n (q := 25) C dX11_fault_24 1 rfl rfl rfl ?_
      refine z_iconst (q := 26) C dX11_fault_25 rfl ?_
      refine z_icmp_ne (tgt := 37) (q := 29) C dX11_fault_26 (by decide) rfl (fun c7 => ?_) (fun c7 => ?_)
      · have hF := (if_neg c7).symm.trans hF
        refine z_bipush (q := 39) C dX11_fault_37 bp_m2 rfl ?_
        have hF := Option.some.inj hF
        subst hF
        exact z_iret C e1 e2 dX11_fault_39
      · have hF := (if_pos c7).symm.trans hF
        refine z_aload_n (q := 30) C dX11_fault_29 0 rfl rfl rfl ?_
        refine z_iconst (q := 31) C dX11_fault_30 rfl ?_
        obtain ⟨v9, h8, ev9, hF⟩ := z2_e hF
        refine z_callV (q := 34) (o := 14) (av := [.int (zi 4)]) (rest := []) (stk2 := [.int (zi v9)]) C hR clX11 (zon C zo_14) kd_14 (M_fX11_readOrders (zlv hd rfl) ev9) mY_X11_readOrders q_1394 (Nat.le_of_ble_eq_true rfl) dX11_fault_31 rfl rfl rfl ?_
        refine z_goto (q := 39) C dX11_fault_34 (by decide) ?_
        have hF := Option.some.inj hF
        subst hF
        exact z_iret C e1 e2 dX11_fault_39
    · have hF := (if_pos c4).symm.trans hF
      refine z_aload_n (q := 17) C dX11_fault_16 0 rfl rfl rfl ?_
      refine z_iconst (q := 18) C dX11_fault_17 rfl ?_
      obtain ⟨v6, h5, ev6, hF⟩ := z2_e hF
      refine z_callV (q := 21) (o := 14) (av := [.int (zi 4)]) (rest := []) (stk2 := [.int (zi v6)]) C hR clX11 (zon C zo_14) kd_14 (M_fX11_readLaw (zlv hd rfl) ev6) mY_X11_readLaw q_1324 (Nat.le_of_ble_eq_true rfl) dX11_fault_18 rfl rfl rfl ?_
      refine z_goto (q := 39) C dX11_fault_21 (by decide) ?_
      have hF := Option.some.inj hF
      subst hF
      exact z_iret C e1 e2 dX11_fault_39
  · have hF := (if_pos c1).symm.trans hF
    refine z_aload_n (q := 5) C dX11_fault_4 0 rfl rfl rfl ?_
    obtain ⟨v3, h2, ev3, hF⟩ := z2_e hF
    refine z_callV (q := 8) (o := 14) (av := []) (rest := []) (stk2 := [.int (zi v3)]) C hR clX11 (zon C zo_14) kd_14 (M_fX11_readHill (zlv hd rfl) ev3) mY_X11_readHill q_1272 (Nat.le_of_ble_eq_true rfl) dX11_fault_5 rfl rfl rfl ?_
    refine z_goto (q := 39) C dX11_fault_8 (by decide) ?_
    have hF := Option.some.inj hF
    subst hF
    exact z_iret C e1 e2 dX11_fault_39
set_option maxRecDepth 20000 in
set_option maxHeartbeats 4000000 in
theorem M_fX11_fault {l : Launch} {D : va_G} {cy : ClassId} {α : Nat → Nat} {n : Nat} {σ : zSg} {d : Nat} (hd : 127 ≤ d) {N : Nat} {a1 : Int} {h : zH} {r : Int} {g : zH} (hF : fX11_fault N a1 h = some (r, g)) : zMet l yX11_fault cX11_fault 2 (some .int) (zrm d) D cy α n σ [.ref (α 14), .int (zi a1)] h (some (.int (zi r))) g := by
  obtain ⟨d, rfl⟩ : ∃ e, d = e + 1 := ⟨d - 1, by omega⟩
  refine z_met (by decide +kernel) (Nat.le_of_ble_eq_true rfl) (fun κ k1 k2 k3 k4 k5 k6 k7 k8 k9 C => ?_)
  subst k1 k3 k4 k5 k6 k7
  exact J_fX11_fault C k2 hd k8 k9 hF
set_option maxRecDepth 20000 in
set_option maxHeartbeats 4000000 in
theorem J_fX11_put_ {κ : zT} (C : zC κ RX11 cX11_put_ 4 none) {d : Nat} (hR : zR κ = zrm (d + 1)) (hd : 1 ≤ d + 1) {r : zH} (e1 : zrv κ = none) (e2 : zhf κ = r) {a1 : Int} {a2 : Int} {a3 : Int} {h : zH} (hF : fX11_put_ a1 a2 a3 h = some r) : Z κ h 0 [(0, .ref (zα κ 14)), (1, .int (zi a1)), (2, .int (zi a2)), (3, .int (zi a3))] [] := by
  unfold fX11_put_ at hF
  refine z_aload_n (q := 1) C dX11_put__0 0 rfl rfl rfl ?_
  refine z_getf (q := 4) C clX11 (zon C zo_14) kd_14 (k := 34) (by decide) q_1136 rfl (zfv_r kd_14 rfl fr_14_34) dX11_put__1 rfl ?_
  refine z_bipush (q := 6) C dX11_put__4 bp_7 rfl ?_
  refine z_iload_n (q := 7) C dX11_put__6 1 rfl rfl rfl ?_
  refine z_imul (q := 8) C dX11_put__7 rfl ?_
  refine z_iload_n (q := 9) C dX11_put__8 2 rfl rfl rfl ?_
  refine z_iadd (q := 10) C dX11_put__9 rfl ?_
  refine z_iload_n (q := 11) C dX11_put__10 3 rfl rfl rfl ?_
  obtain ⟨g1, hF⟩ := zif_none hF
  obtain ⟨h2, eh2, hF⟩ := zlet_e hF
  refine z_iast (q := 12) C (zon C zo_69) kd_69 g1.1 (by rw [ln_69]; exact g1.2) dX11_put__11 rfl eh2 ?_
  have hF := Option.some.inj hF
  subst hF
  exact z_vret C e1 e2 dX11_put__12
set_option maxRecDepth 20000 in
set_option maxHeartbeats 4000000 in
theorem M_fX11_put_ {l : Launch} {D : va_G} {cy : ClassId} {α : Nat → Nat} {n : Nat} {σ : zSg} {d : Nat} (hd : 1 ≤ d) {a1 : Int} {a2 : Int} {a3 : Int} {h : zH} {g : zH} (hF : fX11_put_ a1 a2 a3 h = some g) : zMet l yX11_put_ cX11_put_ 4 none (zrm d) D cy α n σ [.ref (α 14), .int (zi a1), .int (zi a2), .int (zi a3)] h (none) g := by
  obtain ⟨d, rfl⟩ : ∃ e, d = e + 1 := ⟨d - 1, by omega⟩
  refine z_met (by decide +kernel) (Nat.le_of_ble_eq_true rfl) (fun κ k1 k2 k3 k4 k5 k6 k7 k8 k9 C => ?_)
  subst k1 k3 k4 k5 k6 k7
  exact J_fX11_put_ C k2 hd k8 k9 hF
set_option maxRecDepth 20000 in
set_option maxHeartbeats 4000000 in
theorem J_fX11_takeHill_c151b {κ : zT} (C : zC κ RX11 cX11_takeHill 2 (some .int)) {d : Nat} (hR : zR κ = zrm (d + 1)) (hd : 2 ≤ d + 1) {N : Nat} {r : Int × zH} (e1 : zrv κ = some (.int (zi r.1))) (e2 : zhf κ = r.2) {K151 : Int → zH → Option (Int × zH)} (hK151 : ∀ (l1 : Int) (h : zH), K151 l1 h = some r → Z κ h 151 [(0, .ref (zα κ 14)), (1, .int (zi l1))] []) (l1 : Int) (h : zH) (hF : fX11_takeHill_c151b N K151 l1 h = some r) : Z κ h 151 [(0, .ref (zα κ 14)), (1, .int (zi l1))] [] := by
  unfold fX11_takeHill_c151b at hF
  refine z_iload_n (q := 152) C dX11_takeHill_151 1 rfl rfl rfl ?_
  refine z_aload_n (q := 153) C dX11_takeHill_152 0 rfl rfl rfl ?_
  refine z_getf (q := 156) C clX11 (zon C zo_14) kd_14 (k := 28) (by decide) q_1130 rfl (zfv_i kd_14 rfl) dX11_takeHill_153 rfl ?_
  refine z_icmp_ge (tgt := 172) (q := 159) C dX11_takeHill_156 (by decide) rfl (fun c1 => ?_) (fun c1 => ?_)
  · have hF := (if_pos c1).symm.trans hF
    refine z_aload_n (q := 173) C dX11_takeHill_172 0 rfl rfl rfl ?_
    refine z_iconst (q := 174) C dX11_takeHill_173 rfl ?_
    obtain ⟨h2, eh2, hF⟩ := zlet_e hF
    refine z_putf (q := 177) C clX11 (zon C zo_14) kd_14 (k := 46) (x := 0) (by decide) q_1148 rfl rfl rfl rfl (((zfv_i kd_14 rfl)).trans (by rw [if_pos rfl])) dX11_takeHill_174 rfl eh2 ?_
    refine z_aload_n (q := 178) C dX11_takeHill_177 0 rfl rfl rfl ?_
    refine z_iconst (q := 179) C dX11_takeHill_178 rfl ?_
    obtain ⟨h3, eh3, hF⟩ := zlet_e hF
    refine z_putf (q := 182) C clX11 (zon C zo_14) kd_14 (k := 38) (x := 0) (by decide) q_1140 rfl rfl rfl rfl (((zfv_i kd_14 rfl)).trans (by rw [if_pos rfl])) dX11_takeHill_179 rfl eh3 ?_
    refine z_aload_n (q := 183) C dX11_takeHill_182 0 rfl rfl rfl ?_
    refine z_iconst (q := 184) C dX11_takeHill_183 rfl ?_
    obtain ⟨h4, eh4, hF⟩ := zlet_e hF
    refine z_putf (q := 187) C clX11 (zon C zo_14) kd_14 (k := 49) (x := 0) (by decide) q_1151 rfl rfl (zbn (Or.inl rfl)) (zbf (Or.inl rfl)) (((zfv_i kd_14 rfl)).trans (by rw [if_pos rfl])) dX11_takeHill_184 rfl eh4 ?_
    refine z_aload_n (q := 188) C dX11_takeHill_187 0 rfl rfl rfl ?_
    refine z_getf (q := 191) C clX11 (zon C zo_14) kd_14 (k := 28) (by decide) q_1130 rfl (zfv_i kd_14 rfl) dX11_takeHill_188 rfl ?_
    have hF := Option.some.inj hF
    subst hF
    exact z_iret C e1 e2 dX11_takeHill_191
  · have hF := (if_neg c1).symm.trans hF
    refine z_aload_n (q := 160) C dX11_takeHill_159 0 rfl rfl rfl ?_
    refine z_iload_n (q := 161) C dX11_takeHill_160 1 rfl rfl rfl ?_
    refine z_iconst (q := 162) C dX11_takeHill_161 rfl ?_
    refine z_iconst (q := 163) C dX11_takeHill_162 rfl ?_
    obtain ⟨h5, eh5, hF⟩ := zb_e hF
    refine z_callV (q := 166) (o := 14) (av := [.int (zi l1), .int (zi 1), .int (zi (-1))]) (rest := []) (stk2 := []) C hR clX11 (zon C zo_14) kd_14 (M_fX11_put_ (zlv hd rfl) eh5) mY_X11_put_ q_1414 (Nat.le_of_ble_eq_true rfl) dX11_takeHill_163 rfl rfl rfl ?_
    refine z_iinc (q := 169) (x := l1) C dX11_takeHill_166 (j := 1) rfl (by decide) rfl rfl ?_
    refine z_goto (q := 151) C dX11_takeHill_169 (by decide) ?_
    exact z_sub (hK151 _ _ hF) [1, 0] rfl
set_option maxRecDepth 20000 in
set_option maxHeartbeats 4000000 in
theorem J_fX11_takeHill_c151 {κ : zT} (C : zC κ RX11 cX11_takeHill 2 (some .int)) {d : Nat} (hR : zR κ = zrm (d + 1)) (hd : 2 ≤ d + 1) {N : Nat} {r : Int × zH} (e1 : zrv κ = some (.int (zi r.1))) (e2 : zhf κ = r.2) : ∀ (k : Nat) (l1 : Int) (h : zH), fX11_takeHill_c151 N k l1 h = some r → Z κ h 151 [(0, .ref (zα κ 14)), (1, .int (zi l1))] [] := by
  intro k
  induction k with
  | zero => intro l1 h hF; cases hF
  | succ k ih => intro l1 h hF; exact J_fX11_takeHill_c151b C hR hd e1 e2 ih l1 h hF
set_option maxRecDepth 20000 in
set_option maxHeartbeats 4000000 in
theorem J_fX11_takeHill_c129b {κ : zT} (C : zC κ RX11 cX11_takeHill 2 (some .int)) {d : Nat} (hR : zR κ = zrm (d + 1)) (hd : 2 ≤ d + 1) {N : Nat} {r : Int × zH} (e1 : zrv κ = some (.int (zi r.1))) (e2 : zhf κ = r.2) {K129 : Int → zH → Option (Int × zH)} (hK129 : ∀ (l1 : Int) (h : zH), K129 l1 h = some r → Z κ h 129 [(0, .ref (zα κ 14)), (1, .int (zi l1))] []) (l1 : Int) (h : zH) (hF : fX11_takeHill_c129b N K129 l1 h = some r) : Z κ h 129 [(0, .ref (zα κ 14)), (1, .int (zi l1))] [] := by
  unfold fX11_takeHill_c129b at hF
  refine z_iload_n (q := 130) C dX11_takeHill_129 1 rfl rfl rfl ?_
  refine z_sipush (q := 133) C dX11_takeHill_130 sp_165 rfl ?_
  refine z_icmp_ge (tgt := 149) (q := 136) C dX11_takeHill_133 (by decide) rfl (fun c1 => ?_) (fun c1 => ?_)
  · have hF := (if_pos c1).symm.trans hF
    refine z_iconst (q := 150) C dX11_takeHill_149 rfl ?_
    refine z_istore_n (q := 151) C dX11_takeHill_150 (by decide) rfl rfl rfl ?_
    exact z_sub (J_fX11_takeHill_c151 C hR hd e1 e2 N _ _ hF) [1, 0] rfl
  · have hF := (if_neg c1).symm.trans hF
    refine z_aload_n (q := 137) C dX11_takeHill_136 0 rfl rfl rfl ?_
    refine z_getf (q := 140) C clX11 (zon C zo_14) kd_14 (k := 34) (by decide) q_1136 rfl (zfv_r kd_14 rfl fr_14_34) dX11_takeHill_137 rfl ?_
    refine z_iload_n (q := 141) C dX11_takeHill_140 1 rfl rfl rfl ?_
    refine z_iconst (q := 142) C dX11_takeHill_141 rfl ?_
    obtain ⟨g2, hF⟩ := zif_none hF
    obtain ⟨h3, eh3, hF⟩ := zlet_e hF
    refine z_iast (q := 143) C (zon C zo_69) kd_69 g2.1 (by rw [ln_69]; exact g2.2) dX11_takeHill_142 rfl eh3 ?_
    refine z_iinc (q := 146) (x := l1) C dX11_takeHill_143 (j := 1) rfl (by decide) rfl rfl ?_
    refine z_goto (q := 129) C dX11_takeHill_146 (by decide) ?_
    exact z_sub (hK129 _ _ hF) [1, 0] rfl
set_option maxRecDepth 20000 in
set_option maxHeartbeats 4000000 in
theorem J_fX11_takeHill_c129 {κ : zT} (C : zC κ RX11 cX11_takeHill 2 (some .int)) {d : Nat} (hR : zR κ = zrm (d + 1)) (hd : 2 ≤ d + 1) {N : Nat} {r : Int × zH} (e1 : zrv κ = some (.int (zi r.1))) (e2 : zhf κ = r.2) : ∀ (k : Nat) (l1 : Int) (h : zH), fX11_takeHill_c129 N k l1 h = some r → Z κ h 129 [(0, .ref (zα κ 14)), (1, .int (zi l1))] [] := by
  intro k
  induction k with
  | zero => intro l1 h hF; cases hF
  | succ k ih => intro l1 h hF; exact J_fX11_takeHill_c129b C hR hd e1 e2 ih l1 h hF
set_option maxRecDepth 20000 in
set_option maxHeartbeats 4000000 in
theorem J_fX11_takeHill_c103b {κ : zT} (C : zC κ RX11 cX11_takeHill 2 (some .int)) {d : Nat} (hR : zR κ = zrm (d + 1)) (hd : 2 ≤ d + 1) {N : Nat} {r : Int × zH} (e1 : zrv κ = some (.int (zi r.1))) (e2 : zhf κ = r.2) {K103 : Int → zH → Option (Int × zH)} (hK103 : ∀ (l1 : Int) (h : zH), K103 l1 h = some r → Z κ h 103 [(0, .ref (zα κ 14)), (1, .int (zi l1))] []) (l1 : Int) (h : zH) (hF : fX11_takeHill_c103b N K103 l1 h = some r) : Z κ h 103 [(0, .ref (zα κ 14)), (1, .int (zi l1))] [] := by
  unfold fX11_takeHill_c103b at hF
  refine z_iload_n (q := 104) C dX11_takeHill_103 1 rfl rfl rfl ?_
  refine z_bipush (q := 106) C dX11_takeHill_104 bp_24 rfl ?_
  refine z_icmp_ge (tgt := 127) (q := 109) C dX11_takeHill_106 (by decide) rfl (fun c1 => ?_) (fun c1 => ?_)
  · have hF := (if_pos c1).symm.trans hF
    refine z_iconst (q := 128) C dX11_takeHill_127 rfl ?_
    refine z_istore_n (q := 129) C dX11_takeHill_128 (by decide) rfl rfl rfl ?_
    exact z_sub (J_fX11_takeHill_c129 C hR hd e1 e2 N _ _ hF) [1, 0] rfl
  · have hF := (if_neg c1).symm.trans hF
    refine z_aload_n (q := 110) C dX11_takeHill_109 0 rfl rfl rfl ?_
    refine z_getf (q := 113) C clX11 (zon C zo_14) kd_14 (k := 27) (by decide) q_1129 rfl (zfv_r kd_14 rfl fr_14_27) dX11_takeHill_110 rfl ?_
    refine z_iload_n (q := 114) C dX11_takeHill_113 1 rfl rfl rfl ?_
    refine z_aload_n (q := 115) C dX11_takeHill_114 0 rfl rfl rfl ?_
    refine z_getf (q := 118) C clX11 (zon C zo_14) kd_14 (k := 20) (by decide) q_1122 rfl (zfv_r kd_14 rfl fr_14_20) dX11_takeHill_115 rfl ?_
    refine z_iload_n (q := 119) C dX11_takeHill_118 1 rfl rfl rfl ?_
    obtain ⟨g2, hF⟩ := zif_none hF
    refine z_iald (q := 120) C (zon C zo_62) kd_62 g2.1 (by rw [ln_62]; exact g2.2) dX11_takeHill_119 rfl ?_
    obtain ⟨g3, hF⟩ := zif_none hF
    obtain ⟨h4, eh4, hF⟩ := zlet_e hF
    refine z_iast (q := 121) C (zon C zo_66) kd_66 g3.1 (by rw [ln_66]; exact g3.2) dX11_takeHill_120 rfl eh4 ?_
    refine z_iinc (q := 124) (x := l1) C dX11_takeHill_121 (j := 1) rfl (by decide) rfl rfl ?_
    refine z_goto (q := 103) C dX11_takeHill_124 (by decide) ?_
    exact z_sub (hK103 _ _ hF) [1, 0] rfl
set_option maxRecDepth 20000 in
set_option maxHeartbeats 4000000 in
theorem J_fX11_takeHill_c103 {κ : zT} (C : zC κ RX11 cX11_takeHill 2 (some .int)) {d : Nat} (hR : zR κ = zrm (d + 1)) (hd : 2 ≤ d + 1) {N : Nat} {r : Int × zH} (e1 : zrv κ = some (.int (zi r.1))) (e2 : zhf κ = r.2) : ∀ (k : Nat) (l1 : Int) (h : zH), fX11_takeHill_c103 N k l1 h = some r → Z κ h 103 [(0, .ref (zα κ 14)), (1, .int (zi l1))] [] := by
  intro k
  induction k with
  | zero => intro l1 h hF; cases hF
  | succ k ih => intro l1 h hF; exact J_fX11_takeHill_c103b C hR hd e1 e2 ih l1 h hF
set_option maxRecDepth 20000 in
set_option maxHeartbeats 4000000 in
theorem J_fX11_takeHill_c77b {κ : zT} (C : zC κ RX11 cX11_takeHill 2 (some .int)) {d : Nat} (hR : zR κ = zrm (d + 1)) (hd : 2 ≤ d + 1) {N : Nat} {r : Int × zH} (e1 : zrv κ = some (.int (zi r.1))) (e2 : zhf κ = r.2) {K77 : Int → zH → Option (Int × zH)} (hK77 : ∀ (l1 : Int) (h : zH), K77 l1 h = some r → Z κ h 77 [(0, .ref (zα κ 14)), (1, .int (zi l1))] []) (l1 : Int) (h : zH) (hF : fX11_takeHill_c77b N K77 l1 h = some r) : Z κ h 77 [(0, .ref (zα κ 14)), (1, .int (zi l1))] [] := by
  unfold fX11_takeHill_c77b at hF
  refine z_iload_n (q := 78) C dX11_takeHill_77 1 rfl rfl rfl ?_
  refine z_bipush (q := 80) C dX11_takeHill_78 bp_16 rfl ?_
  refine z_icmp_ge (tgt := 101) (q := 83) C dX11_takeHill_80 (by decide) rfl (fun c1 => ?_) (fun c1 => ?_)
  · have hF := (if_pos c1).symm.trans hF
    refine z_iconst (q := 102) C dX11_takeHill_101 rfl ?_
    refine z_istore_n (q := 103) C dX11_takeHill_102 (by decide) rfl rfl rfl ?_
    exact z_sub (J_fX11_takeHill_c103 C hR hd e1 e2 N _ _ hF) [1, 0] rfl
  · have hF := (if_neg c1).symm.trans hF
    refine z_aload_n (q := 84) C dX11_takeHill_83 0 rfl rfl rfl ?_
    refine z_getf (q := 87) C clX11 (zon C zo_14) kd_14 (k := 26) (by decide) q_1128 rfl (zfv_r kd_14 rfl fr_14_26) dX11_takeHill_84 rfl ?_
    refine z_iload_n (q := 88) C dX11_takeHill_87 1 rfl rfl rfl ?_
    refine z_aload_n (q := 89) C dX11_takeHill_88 0 rfl rfl rfl ?_
    refine z_getf (q := 92) C clX11 (zon C zo_14) kd_14 (k := 19) (by decide) q_1121 rfl (zfv_r kd_14 rfl fr_14_19) dX11_takeHill_89 rfl ?_
    refine z_iload_n (q := 93) C dX11_takeHill_92 1 rfl rfl rfl ?_
    obtain ⟨g2, hF⟩ := zif_none hF
    refine z_iald (q := 94) C (zon C zo_61) kd_61 g2.1 (by rw [ln_61]; exact g2.2) dX11_takeHill_93 rfl ?_
    obtain ⟨g3, hF⟩ := zif_none hF
    obtain ⟨h4, eh4, hF⟩ := zlet_e hF
    refine z_iast (q := 95) C (zon C zo_65) kd_65 g3.1 (by rw [ln_65]; exact g3.2) dX11_takeHill_94 rfl eh4 ?_
    refine z_iinc (q := 98) (x := l1) C dX11_takeHill_95 (j := 1) rfl (by decide) rfl rfl ?_
    refine z_goto (q := 77) C dX11_takeHill_98 (by decide) ?_
    exact z_sub (hK77 _ _ hF) [1, 0] rfl
set_option maxRecDepth 20000 in
set_option maxHeartbeats 4000000 in
theorem J_fX11_takeHill_c77 {κ : zT} (C : zC κ RX11 cX11_takeHill 2 (some .int)) {d : Nat} (hR : zR κ = zrm (d + 1)) (hd : 2 ≤ d + 1) {N : Nat} {r : Int × zH} (e1 : zrv κ = some (.int (zi r.1))) (e2 : zhf κ = r.2) : ∀ (k : Nat) (l1 : Int) (h : zH), fX11_takeHill_c77 N k l1 h = some r → Z κ h 77 [(0, .ref (zα κ 14)), (1, .int (zi l1))] [] := by
  intro k
  induction k with
  | zero => intro l1 h hF; cases hF
  | succ k ih => intro l1 h hF; exact J_fX11_takeHill_c77b C hR hd e1 e2 ih l1 h hF
set_option maxRecDepth 20000 in
set_option maxHeartbeats 4000000 in
theorem J_fX11_takeHill_c51b {κ : zT} (C : zC κ RX11 cX11_takeHill 2 (some .int)) {d : Nat} (hR : zR κ = zrm (d + 1)) (hd : 2 ≤ d + 1) {N : Nat} {r : Int × zH} (e1 : zrv κ = some (.int (zi r.1))) (e2 : zhf κ = r.2) {K51 : Int → zH → Option (Int × zH)} (hK51 : ∀ (l1 : Int) (h : zH), K51 l1 h = some r → Z κ h 51 [(0, .ref (zα κ 14)), (1, .int (zi l1))] []) (l1 : Int) (h : zH) (hF : fX11_takeHill_c51b N K51 l1 h = some r) : Z κ h 51 [(0, .ref (zα κ 14)), (1, .int (zi l1))] [] := by
  unfold fX11_takeHill_c51b at hF
  refine z_iload_n (q := 52) C dX11_takeHill_51 1 rfl rfl rfl ?_
  refine z_bipush (q := 54) C dX11_takeHill_52 bp_18 rfl ?_
  refine z_icmp_ge (tgt := 75) (q := 57) C dX11_takeHill_54 (by decide) rfl (fun c1 => ?_) (fun c1 => ?_)
  · have hF := (if_pos c1).symm.trans hF
    refine z_iconst (q := 76) C dX11_takeHill_75 rfl ?_
    refine z_istore_n (q := 77) C dX11_takeHill_76 (by decide) rfl rfl rfl ?_
    exact z_sub (J_fX11_takeHill_c77 C hR hd e1 e2 N _ _ hF) [1, 0] rfl
  · have hF := (if_neg c1).symm.trans hF
    refine z_aload_n (q := 58) C dX11_takeHill_57 0 rfl rfl rfl ?_
    refine z_getf (q := 61) C clX11 (zon C zo_14) kd_14 (k := 25) (by decide) q_1127 rfl (zfv_r kd_14 rfl fr_14_25) dX11_takeHill_58 rfl ?_
    refine z_iload_n (q := 62) C dX11_takeHill_61 1 rfl rfl rfl ?_
    refine z_aload_n (q := 63) C dX11_takeHill_62 0 rfl rfl rfl ?_
    refine z_getf (q := 66) C clX11 (zon C zo_14) kd_14 (k := 18) (by decide) q_1120 rfl (zfv_r kd_14 rfl fr_14_18) dX11_takeHill_63 rfl ?_
    refine z_iload_n (q := 67) C dX11_takeHill_66 1 rfl rfl rfl ?_
    obtain ⟨g2, hF⟩ := zif_none hF
    refine z_iald (q := 68) C (zon C zo_60) kd_60 g2.1 (by rw [ln_60]; exact g2.2) dX11_takeHill_67 rfl ?_
    obtain ⟨g3, hF⟩ := zif_none hF
    obtain ⟨h4, eh4, hF⟩ := zlet_e hF
    refine z_iast (q := 69) C (zon C zo_64) kd_64 g3.1 (by rw [ln_64]; exact g3.2) dX11_takeHill_68 rfl eh4 ?_
    refine z_iinc (q := 72) (x := l1) C dX11_takeHill_69 (j := 1) rfl (by decide) rfl rfl ?_
    refine z_goto (q := 51) C dX11_takeHill_72 (by decide) ?_
    exact z_sub (hK51 _ _ hF) [1, 0] rfl
set_option maxRecDepth 20000 in
set_option maxHeartbeats 4000000 in
theorem J_fX11_takeHill_c51 {κ : zT} (C : zC κ RX11 cX11_takeHill 2 (some .int)) {d : Nat} (hR : zR κ = zrm (d + 1)) (hd : 2 ≤ d + 1) {N : Nat} {r : Int × zH} (e1 : zrv κ = some (.int (zi r.1))) (e2 : zhf κ = r.2) : ∀ (k : Nat) (l1 : Int) (h : zH), fX11_takeHill_c51 N k l1 h = some r → Z κ h 51 [(0, .ref (zα κ 14)), (1, .int (zi l1))] [] := by
  intro k
  induction k with
  | zero => intro l1 h hF; cases hF
  | succ k ih => intro l1 h hF; exact J_fX11_takeHill_c51b C hR hd e1 e2 ih l1 h hF
set_option maxRecDepth 20000 in
set_option maxHeartbeats 4000000 in
theorem J_fX11_takeHill_c26b {κ : zT} (C : zC κ RX11 cX11_takeHill 2 (some .int)) {d : Nat} (hR : zR κ = zrm (d + 1)) (hd : 2 ≤ d + 1) {N : Nat} {r : Int × zH} (e1 : zrv κ = some (.int (zi r.1))) (e2 : zhf κ = r.2) {K26 : Int → zH → Option (Int × zH)} (hK26 : ∀ (l1 : Int) (h : zH), K26 l1 h = some r → Z κ h 26 [(0, .ref (zα κ 14)), (1, .int (zi l1))] []) (l1 : Int) (h : zH) (hF : fX11_takeHill_c26b N K26 l1 h = some r) : Z κ h 26 [(0, .ref (zα κ 14)), (1, .int (zi l1))] [] := by
  unfold fX11_takeHill_c26b at hF
  refine z_iload_n (q := 27) C dX11_takeHill_26 1 rfl rfl rfl ?_
  refine z_iconst (q := 28) C dX11_takeHill_27 rfl ?_
  refine z_icmp_ge (tgt := 49) (q := 31) C dX11_takeHill_28 (by decide) rfl (fun c1 => ?_) (fun c1 => ?_)
  · have hF := (if_pos c1).symm.trans hF
    refine z_iconst (q := 50) C dX11_takeHill_49 rfl ?_
    refine z_istore_n (q := 51) C dX11_takeHill_50 (by decide) rfl rfl rfl ?_
    exact z_sub (J_fX11_takeHill_c51 C hR hd e1 e2 N _ _ hF) [1, 0] rfl
  · have hF := (if_neg c1).symm.trans hF
    refine z_aload_n (q := 32) C dX11_takeHill_31 0 rfl rfl rfl ?_
    refine z_getf (q := 35) C clX11 (zon C zo_14) kd_14 (k := 24) (by decide) q_1126 rfl (zfv_r kd_14 rfl fr_14_24) dX11_takeHill_32 rfl ?_
    refine z_iload_n (q := 36) C dX11_takeHill_35 1 rfl rfl rfl ?_
    refine z_aload_n (q := 37) C dX11_takeHill_36 0 rfl rfl rfl ?_
    refine z_getf (q := 40) C clX11 (zon C zo_14) kd_14 (k := 17) (by decide) q_1119 rfl (zfv_r kd_14 rfl fr_14_17) dX11_takeHill_37 rfl ?_
    refine z_iload_n (q := 41) C dX11_takeHill_40 1 rfl rfl rfl ?_
    obtain ⟨g2, hF⟩ := zif_none hF
    refine z_iald (q := 42) C (zon C zo_59) kd_59 g2.1 (by rw [ln_59]; exact g2.2) dX11_takeHill_41 rfl ?_
    obtain ⟨g3, hF⟩ := zif_none hF
    obtain ⟨h4, eh4, hF⟩ := zlet_e hF
    refine z_iast (q := 43) C (zon C zo_63) kd_63 g3.1 (by rw [ln_63]; exact g3.2) dX11_takeHill_42 rfl eh4 ?_
    refine z_iinc (q := 46) (x := l1) C dX11_takeHill_43 (j := 1) rfl (by decide) rfl rfl ?_
    refine z_goto (q := 26) C dX11_takeHill_46 (by decide) ?_
    exact z_sub (hK26 _ _ hF) [1, 0] rfl
set_option maxRecDepth 20000 in
set_option maxHeartbeats 4000000 in
theorem J_fX11_takeHill_c26 {κ : zT} (C : zC κ RX11 cX11_takeHill 2 (some .int)) {d : Nat} (hR : zR κ = zrm (d + 1)) (hd : 2 ≤ d + 1) {N : Nat} {r : Int × zH} (e1 : zrv κ = some (.int (zi r.1))) (e2 : zhf κ = r.2) : ∀ (k : Nat) (l1 : Int) (h : zH), fX11_takeHill_c26 N k l1 h = some r → Z κ h 26 [(0, .ref (zα κ 14)), (1, .int (zi l1))] [] := by
  intro k
  induction k with
  | zero => intro l1 h hF; cases hF
  | succ k ih => intro l1 h hF; exact J_fX11_takeHill_c26b C hR hd e1 e2 ih l1 h hF
set_option maxRecDepth 20000 in
set_option maxHeartbeats 4000000 in
theorem J_fX11_takeHill {κ : zT} (C : zC κ RX11 cX11_takeHill 2 (some .int)) {d : Nat} (hR : zR κ = zrm (d + 1)) (hd : 2 ≤ d + 1) {N : Nat} {r : Int × zH} (e1 : zrv κ = some (.int (zi r.1))) (e2 : zhf κ = r.2) {h : zH} (hF : fX11_takeHill N h = some r) : Z κ h 0 [(0, .ref (zα κ 14))] [] := by
  unfold fX11_takeHill at hF
  refine z_aload_n (q := 1) C dX11_takeHill_0 0 rfl rfl rfl ?_
  refine z_aload_n (q := 2) C dX11_takeHill_1 0 rfl rfl rfl ?_
  refine z_getf (q := 5) C clX11 (zon C zo_14) kd_14 (k := 21) (by decide) q_1123 rfl (zfv_i kd_14 rfl) dX11_takeHill_2 rfl ?_
  obtain ⟨h1, eh1, hF⟩ := zlet_e hF
  refine z_putf (q := 8) C clX11 (zon C zo_14) kd_14 (k := 28) (x := h 14 21) (by decide) q_1130 rfl rfl rfl rfl (((zfv_i kd_14 rfl)).trans (by rw [if_pos rfl])) dX11_takeHill_5 rfl eh1 ?_
  refine z_aload_n (q := 9) C dX11_takeHill_8 0 rfl rfl rfl ?_
  refine z_aload_n (q := 10) C dX11_takeHill_9 0 rfl rfl rfl ?_
  refine z_getf (q := 13) C clX11 (zon C zo_14) kd_14 (k := 22) (by decide) q_1124 rfl (zfv_i kd_14 rfl) dX11_takeHill_10 rfl ?_
  obtain ⟨h2, eh2, hF⟩ := zlet_e hF
  refine z_putf (q := 16) C clX11 (zon C zo_14) kd_14 (k := 29) (x := h1 14 22) (by decide) q_1131 rfl rfl rfl rfl (((zfv_i kd_14 rfl)).trans (by rw [if_pos rfl])) dX11_takeHill_13 rfl eh2 ?_
  refine z_aload_n (q := 17) C dX11_takeHill_16 0 rfl rfl rfl ?_
  refine z_aload_n (q := 18) C dX11_takeHill_17 0 rfl rfl rfl ?_
  refine z_getf (q := 21) C clX11 (zon C zo_14) kd_14 (k := 23) (by decide) q_1125 rfl (zfv_i kd_14 rfl) dX11_takeHill_18 rfl ?_
  obtain ⟨h3, eh3, hF⟩ := zlet_e hF
  refine z_putf (q := 24) C clX11 (zon C zo_14) kd_14 (k := 30) (x := h2 14 23) (by decide) q_1132 rfl rfl rfl rfl (((zfv_i kd_14 rfl)).trans (by rw [if_pos rfl])) dX11_takeHill_21 rfl eh3 ?_
  refine z_iconst (q := 25) C dX11_takeHill_24 rfl ?_
  refine z_istore_n (q := 26) C dX11_takeHill_25 (by decide) rfl rfl rfl ?_
  exact z_sub (J_fX11_takeHill_c26 C hR hd e1 e2 N _ _ hF) [1, 0] rfl
set_option maxRecDepth 20000 in
set_option maxHeartbeats 4000000 in
theorem M_fX11_takeHill {l : Launch} {D : va_G} {cy : ClassId} {α : Nat → Nat} {n : Nat} {σ : zSg} {d : Nat} (hd : 2 ≤ d) {N : Nat} {h : zH} {r : Int} {g : zH} (hF : fX11_takeHill N h = some (r, g)) : zMet l yX11_takeHill cX11_takeHill 2 (some .int) (zrm d) D cy α n σ [.ref (α 14)] h (some (.int (zi r))) g := by
  obtain ⟨d, rfl⟩ : ∃ e, d = e + 1 := ⟨d - 1, by omega⟩
  refine z_met (by decide +kernel) (Nat.le_of_ble_eq_true rfl) (fun κ k1 k2 k3 k4 k5 k6 k7 k8 k9 C => ?_)
  subst k1 k3 k4 k5 k6 k7
  exact J_fX11_takeHill C k2 hd k8 k9 hF
set_option maxRecDepth 20000 in
set_option maxHeartbeats 4000000 in
theorem J_fX11_text_c69 {κ : zT} (C : zC κ RX11 cX11_text 2 (some .int)) {d : Nat} (hR : zR κ = zrm (d + 1)) (hd : 127 ≤ d + 1) {N : Nat} {r : Int × zH} (e1 : zrv κ = some (.int (zi r.1))) (e2 : zhf κ = r.2) (l1 : Int) (h : zH) (hF : fX11_text_c69 N l1 h = some r) : Z κ h 69 [(0, .ref (zα κ 14)), (1, .int (zi l1))] [] := by
  unfold fX11_text_c69 at hF
  refine z_iload_n (q := 70) C dX11_text_69 1 rfl rfl rfl ?_
  refine z_iconst (q := 71) C dX11_text_70 rfl ?_
  refine z_icmp_ne (tgt := 116) (q := 74) C dX11_text_71 (by decide) rfl (fun c1 => ?_) (fun c1 => ?_)
  · have hF := (if_neg c1).symm.trans hF
    refine z_iconst (q := 117) C dX11_text_116 rfl ?_
    have hF := Option.some.inj hF
    subst hF
    exact z_iret C e1 e2 dX11_text_117
  · have hF := (if_pos c1).symm.trans hF
    refine z_aload_n (q := 75) C dX11_text_74 0 rfl rfl rfl ?_
    refine z_getf (q := 78) C clX11 (zon C zo_14) kd_14 (k := 33) (by decide) q_1135 rfl (zfv_i kd_14 rfl) dX11_text_75 rfl ?_
    refine z_iconst (q := 79) C dX11_text_78 rfl ?_
    refine z_icmp_ge (tgt := 116) (q := 82) C dX11_text_79 (by decide) rfl (fun c2 => ?_) (fun c2 => ?_)
    · have hF := (if_pos c2).symm.trans hF
      refine z_iconst (q := 117) C dX11_text_116 rfl ?_
      have hF := Option.some.inj hF
      subst hF
      exact z_iret C e1 e2 dX11_text_117
    · have hF := (if_neg c2).symm.trans hF
      refine z_aload_n (q := 83) C dX11_text_82 0 rfl rfl rfl ?_
      refine z_aload_n (q := 84) C dX11_text_83 0 rfl rfl rfl ?_
      refine z_getf (q := 87) C clX11 (zon C zo_14) kd_14 (k := 33) (by decide) q_1135 rfl (zfv_i kd_14 rfl) dX11_text_84 rfl ?_
      obtain ⟨v4, h3, ev4, hF⟩ := z2_e hF
      refine z_callV (q := 90) (o := 14) (av := [.int (zi (h 14 33))]) (rest := []) (stk2 := [.int (zi v4)]) C hR clX11 (zon C zo_14) kd_14 (M_fX11_readOrders (zlv hd rfl) ev4) mY_X11_readOrders q_1394 (Nat.le_of_ble_eq_true rfl) dX11_text_87 rfl rfl rfl ?_
      refine z_iconst (q := 91) C dX11_text_90 rfl ?_
      refine z_icmp_ne (tgt := 116) (q := 94) C dX11_text_91 (by decide) rfl (fun c5 => ?_) (fun c5 => ?_)
      · have hF := (if_neg c5).symm.trans hF
        refine z_iconst (q := 117) C dX11_text_116 rfl ?_
        have hF := Option.some.inj hF
        subst hF
        exact z_iret C e1 e2 dX11_text_117
      · have hF := (if_pos c5).symm.trans hF
        refine z_aload_n (q := 95) C dX11_text_94 0 rfl rfl rfl ?_
        refine z_iconst (q := 96) C dX11_text_95 rfl ?_
        obtain ⟨h6, eh6, hF⟩ := zlet_e hF
        refine z_putf (q := 99) C clX11 (zon C zo_14) kd_14 (k := 2) (x := 0) (by decide) q_1104 rfl rfl rfl rfl (((zfv_i kd_14 rfl)).trans (by rw [if_pos rfl])) dX11_text_96 rfl eh6 ?_
        refine z_aload_n (q := 100) C dX11_text_99 0 rfl rfl rfl ?_
        refine z_dup (q := 101) C dX11_text_100 rfl rfl ?_
        refine z_getf (q := 104) C clX11 (zon C zo_14) kd_14 (k := 33) (by decide) q_1135 rfl (zfv_i kd_14 rfl) dX11_text_101 rfl ?_
        refine z_iconst (q := 105) C dX11_text_104 rfl ?_
        refine z_iadd (q := 106) C dX11_text_105 rfl ?_
        obtain ⟨h7, eh7, hF⟩ := zlet_e hF
        refine z_putf (q := 109) C clX11 (zon C zo_14) kd_14 (k := 33) (x := (h6 14 33) + 1) (by decide) q_1135 rfl rfl rfl rfl (((zfv_i kd_14 rfl)).trans (by rw [if_pos rfl])) dX11_text_106 rfl eh7 ?_
        refine z_aload_n (q := 110) C dX11_text_109 0 rfl rfl rfl ?_
        refine z_getf (q := 113) C clX11 (zon C zo_14) kd_14 (k := 33) (by decide) q_1135 rfl (zfv_i kd_14 rfl) dX11_text_110 rfl ?_
        refine z_iconst (q := 114) C dX11_text_113 rfl ?_
        refine z_isub (q := 115) C dX11_text_114 rfl ?_
        have hF := Option.some.inj hF
        subst hF
        exact z_iret C e1 e2 dX11_text_115
set_option maxRecDepth 20000 in
set_option maxHeartbeats 4000000 in
theorem J_fX11_text_c22 {κ : zT} (C : zC κ RX11 cX11_text 2 (some .int)) {d : Nat} (hR : zR κ = zrm (d + 1)) (hd : 127 ≤ d + 1) {N : Nat} {r : Int × zH} (e1 : zrv κ = some (.int (zi r.1))) (e2 : zhf κ = r.2) (l1 : Int) (h : zH) (hF : fX11_text_c22 N l1 h = some r) : Z κ h 22 [(0, .ref (zα κ 14)), (1, .int (zi l1))] [] := by
  unfold fX11_text_c22 at hF
  refine z_iload_n (q := 23) C dX11_text_22 1 rfl rfl rfl ?_
  refine z_iconst (q := 24) C dX11_text_23 rfl ?_
  refine z_icmp_ne (tgt := 69) (q := 27) C dX11_text_24 (by decide) rfl (fun c1 => ?_) (fun c1 => ?_)
  · have hF := (if_neg c1).symm.trans hF
    exact z_sub (J_fX11_text_c69 C hR hd e1 e2 _ _ hF) [0, 1] rfl
  · have hF := (if_pos c1).symm.trans hF
    refine z_aload_n (q := 28) C dX11_text_27 0 rfl rfl rfl ?_
    refine z_getf (q := 31) C clX11 (zon C zo_14) kd_14 (k := 13) (by decide) q_1115 rfl (zfv_i kd_14 rfl) dX11_text_28 rfl ?_
    refine z_iconst (q := 32) C dX11_text_31 rfl ?_
    refine z_icmp_ge (tgt := 69) (q := 35) C dX11_text_32 (by decide) rfl (fun c2 => ?_) (fun c2 => ?_)
    · have hF := (if_pos c2).symm.trans hF
      exact z_sub (J_fX11_text_c69 C hR hd e1 e2 _ _ hF) [0, 1] rfl
    · have hF := (if_neg c2).symm.trans hF
      refine z_aload_n (q := 36) C dX11_text_35 0 rfl rfl rfl ?_
      refine z_aload_n (q := 37) C dX11_text_36 0 rfl rfl rfl ?_
      refine z_getf (q := 40) C clX11 (zon C zo_14) kd_14 (k := 13) (by decide) q_1115 rfl (zfv_i kd_14 rfl) dX11_text_37 rfl ?_
      obtain ⟨v4, h3, ev4, hF⟩ := z2_e hF
      refine z_callV (q := 43) (o := 14) (av := [.int (zi (h 14 13))]) (rest := []) (stk2 := [.int (zi v4)]) C hR clX11 (zon C zo_14) kd_14 (M_fX11_readLaw (zlv hd rfl) ev4) mY_X11_readLaw q_1324 (Nat.le_of_ble_eq_true rfl) dX11_text_40 rfl rfl rfl ?_
      refine z_iconst (q := 44) C dX11_text_43 rfl ?_
      refine z_icmp_ne (tgt := 69) (q := 47) C dX11_text_44 (by decide) rfl (fun c5 => ?_) (fun c5 => ?_)
      · have hF := (if_neg c5).symm.trans hF
        exact z_sub (J_fX11_text_c69 C hR hd e1 e2 _ _ hF) [0, 1] rfl
      · have hF := (if_pos c5).symm.trans hF
        refine z_aload_n (q := 48) C dX11_text_47 0 rfl rfl rfl ?_
        refine z_iconst (q := 49) C dX11_text_48 rfl ?_
        obtain ⟨h6, eh6, hF⟩ := zlet_e hF
        refine z_putf (q := 52) C clX11 (zon C zo_14) kd_14 (k := 2) (x := 0) (by decide) q_1104 rfl rfl rfl rfl (((zfv_i kd_14 rfl)).trans (by rw [if_pos rfl])) dX11_text_49 rfl eh6 ?_
        refine z_aload_n (q := 53) C dX11_text_52 0 rfl rfl rfl ?_
        refine z_dup (q := 54) C dX11_text_53 rfl rfl ?_
        refine z_getf (q := 57) C clX11 (zon C zo_14) kd_14 (k := 13) (by decide) q_1115 rfl (zfv_i kd_14 rfl) dX11_text_54 rfl ?_
        refine z_iconst (q := 58) C dX11_text_57 rfl ?_
        refine z_iadd (q := 59) C dX11_text_58 rfl ?_
        obtain ⟨h7, eh7, hF⟩ := zlet_e hF
        refine z_putf (q := 62) C clX11 (zon C zo_14) kd_14 (k := 13) (x := (h6 14 13) + 1) (by decide) q_1115 rfl rfl rfl rfl (((zfv_i kd_14 rfl)).trans (by rw [if_pos rfl])) dX11_text_59 rfl eh7 ?_
        refine z_aload_n (q := 63) C dX11_text_62 0 rfl rfl rfl ?_
        refine z_getf (q := 66) C clX11 (zon C zo_14) kd_14 (k := 13) (by decide) q_1115 rfl (zfv_i kd_14 rfl) dX11_text_63 rfl ?_
        refine z_iconst (q := 67) C dX11_text_66 rfl ?_
        refine z_isub (q := 68) C dX11_text_67 rfl ?_
        have hF := Option.some.inj hF
        subst hF
        exact z_iret C e1 e2 dX11_text_68
set_option maxRecDepth 20000 in
set_option maxHeartbeats 4000000 in
theorem J_fX11_text {κ : zT} (C : zC κ RX11 cX11_text 2 (some .int)) {d : Nat} (hR : zR κ = zrm (d + 1)) (hd : 127 ≤ d + 1) {N : Nat} {r : Int × zH} (e1 : zrv κ = some (.int (zi r.1))) (e2 : zhf κ = r.2) {a1 : Int} {h : zH} (hF : fX11_text N a1 h = some r) : Z κ h 0 [(0, .ref (zα κ 14)), (1, .int (zi a1))] [] := by
  unfold fX11_text at hF
  refine z_iload_n (q := 1) C dX11_text_0 1 rfl rfl rfl ?_
  refine z_if_ne (tgt := 22) (q := 4) C dX11_text_1 (by decide) rfl (fun c1 => ?_) (fun c1 => ?_)
  · have hF := (if_neg c1).symm.trans hF
    exact z_sub (J_fX11_text_c22 C hR hd e1 e2 _ _ hF) [0, 1] rfl
  · have hF := (if_pos c1).symm.trans hF
    refine z_aload_n (q := 5) C dX11_text_4 0 rfl rfl rfl ?_
    obtain ⟨v3, h2, ev3, hF⟩ := z2_e hF
    refine z_callV (q := 8) (o := 14) (av := []) (rest := []) (stk2 := [.int (zi v3)]) C hR clX11 (zon C zo_14) kd_14 (M_fX11_readHill (zlv hd rfl) ev3) mY_X11_readHill q_1272 (Nat.le_of_ble_eq_true rfl) dX11_text_5 rfl rfl rfl ?_
    refine z_iconst (q := 9) C dX11_text_8 rfl ?_
    refine z_icmp_ne (tgt := 22) (q := 12) C dX11_text_9 (by decide) rfl (fun c4 => ?_) (fun c4 => ?_)
    · have hF := (if_neg c4).symm.trans hF
      exact z_sub (J_fX11_text_c22 C hR hd e1 e2 _ _ hF) [0, 1] rfl
    · have hF := (if_pos c4).symm.trans hF
      refine z_aload_n (q := 13) C dX11_text_12 0 rfl rfl rfl ?_
      refine z_iconst (q := 14) C dX11_text_13 rfl ?_
      obtain ⟨h5, eh5, hF⟩ := zlet_e hF
      refine z_putf (q := 17) C clX11 (zon C zo_14) kd_14 (k := 2) (x := 0) (by decide) q_1104 rfl rfl rfl rfl (((zfv_i kd_14 rfl)).trans (by rw [if_pos rfl])) dX11_text_14 rfl eh5 ?_
      refine z_aload_n (q := 18) C dX11_text_17 0 rfl rfl rfl ?_
      obtain ⟨v7, h6, ev7, hF⟩ := z2_e hF
      refine z_callV (q := 21) (o := 14) (av := []) (rest := []) (stk2 := [.int (zi v7)]) C hR clX11 (zon C zo_14) kd_14 (M_fX11_takeHill (zlv hd rfl) ev7) mY_X11_takeHill q_1410 (Nat.le_of_ble_eq_true rfl) dX11_text_18 rfl rfl rfl ?_
      have hF := Option.some.inj hF
      subst hF
      exact z_iret C e1 e2 dX11_text_21
set_option maxRecDepth 20000 in
set_option maxHeartbeats 4000000 in
theorem M_fX11_text {l : Launch} {D : va_G} {cy : ClassId} {α : Nat → Nat} {n : Nat} {σ : zSg} {d : Nat} (hd : 127 ≤ d) {N : Nat} {a1 : Int} {h : zH} {r : Int} {g : zH} (hF : fX11_text N a1 h = some (r, g)) : zMet l yX11_text cX11_text 2 (some .int) (zrm d) D cy α n σ [.ref (α 14), .int (zi a1)] h (some (.int (zi r))) g := by
  obtain ⟨d, rfl⟩ : ∃ e, d = e + 1 := ⟨d - 1, by omega⟩
  refine z_met (by decide +kernel) (Nat.le_of_ble_eq_true rfl) (fun κ k1 k2 k3 k4 k5 k6 k7 k8 k9 C => ?_)
  subst k1 k3 k4 k5 k6 k7
  exact J_fX11_text C k2 hd k8 k9 hF
set_option maxRecDepth 20000 in
set_option maxHeartbeats 4000000 in
theorem J_fX11_sun {κ : zT} (C : zC κ RX11 cX11_sun 2 (some .int)) {d : Nat} (hR : zR κ = zrm (d + 1)) (hd : 2 ≤ d + 1) {h : zH} {r : Int} (e1 : zrv κ = some (.int (zi r))) (e2 : zhf κ = h) {a1 : Int} (hF : fX11_sun a1 h = some r) : Z κ h 0 [(0, .ref (zα κ 14)), (1, .int (zi a1))] [] := by
  unfold fX11_sun at hF
  refine z_aload_n (q := 1) C dX11_sun_0 0 rfl rfl rfl ?_
  refine z_getf (q := 4) C clX11 (zon C zo_14) kd_14 (k := 28) (by decide) q_1130 rfl (zfv_i kd_14 rfl) dX11_sun_1 rfl ?_
  refine z_if_le (tgt := 25) (q := 7) C dX11_sun_4 (by decide) rfl (fun c1 => ?_) (fun c1 => ?_)
  · have hF := (if_pos c1).symm.trans hF
    refine z_iconst (q := 26) C dX11_sun_25 rfl ?_
    have hF := Option.some.inj hF
    subst hF
    exact z_iret C e1 e2 dX11_sun_26
  · have hF := (if_neg c1).symm.trans hF
    refine z_iload_n (q := 8) C dX11_sun_7 1 rfl rfl rfl ?_
    refine z_iconst (q := 9) C dX11_sun_8 rfl ?_
    refine z_iconst (q := 10) C dX11_sun_9 rfl ?_
    refine z_callS (q := 13) (av := [.int (zi a1), .int (zi 0), .int (zi 1)]) (rest := []) (stk2 := [.int (zi (fX11_in a1 0 1))]) C hR (M_fX11_in (zlv hd rfl) rfl) mY_X11_in q_1314 (Nat.le_of_ble_eq_true rfl) dX11_sun_10 rfl rfl rfl ?_
    refine z_if_eq (tgt := 25) (q := 16) C dX11_sun_13 (by decide) rfl (fun c2 => ?_) (fun c2 => ?_)
    · have hF := (if_pos c2).symm.trans hF
      refine z_iconst (q := 26) C dX11_sun_25 rfl ?_
      have hF := Option.some.inj hF
      subst hF
      exact z_iret C e1 e2 dX11_sun_26
    · have hF := (if_neg c2).symm.trans hF
      refine z_aload_n (q := 17) C dX11_sun_16 0 rfl rfl rfl ?_
      refine z_getf (q := 20) C clX11 (zon C zo_14) kd_14 (k := 24) (by decide) q_1126 rfl (zfv_r kd_14 rfl fr_14_24) dX11_sun_17 rfl ?_
      refine z_iload_n (q := 21) C dX11_sun_20 1 rfl rfl rfl ?_
      obtain ⟨g3, hF⟩ := zif_none hF
      refine z_iald (q := 22) C (zon C zo_63) kd_63 g3.1 (by rw [ln_63]; exact g3.2) dX11_sun_21 rfl ?_
      refine z_goto (q := 26) C dX11_sun_22 (by decide) ?_
      have hF := Option.some.inj hF
      subst hF
      exact z_iret C e1 e2 dX11_sun_26
set_option maxRecDepth 20000 in
set_option maxHeartbeats 4000000 in
theorem M_fX11_sun {l : Launch} {D : va_G} {cy : ClassId} {α : Nat → Nat} {n : Nat} {σ : zSg} {d : Nat} (hd : 2 ≤ d) {a1 : Int} {h : zH} {r : Int} (hF : fX11_sun a1 h = some r) : zMet l yX11_sun cX11_sun 2 (some .int) (zrm d) D cy α n σ [.ref (α 14), .int (zi a1)] h (some (.int (zi r))) h := by
  obtain ⟨d, rfl⟩ : ∃ e, d = e + 1 := ⟨d - 1, by omega⟩
  refine z_met (by decide +kernel) (Nat.le_of_ble_eq_true rfl) (fun κ k1 k2 k3 k4 k5 k6 k7 k8 k9 C => ?_)
  subst k1 k3 k4 k5 k6 k7
  exact J_fX11_sun C k2 hd k8 k9 hF
set_option maxRecDepth 20000 in
set_option maxHeartbeats 4000000 in
theorem J_fX11_isParish {κ : zT} (C : zC κ RX11 cX11_isParish 2 (some .boolean)) {d : Nat} (hR : zR κ = zrm (d + 1)) (hd : 2 ≤ d + 1) {h : zH} {r : Int} (e1 : zrv κ = some (.int (zi r))) (e2 : zhf κ = h) {a1 : Int} (hF : fX11_isParish a1 h = r) : Z κ h 0 [(0, .ref (zα κ 14)), (1, .int (zi a1))] [] := by
  unfold fX11_isParish at hF
  refine z_iload_n (q := 1) C dX11_isParish_0 1 rfl rfl rfl ?_
  refine z_iconst (q := 2) C dX11_isParish_1 rfl ?_
  refine z_aload_n (q := 3) C dX11_isParish_2 0 rfl rfl rfl ?_
  refine z_getf (q := 6) C clX11 (zon C zo_14) kd_14 (k := 28) (by decide) q_1130 rfl (zfv_i kd_14 rfl) dX11_isParish_3 rfl ?_
  refine z_iconst (q := 7) C dX11_isParish_6 rfl ?_
  refine z_isub (q := 8) C dX11_isParish_7 rfl ?_
  refine z_callS (q := 11) (av := [.int (zi a1), .int (zi 0), .int (zi ((h 14 28) - 1))]) (rest := []) (stk2 := [.int (zi (fX11_in a1 0 ((h 14 28) - 1)))]) C hR (M_fX11_in (zlv hd rfl) rfl) mY_X11_in q_1314 (Nat.le_of_ble_eq_true rfl) dX11_isParish_8 rfl rfl rfl ?_
  subst hF
  exact z_zret C (zb01 (B_fX11_in)) e1 e2 dX11_isParish_11
set_option maxRecDepth 20000 in
set_option maxHeartbeats 4000000 in
theorem M_fX11_isParish {l : Launch} {D : va_G} {cy : ClassId} {α : Nat → Nat} {n : Nat} {σ : zSg} {d : Nat} (hd : 2 ≤ d) {a1 : Int} {h : zH} {r : Int} (hF : fX11_isParish a1 h = r) : zMet l yX11_isParish cX11_isParish 2 (some .boolean) (zrm d) D cy α n σ [.ref (α 14), .int (zi a1)] h (some (.int (zi r))) h := by
  obtain ⟨d, rfl⟩ : ∃ e, d = e + 1 := ⟨d - 1, by omega⟩
  refine z_met (by decide +kernel) (Nat.le_of_ble_eq_true rfl) (fun κ k1 k2 k3 k4 k5 k6 k7 k8 k9 C => ?_)
  subst k1 k3 k4 k5 k6 k7
  exact J_fX11_isParish C k2 hd k8 k9 hF
theorem B_fX11_isParish {a1 : Int} {h : zH} : fX11_isParish a1 h = 0 ∨ fX11_isParish a1 h = 1 := by
  unfold fX11_isParish
  try simp only [zlet, zlet2]
  repeat' (first | exact Or.inl rfl | exact Or.inr rfl | exact B_fX11_in | apply zite01)
set_option maxRecDepth 20000 in
set_option maxHeartbeats 4000000 in
theorem J_fX11_of {κ : zT} (C : zC κ RX11 cX11_of 3 (some .int)) {d : Nat} (hR : zR κ = zrm (d + 1)) (hd : 1 ≤ d + 1) {h : zH} {r : Int} (e1 : zrv κ = some (.int (zi r))) (e2 : zhf κ = h) {a1 : Int} {a2 : Int} (hF : fX11_of a1 a2 h = some r) : Z κ h 0 [(0, .ref (zα κ 14)), (1, .int (zi a1)), (2, .int (zi a2))] [] := by
  unfold fX11_of at hF
  refine z_aload_n (q := 1) C dX11_of_0 0 rfl rfl rfl ?_
  refine z_getf (q := 4) C clX11 (zon C zo_14) kd_14 (k := 34) (by decide) q_1136 rfl (zfv_r kd_14 rfl fr_14_34) dX11_of_1 rfl ?_
  refine z_bipush (q := 6) C dX11_of_4 bp_7 rfl ?_
  refine z_iload_n (q := 7) C dX11_of_6 1 rfl rfl rfl ?_
  refine z_imul (q := 8) C dX11_of_7 rfl ?_
  refine z_iload_n (q := 9) C dX11_of_8 2 rfl rfl rfl ?_
  refine z_iadd (q := 10) C dX11_of_9 rfl ?_
  obtain ⟨g1, hF⟩ := zif_none hF
  refine z_iald (q := 11) C (zon C zo_69) kd_69 g1.1 (by rw [ln_69]; exact g1.2) dX11_of_10 rfl ?_
  have hF := Option.some.inj hF
  subst hF
  exact z_iret C e1 e2 dX11_of_11
set_option maxRecDepth 20000 in
set_option maxHeartbeats 4000000 in
theorem M_fX11_of {l : Launch} {D : va_G} {cy : ClassId} {α : Nat → Nat} {n : Nat} {σ : zSg} {d : Nat} (hd : 1 ≤ d) {a1 : Int} {a2 : Int} {h : zH} {r : Int} (hF : fX11_of a1 a2 h = some r) : zMet l yX11_of cX11_of 3 (some .int) (zrm d) D cy α n σ [.ref (α 14), .int (zi a1), .int (zi a2)] h (some (.int (zi r))) h := by
  obtain ⟨d, rfl⟩ : ∃ e, d = e + 1 := ⟨d - 1, by omega⟩
  refine z_met (by decide +kernel) (Nat.le_of_ble_eq_true rfl) (fun κ k1 k2 k3 k4 k5 k6 k7 k8 k9 C => ?_)
  subst k1 k3 k4 k5 k6 k7
  exact J_fX11_of C k2 hd k8 k9 hF
set_option maxRecDepth 20000 in
set_option maxHeartbeats 4000000 in
theorem J_fX11_parish_c24 {κ : zT} (C : zC κ RX11 cX11_parish 3 (some .int)) {d : Nat} (hR : zR κ = zrm (d + 1)) (hd : 3 ≤ d + 1) {r : Int × zH} (e1 : zrv κ = some (.int (zi r.1))) (e2 : zhf κ = r.2) (l1 : Int) (l2 : Int) (s0 : Int) (h : zH) (hF : fX11_parish_c24 l1 l2 s0 h = some r) : Z κ h 24 [(0, .ref (zα κ 14)), (1, .int (zi l1)), (2, .int (zi l2))] [.int (zi s0), .ref (zα κ 14)] := by
  unfold fX11_parish_c24 at hF
  obtain ⟨h1, eh1, hF⟩ := zlet_e hF
  refine z_putf (q := 27) C clX11 (zon C zo_14) kd_14 (k := 0) (x := s0) (by decide) q_1102 rfl rfl rfl rfl (((zfv_i kd_14 rfl)).trans (by rw [if_pos rfl])) dX11_parish_24 rfl eh1 ?_
  refine z_aload_n (q := 28) C dX11_parish_27 0 rfl rfl rfl ?_
  refine z_getf (q := 31) C clX11 (zon C zo_14) kd_14 (k := 0) (by decide) q_1102 rfl (zfv_i kd_14 rfl) dX11_parish_28 rfl ?_
  refine z_iconst (q := 32) C dX11_parish_31 rfl ?_
  refine z_icmp_ne (tgt := 37) (q := 35) C dX11_parish_32 (by decide) rfl (fun c2 => ?_) (fun c2 => ?_)
  · have hF := (if_neg c2).symm.trans hF
    refine z_iload_n (q := 38) C dX11_parish_37 2 rfl rfl rfl ?_
    by_cases c3 : zw l2 = 0
    · have hF := (if_pos c3).symm.trans hF
      refine z_tableIn (off := 46) (tgt := 84) C c3 dX11_parish_38 (by decide) (by decide) (by decide) (by decide) ?_
      refine z_aload_n (q := 85) C dX11_parish_84 0 rfl rfl rfl ?_
      refine z_getf (q := 88) C clX11 (zon C zo_14) kd_14 (k := 25) (by decide) q_1127 rfl (zfv_r kd_14 rfl fr_14_25) dX11_parish_85 rfl ?_
      refine z_iconst (q := 89) C dX11_parish_88 rfl ?_
      refine z_iload_n (q := 90) C dX11_parish_89 1 rfl rfl rfl ?_
      refine z_imul (q := 91) C dX11_parish_90 rfl ?_
      refine z_iload_n (q := 92) C dX11_parish_91 2 rfl rfl rfl ?_
      refine z_iadd (q := 93) C dX11_parish_92 rfl ?_
      obtain ⟨g4, hF⟩ := zif_none hF
      refine z_iald (q := 94) C (zon C zo_64) kd_64 g4.1 (by rw [ln_64]; exact g4.2) dX11_parish_93 rfl ?_
      have hF := Option.some.inj hF
      subst hF
      exact z_iret C e1 e2 dX11_parish_94
    · have hF := (if_neg c3).symm.trans hF
      by_cases c5 : zw l2 = 1
      · have hF := (if_pos c5).symm.trans hF
        refine z_tableIn (off := 46) (tgt := 84) C c5 dX11_parish_38 (by decide) (by decide) (by decide) (by decide) ?_
        refine z_aload_n (q := 85) C dX11_parish_84 0 rfl rfl rfl ?_
        refine z_getf (q := 88) C clX11 (zon C zo_14) kd_14 (k := 25) (by decide) q_1127 rfl (zfv_r kd_14 rfl fr_14_25) dX11_parish_85 rfl ?_
        refine z_iconst (q := 89) C dX11_parish_88 rfl ?_
        refine z_iload_n (q := 90) C dX11_parish_89 1 rfl rfl rfl ?_
        refine z_imul (q := 91) C dX11_parish_90 rfl ?_
        refine z_iload_n (q := 92) C dX11_parish_91 2 rfl rfl rfl ?_
        refine z_iadd (q := 93) C dX11_parish_92 rfl ?_
        obtain ⟨g6, hF⟩ := zif_none hF
        refine z_iald (q := 94) C (zon C zo_64) kd_64 g6.1 (by rw [ln_64]; exact g6.2) dX11_parish_93 rfl ?_
        have hF := Option.some.inj hF
        subst hF
        exact z_iret C e1 e2 dX11_parish_94
      · have hF := (if_neg c5).symm.trans hF
        by_cases c7 : zw l2 = 2
        · have hF := (if_pos c7).symm.trans hF
          refine z_tableIn (off := 46) (tgt := 84) C c7 dX11_parish_38 (by decide) (by decide) (by decide) (by decide) ?_
          refine z_aload_n (q := 85) C dX11_parish_84 0 rfl rfl rfl ?_
          refine z_getf (q := 88) C clX11 (zon C zo_14) kd_14 (k := 25) (by decide) q_1127 rfl (zfv_r kd_14 rfl fr_14_25) dX11_parish_85 rfl ?_
          refine z_iconst (q := 89) C dX11_parish_88 rfl ?_
          refine z_iload_n (q := 90) C dX11_parish_89 1 rfl rfl rfl ?_
          refine z_imul (q := 91) C dX11_parish_90 rfl ?_
          refine z_iload_n (q := 92) C dX11_parish_91 2 rfl rfl rfl ?_
          refine z_iadd (q := 93) C dX11_parish_92 rfl ?_
          obtain ⟨g8, hF⟩ := zif_none hF
          refine z_iald (q := 94) C (zon C zo_64) kd_64 g8.1 (by rw [ln_64]; exact g8.2) dX11_parish_93 rfl ?_
          have hF := Option.some.inj hF
          subst hF
          exact z_iret C e1 e2 dX11_parish_94
        · have hF := (if_neg c7).symm.trans hF
          by_cases c9 : zw l2 = 3
          · have hF := (if_pos c9).symm.trans hF
            refine z_tableIn (off := 57) (tgt := 95) C c9 dX11_parish_38 (by decide) (by decide) (by decide) (by decide) ?_
            refine z_aload_n (q := 96) C dX11_parish_95 0 rfl rfl rfl ?_
            refine z_iload_n (q := 97) C dX11_parish_96 1 rfl rfl rfl ?_
            refine z_iconst (q := 98) C dX11_parish_97 rfl ?_
            obtain ⟨v10, ev10, hF⟩ := zb_e hF
            refine z_callV (q := 101) (o := 14) (av := [.int (zi l1), .int (zi 0)]) (rest := []) (stk2 := [.int (zi v10)]) C hR clX11 (zon C zo_14) kd_14 (M_fX11_of (zlv hd rfl) ev10) mY_X11_of q_1430 (Nat.le_of_ble_eq_true rfl) dX11_parish_98 rfl rfl rfl ?_
            have hF := Option.some.inj hF
            subst hF
            exact z_iret C e1 e2 dX11_parish_101
          · have hF := (if_neg c9).symm.trans hF
            by_cases c11 : zw l2 = 4
            · have hF := (if_pos c11).symm.trans hF
              refine z_tableIn (off := 64) (tgt := 102) C c11 dX11_parish_38 (by decide) (by decide) (by decide) (by decide) ?_
              refine z_aload_n (q := 103) C dX11_parish_102 0 rfl rfl rfl ?_
              refine z_iload_n (q := 104) C dX11_parish_103 1 rfl rfl rfl ?_
              refine z_iconst (q := 105) C dX11_parish_104 rfl ?_
              obtain ⟨v12, ev12, hF⟩ := zb_e hF
              refine z_callV (q := 108) (o := 14) (av := [.int (zi l1), .int (zi 1)]) (rest := []) (stk2 := [.int (zi v12)]) C hR clX11 (zon C zo_14) kd_14 (M_fX11_of (zlv hd rfl) ev12) mY_X11_of q_1430 (Nat.le_of_ble_eq_true rfl) dX11_parish_105 rfl rfl rfl ?_
              have hF := Option.some.inj hF
              subst hF
              exact z_iret C e1 e2 dX11_parish_108
            · have hF := (if_neg c11).symm.trans hF
              by_cases c13 : zw l2 = 5
              · have hF := (if_pos c13).symm.trans hF
                refine z_tableIn (off := 71) (tgt := 109) C c13 dX11_parish_38 (by decide) (by decide) (by decide) (by decide) ?_
                refine z_aload_n (q := 110) C dX11_parish_109 0 rfl rfl rfl ?_
                refine z_iload_n (q := 111) C dX11_parish_110 1 rfl rfl rfl ?_
                refine z_iconst (q := 112) C dX11_parish_111 rfl ?_
                obtain ⟨v14, ev14, hF⟩ := zb_e hF
                refine z_callV (q := 115) (o := 14) (av := [.int (zi l1), .int (zi 3)]) (rest := []) (stk2 := [.int (zi v14)]) C hR clX11 (zon C zo_14) kd_14 (M_fX11_of (zlv hd rfl) ev14) mY_X11_of q_1430 (Nat.le_of_ble_eq_true rfl) dX11_parish_112 rfl rfl rfl ?_
                have hF := Option.some.inj hF
                subst hF
                exact z_iret C e1 e2 dX11_parish_115
              · have hF := (if_neg c13).symm.trans hF
                by_cases c15 : zw l2 = 6
                · have hF := (if_pos c15).symm.trans hF
                  refine z_tableIn (off := 78) (tgt := 116) C c15 dX11_parish_38 (by decide) (by decide) (by decide) (by decide) ?_
                  refine z_aload_n (q := 117) C dX11_parish_116 0 rfl rfl rfl ?_
                  refine z_iload_n (q := 118) C dX11_parish_117 1 rfl rfl rfl ?_
                  refine z_iconst (q := 119) C dX11_parish_118 rfl ?_
                  obtain ⟨v16, ev16, hF⟩ := zb_e hF
                  refine z_callV (q := 122) (o := 14) (av := [.int (zi l1), .int (zi 4)]) (rest := []) (stk2 := [.int (zi v16)]) C hR clX11 (zon C zo_14) kd_14 (M_fX11_of (zlv hd rfl) ev16) mY_X11_of q_1430 (Nat.le_of_ble_eq_true rfl) dX11_parish_119 rfl rfl rfl ?_
                  have hF := Option.some.inj hF
                  subst hF
                  exact z_iret C e1 e2 dX11_parish_122
                · have hF := (if_neg c15).symm.trans hF
                  by_cases c17 : zw l2 = 7
                  · have hF := (if_pos c17).symm.trans hF
                    refine z_tableIn (off := 85) (tgt := 123) C c17 dX11_parish_38 (by decide) (by decide) (by decide) (by decide) ?_
                    refine z_aload_n (q := 124) C dX11_parish_123 0 rfl rfl rfl ?_
                    refine z_iload_n (q := 125) C dX11_parish_124 1 rfl rfl rfl ?_
                    refine z_iconst (q := 126) C dX11_parish_125 rfl ?_
                    obtain ⟨v18, ev18, hF⟩ := zb_e hF
                    refine z_callV (q := 129) (o := 14) (av := [.int (zi l1), .int (zi 5)]) (rest := []) (stk2 := [.int (zi v18)]) C hR clX11 (zon C zo_14) kd_14 (M_fX11_of (zlv hd rfl) ev18) mY_X11_of q_1430 (Nat.le_of_ble_eq_true rfl) dX11_parish_126 rfl rfl rfl ?_
                    have hF := Option.some.inj hF
                    subst hF
                    exact z_iret C e1 e2 dX11_parish_129
                  · have hF := (if_neg c17).symm.trans hF
                    refine z_tableOut (tgt := 130) C dX11_parish_38 (by omega) (by decide) ?_
                    refine z_aload_n (q := 131) C dX11_parish_130 0 rfl rfl rfl ?_
                    refine z_iload_n (q := 132) C dX11_parish_131 1 rfl rfl rfl ?_
                    refine z_bipush (q := 134) C dX11_parish_132 bp_6 rfl ?_
                    obtain ⟨v19, ev19, hF⟩ := zb_e hF
                    refine z_callV (q := 137) (o := 14) (av := [.int (zi l1), .int (zi 6)]) (rest := []) (stk2 := [.int (zi v19)]) C hR clX11 (zon C zo_14) kd_14 (M_fX11_of (zlv hd rfl) ev19) mY_X11_of q_1430 (Nat.le_of_ble_eq_true rfl) dX11_parish_134 rfl rfl rfl ?_
                    have hF := Option.some.inj hF
                    subst hF
                    exact z_iret C e1 e2 dX11_parish_137
  · have hF := (if_pos c2).symm.trans hF
    refine z_iconst (q := 36) C dX11_parish_35 rfl ?_
    have hF := Option.some.inj hF
    subst hF
    exact z_iret C e1 e2 dX11_parish_36
set_option maxRecDepth 20000 in
set_option maxHeartbeats 4000000 in
theorem J_fX11_parish {κ : zT} (C : zC κ RX11 cX11_parish 3 (some .int)) {d : Nat} (hR : zR κ = zrm (d + 1)) (hd : 3 ≤ d + 1) {r : Int × zH} (e1 : zrv κ = some (.int (zi r.1))) (e2 : zhf κ = r.2) {a1 : Int} {a2 : Int} {h : zH} (hF : fX11_parish a1 a2 h = some r) : Z κ h 0 [(0, .ref (zα κ 14)), (1, .int (zi a1)), (2, .int (zi a2))] [] := by
  unfold fX11_parish at hF
  refine z_aload_n (q := 1) C dX11_parish_0 0 rfl rfl rfl ?_
  refine z_aload_n (q := 2) C dX11_parish_1 0 rfl rfl rfl ?_
  refine z_iload_n (q := 3) C dX11_parish_2 1 rfl rfl rfl ?_
  refine z_callV (q := 6) (o := 14) (av := [.int (zi a1)]) (rest := [.ref (zα κ 14)]) (stk2 := [.int (zi (fX11_isParish a1 h)), .ref (zα κ 14)]) C hR clX11 (zon C zo_14) kd_14 (M_fX11_isParish (zlv hd rfl) rfl) mY_X11_isParish q_1426 (Nat.le_of_ble_eq_true rfl) dX11_parish_3 rfl rfl rfl ?_
  refine z_if_eq (tgt := 23) (q := 9) C dX11_parish_6 (by decide) rfl (fun c1 => ?_) (fun c1 => ?_)
  · have hF := (if_pos c1).symm.trans hF
    refine z_iconst (q := 24) C dX11_parish_23 rfl ?_
    exact z_sub (J_fX11_parish_c24 C hR hd e1 e2 _ _ _ _ hF) [0, 1, 2] rfl
  · have hF := (if_neg c1).symm.trans hF
    refine z_iload_n (q := 10) C dX11_parish_9 2 rfl rfl rfl ?_
    refine z_iconst (q := 11) C dX11_parish_10 rfl ?_
    refine z_bipush (q := 13) C dX11_parish_11 bp_8 rfl ?_
    refine z_callS (q := 16) (av := [.int (zi a2), .int (zi 0), .int (zi 8)]) (rest := [.ref (zα κ 14)]) (stk2 := [.int (zi (fX11_in a2 0 8)), .ref (zα κ 14)]) C hR (M_fX11_in (zlv hd rfl) rfl) mY_X11_in q_1314 (Nat.le_of_ble_eq_true rfl) dX11_parish_13 rfl rfl rfl ?_
    refine z_if_eq (tgt := 23) (q := 19) C dX11_parish_16 (by decide) rfl (fun c2 => ?_) (fun c2 => ?_)
    · have hF := (if_pos c2).symm.trans hF
      refine z_iconst (q := 24) C dX11_parish_23 rfl ?_
      exact z_sub (J_fX11_parish_c24 C hR hd e1 e2 _ _ _ _ hF) [0, 1, 2] rfl
    · have hF := (if_neg c2).symm.trans hF
      refine z_iconst (q := 20) C dX11_parish_19 rfl ?_
      refine z_goto (q := 24) C dX11_parish_20 (by decide) ?_
      exact z_sub (J_fX11_parish_c24 C hR hd e1 e2 _ _ _ _ hF) [0, 1, 2] rfl
set_option maxRecDepth 20000 in
set_option maxHeartbeats 4000000 in
theorem M_fX11_parish {l : Launch} {D : va_G} {cy : ClassId} {α : Nat → Nat} {n : Nat} {σ : zSg} {d : Nat} (hd : 3 ≤ d) {a1 : Int} {a2 : Int} {h : zH} {r : Int} {g : zH} (hF : fX11_parish a1 a2 h = some (r, g)) : zMet l yX11_parish cX11_parish 3 (some .int) (zrm d) D cy α n σ [.ref (α 14), .int (zi a1), .int (zi a2)] h (some (.int (zi r))) g := by
  obtain ⟨d, rfl⟩ : ∃ e, d = e + 1 := ⟨d - 1, by omega⟩
  refine z_met (by decide +kernel) (Nat.le_of_ble_eq_true rfl) (fun κ k1 k2 k3 k4 k5 k6 k7 k8 k9 C => ?_)
  subst k1 k3 k4 k5 k6 k7
  exact J_fX11_parish C k2 hd k8 k9 hF
set_option maxRecDepth 20000 in
set_option maxHeartbeats 4000000 in
theorem J_fX11_deskOf {κ : zT} (C : zC κ RX11 cX11_deskOf 2 (some .int)) {d : Nat} (hR : zR κ = zrm (d + 1)) (hd : 1 ≤ d + 1) {h : zH} {r : Int} (e1 : zrv κ = some (.int (zi r))) (e2 : zhf κ = h) {a1 : Int} (hF : fX11_deskOf a1 h = some r) : Z κ h 0 [(0, .ref (zα κ 14)), (1, .int (zi a1))] [] := by
  unfold fX11_deskOf at hF
  refine z_aload_n (q := 1) C dX11_deskOf_0 0 rfl rfl rfl ?_
  refine z_getf (q := 4) C clX11 (zon C zo_14) kd_14 (k := 27) (by decide) q_1129 rfl (zfv_r kd_14 rfl fr_14_27) dX11_deskOf_1 rfl ?_
  refine z_iconst (q := 5) C dX11_deskOf_4 rfl ?_
  refine z_iload_n (q := 6) C dX11_deskOf_5 1 rfl rfl rfl ?_
  refine z_imul (q := 7) C dX11_deskOf_6 rfl ?_
  refine z_iconst (q := 8) C dX11_deskOf_7 rfl ?_
  refine z_iadd (q := 9) C dX11_deskOf_8 rfl ?_
  obtain ⟨g1, hF⟩ := zif_none hF
  refine z_iald (q := 10) C (zon C zo_66) kd_66 g1.1 (by rw [ln_66]; exact g1.2) dX11_deskOf_9 rfl ?_
  have hF := Option.some.inj hF
  subst hF
  exact z_iret C e1 e2 dX11_deskOf_10
set_option maxRecDepth 20000 in
set_option maxHeartbeats 4000000 in
theorem M_fX11_deskOf {l : Launch} {D : va_G} {cy : ClassId} {α : Nat → Nat} {n : Nat} {σ : zSg} {d : Nat} (hd : 1 ≤ d) {a1 : Int} {h : zH} {r : Int} (hF : fX11_deskOf a1 h = some r) : zMet l yX11_deskOf cX11_deskOf 2 (some .int) (zrm d) D cy α n σ [.ref (α 14), .int (zi a1)] h (some (.int (zi r))) h := by
  obtain ⟨d, rfl⟩ : ∃ e, d = e + 1 := ⟨d - 1, by omega⟩
  refine z_met (by decide +kernel) (Nat.le_of_ble_eq_true rfl) (fun κ k1 k2 k3 k4 k5 k6 k7 k8 k9 C => ?_)
  subst k1 k3 k4 k5 k6 k7
  exact J_fX11_deskOf C k2 hd k8 k9 hF
set_option maxRecDepth 20000 in
set_option maxHeartbeats 4000000 in
theorem J_fX11_isAt {κ : zT} (C : zC κ RX11 cX11_isAt 3 (some .boolean)) {d : Nat} (hR : zR κ = zrm (d + 1)) (hd : 2 ≤ d + 1) {h : zH} {r : Int} (e1 : zrv κ = some (.int (zi r))) (e2 : zhf κ = h) {a1 : Int} {a2 : Int} (hF : fX11_isAt a1 a2 h = some r) : Z κ h 0 [(0, .ref (zα κ 14)), (1, .int (zi a1)), (2, .int (zi a2))] [] := by
  unfold fX11_isAt at hF
  refine z_aload_n (q := 1) C dX11_isAt_0 0 rfl rfl rfl ?_
  refine z_iload_n (q := 2) C dX11_isAt_1 1 rfl rfl rfl ?_
  refine z_iconst (q := 3) C dX11_isAt_2 rfl ?_
  obtain ⟨v1, ev1, hF⟩ := zb_e hF
  refine z_callV (q := 6) (o := 14) (av := [.int (zi a1), .int (zi 1)]) (rest := []) (stk2 := [.int (zi v1)]) C hR clX11 (zon C zo_14) kd_14 (M_fX11_of (zlv hd rfl) ev1) mY_X11_of q_1430 (Nat.le_of_ble_eq_true rfl) dX11_isAt_3 rfl rfl rfl ?_
  refine z_iconst (q := 7) C dX11_isAt_6 rfl ?_
  refine z_icmp_eq (tgt := 28) (q := 10) C dX11_isAt_7 (by decide) rfl (fun c2 => ?_) (fun c2 => ?_)
  · have hF := (if_pos c2).symm.trans hF
    refine z_iconst (q := 29) C dX11_isAt_28 rfl ?_
    have hF := Option.some.inj hF
    subst hF
    exact z_zret C (zb01 (Or.inl rfl)) e1 e2 dX11_isAt_29
  · have hF := (if_neg c2).symm.trans hF
    refine z_aload_n (q := 11) C dX11_isAt_10 0 rfl rfl rfl ?_
    refine z_aload_n (q := 12) C dX11_isAt_11 0 rfl rfl rfl ?_
    refine z_iload_n (q := 13) C dX11_isAt_12 1 rfl rfl rfl ?_
    refine z_iconst (q := 14) C dX11_isAt_13 rfl ?_
    obtain ⟨v3, ev3, hF⟩ := zb_e hF
    refine z_callV (q := 17) (o := 14) (av := [.int (zi a1), .int (zi 1)]) (rest := [.ref (zα κ 14)]) (stk2 := [.int (zi v3), .ref (zα κ 14)]) C hR clX11 (zon C zo_14) kd_14 (M_fX11_of (zlv hd rfl) ev3) mY_X11_of q_1430 (Nat.le_of_ble_eq_true rfl) dX11_isAt_14 rfl rfl rfl ?_
    obtain ⟨v4, ev4, hF⟩ := zb_e hF
    refine z_callV (q := 20) (o := 14) (av := [.int (zi v3)]) (rest := []) (stk2 := [.int (zi v4)]) C hR clX11 (zon C zo_14) kd_14 (M_fX11_deskOf (zlv hd rfl) ev4) mY_X11_deskOf q_1446 (Nat.le_of_ble_eq_true rfl) dX11_isAt_17 rfl rfl rfl ?_
    refine z_iload_n (q := 21) C dX11_isAt_20 2 rfl rfl rfl ?_
    refine z_icmp_ne (tgt := 28) (q := 24) C dX11_isAt_21 (by decide) rfl (fun c5 => ?_) (fun c5 => ?_)
    · have hF := (if_neg c5).symm.trans hF
      refine z_iconst (q := 29) C dX11_isAt_28 rfl ?_
      have hF := Option.some.inj hF
      subst hF
      exact z_zret C (zb01 (Or.inl rfl)) e1 e2 dX11_isAt_29
    · have hF := (if_pos c5).symm.trans hF
      refine z_iconst (q := 25) C dX11_isAt_24 rfl ?_
      refine z_goto (q := 29) C dX11_isAt_25 (by decide) ?_
      have hF := Option.some.inj hF
      subst hF
      exact z_zret C (zb01 (Or.inr rfl)) e1 e2 dX11_isAt_29
set_option maxRecDepth 20000 in
set_option maxHeartbeats 4000000 in
theorem M_fX11_isAt {l : Launch} {D : va_G} {cy : ClassId} {α : Nat → Nat} {n : Nat} {σ : zSg} {d : Nat} (hd : 2 ≤ d) {a1 : Int} {a2 : Int} {h : zH} {r : Int} (hF : fX11_isAt a1 a2 h = some r) : zMet l yX11_isAt cX11_isAt 3 (some .boolean) (zrm d) D cy α n σ [.ref (α 14), .int (zi a1), .int (zi a2)] h (some (.int (zi r))) h := by
  obtain ⟨d, rfl⟩ : ∃ e, d = e + 1 := ⟨d - 1, by omega⟩
  refine z_met (by decide +kernel) (Nat.le_of_ble_eq_true rfl) (fun κ k1 k2 k3 k4 k5 k6 k7 k8 k9 C => ?_)
  subst k1 k3 k4 k5 k6 k7
  exact J_fX11_isAt C k2 hd k8 k9 hF
set_option maxRecDepth 20000 in
set_option maxHeartbeats 4000000 in
theorem J_fX11_backlog_c4b {κ : zT} (C : zC κ RX11 cX11_backlog 4 (some .int)) {d : Nat} (hR : zR κ = zrm (d + 1)) (hd : 3 ≤ d + 1) {N : Nat} {h : zH} {r : Int} (e1 : zrv κ = some (.int (zi r))) (e2 : zhf κ = h) {K4 : Int → Int → Int → Option Int} (hK4 : ∀ (l1 : Int) (l2 : Int) (l3 : Int), K4 l1 l2 l3 = some r → Z κ h 4 [(0, .ref (zα κ 14)), (1, .int (zi l1)), (2, .int (zi l2)), (3, .int (zi l3))] []) (l1 : Int) (l2 : Int) (l3 : Int) (hF : fX11_backlog_c4b N h K4 l1 l2 l3 = some r) : Z κ h 4 [(0, .ref (zα κ 14)), (1, .int (zi l1)), (2, .int (zi l2)), (3, .int (zi l3))] [] := by
  unfold fX11_backlog_c4b at hF
  refine z_iload_n (q := 5) C dX11_backlog_4 3 rfl rfl rfl ?_
  refine z_aload_n (q := 6) C dX11_backlog_5 0 rfl rfl rfl ?_
  refine z_getf (q := 9) C clX11 (zon C zo_14) kd_14 (k := 28) (by decide) q_1130 rfl (zfv_i kd_14 rfl) dX11_backlog_6 rfl ?_
  refine z_icmp_ge (tgt := 35) (q := 12) C dX11_backlog_9 (by decide) rfl (fun c1 => ?_) (fun c1 => ?_)
  · have hF := (if_pos c1).symm.trans hF
    refine z_iload_n (q := 36) C dX11_backlog_35 2 rfl rfl rfl ?_
    have hF := Option.some.inj hF
    subst hF
    exact z_iret C e1 e2 dX11_backlog_36
  · have hF := (if_neg c1).symm.trans hF
    refine z_iload_n (q := 13) C dX11_backlog_12 2 rfl rfl rfl ?_
    refine z_aload_n (q := 14) C dX11_backlog_13 0 rfl rfl rfl ?_
    refine z_iload_n (q := 15) C dX11_backlog_14 3 rfl rfl rfl ?_
    refine z_iload_n (q := 16) C dX11_backlog_15 1 rfl rfl rfl ?_
    obtain ⟨v2, ev2, hF⟩ := zb_e hF
    refine z_callV (q := 19) (o := 14) (av := [.int (zi l3), .int (zi l1)]) (rest := [.int (zi l2)]) (stk2 := [.int (zi v2), .int (zi l2)]) C hR clX11 (zon C zo_14) kd_14 (M_fX11_isAt (zlv hd rfl) ev2) mY_X11_isAt q_1442 (Nat.le_of_ble_eq_true rfl) dX11_backlog_16 rfl rfl rfl ?_
    refine z_if_eq (tgt := 26) (q := 22) C dX11_backlog_19 (by decide) rfl (fun c3 => ?_) (fun c3 => ?_)
    · have hF := (if_pos c3).symm.trans hF
      refine z_iconst (q := 27) C dX11_backlog_26 rfl ?_
      refine z_iadd (q := 28) C dX11_backlog_27 rfl ?_
      refine z_istore_n (q := 29) C dX11_backlog_28 (by decide) rfl rfl rfl ?_
      refine z_iinc (q := 32) (x := l3) C dX11_backlog_29 (j := 3) rfl (by decide) rfl rfl ?_
      refine z_goto (q := 4) C dX11_backlog_32 (by decide) ?_
      exact z_sub (hK4 _ _ _ hF) [2, 3, 1, 0] rfl
    · have hF := (if_neg c3).symm.trans hF
      refine z_iconst (q := 23) C dX11_backlog_22 rfl ?_
      refine z_goto (q := 27) C dX11_backlog_23 (by decide) ?_
      refine z_iadd (q := 28) C dX11_backlog_27 rfl ?_
      refine z_istore_n (q := 29) C dX11_backlog_28 (by decide) rfl rfl rfl ?_
      refine z_iinc (q := 32) (x := l3) C dX11_backlog_29 (j := 3) rfl (by decide) rfl rfl ?_
      refine z_goto (q := 4) C dX11_backlog_32 (by decide) ?_
      exact z_sub (hK4 _ _ _ hF) [2, 3, 1, 0] rfl
set_option maxRecDepth 20000 in
set_option maxHeartbeats 4000000 in
theorem J_fX11_backlog_c4 {κ : zT} (C : zC κ RX11 cX11_backlog 4 (some .int)) {d : Nat} (hR : zR κ = zrm (d + 1)) (hd : 3 ≤ d + 1) {N : Nat} {h : zH} {r : Int} (e1 : zrv κ = some (.int (zi r))) (e2 : zhf κ = h) : ∀ (k : Nat) (l1 : Int) (l2 : Int) (l3 : Int), fX11_backlog_c4 N h k l1 l2 l3 = some r → Z κ h 4 [(0, .ref (zα κ 14)), (1, .int (zi l1)), (2, .int (zi l2)), (3, .int (zi l3))] [] := by
  intro k
  induction k with
  | zero => intro l1 l2 l3 hF; cases hF
  | succ k ih => intro l1 l2 l3 hF; exact J_fX11_backlog_c4b C hR hd e1 e2 ih l1 l2 l3 hF
set_option maxRecDepth 20000 in
set_option maxHeartbeats 4000000 in
theorem J_fX11_backlog {κ : zT} (C : zC κ RX11 cX11_backlog 4 (some .int)) {d : Nat} (hR : zR κ = zrm (d + 1)) (hd : 3 ≤ d + 1) {N : Nat} {h : zH} {r : Int} (e1 : zrv κ = some (.int (zi r))) (e2 : zhf κ = h) {a1 : Int} (hF : fX11_backlog N a1 h = some r) : Z κ h 0 [(0, .ref (zα κ 14)), (1, .int (zi a1))] [] := by
  unfold fX11_backlog at hF
  refine z_iconst (q := 1) C dX11_backlog_0 rfl ?_
  refine z_istore_n (q := 2) C dX11_backlog_1 (by decide) rfl rfl rfl ?_
  refine z_iconst (q := 3) C dX11_backlog_2 rfl ?_
  refine z_istore_n (q := 4) C dX11_backlog_3 (by decide) rfl rfl rfl ?_
  exact z_sub (J_fX11_backlog_c4 C hR hd e1 e2 N _ _ _ hF) [2, 3, 1, 0] rfl
set_option maxRecDepth 20000 in
set_option maxHeartbeats 4000000 in
theorem M_fX11_backlog {l : Launch} {D : va_G} {cy : ClassId} {α : Nat → Nat} {n : Nat} {σ : zSg} {d : Nat} (hd : 3 ≤ d) {N : Nat} {a1 : Int} {h : zH} {r : Int} (hF : fX11_backlog N a1 h = some r) : zMet l yX11_backlog cX11_backlog 4 (some .int) (zrm d) D cy α n σ [.ref (α 14), .int (zi a1)] h (some (.int (zi r))) h := by
  obtain ⟨d, rfl⟩ : ∃ e, d = e + 1 := ⟨d - 1, by omega⟩
  refine z_met (by decide +kernel) (Nat.le_of_ble_eq_true rfl) (fun κ k1 k2 k3 k4 k5 k6 k7 k8 k9 C => ?_)
  subst k1 k3 k4 k5 k6 k7
  exact J_fX11_backlog C k2 hd k8 k9 hF
set_option maxRecDepth 20000 in
set_option maxHeartbeats 4000000 in
theorem J_fX11_firstAt_c4b {κ : zT} (C : zC κ RX11 cX11_firstAt 4 (some .int)) {d : Nat} (hR : zR κ = zrm (d + 1)) (hd : 3 ≤ d + 1) {N : Nat} {h : zH} {r : Int} (e1 : zrv κ = some (.int (zi r))) (e2 : zhf κ = h) {K4 : Int → Int → Int → Option Int} (hK4 : ∀ (l1 : Int) (l2 : Int) (l3 : Int), K4 l1 l2 l3 = some r → Z κ h 4 [(0, .ref (zα κ 14)), (1, .int (zi l1)), (2, .int (zi l2)), (3, .int (zi l3))] []) (l1 : Int) (l2 : Int) (l3 : Int) (hF : fX11_firstAt_c4b N h K4 l1 l2 l3 = some r) : Z κ h 4 [(0, .ref (zα κ 14)), (1, .int (zi l1)), (2, .int (zi l2)), (3, .int (zi l3))] [] := by
  unfold fX11_firstAt_c4b at hF
  refine z_iload_n (q := 5) C dX11_firstAt_4 3 rfl rfl rfl ?_
  refine z_aload_n (q := 6) C dX11_firstAt_5 0 rfl rfl rfl ?_
  refine z_getf (q := 9) C clX11 (zon C zo_14) kd_14 (k := 28) (by decide) q_1130 rfl (zfv_i kd_14 rfl) dX11_firstAt_6 rfl ?_
  refine z_icmp_ge (tgt := 53) (q := 12) C dX11_firstAt_9 (by decide) rfl (fun c1 => ?_) (fun c1 => ?_)
  · have hF := (if_pos c1).symm.trans hF
    refine z_iload_n (q := 54) C dX11_firstAt_53 2 rfl rfl rfl ?_
    have hF := Option.some.inj hF
    subst hF
    exact z_iret C e1 e2 dX11_firstAt_54
  · have hF := (if_neg c1).symm.trans hF
    refine z_aload_n (q := 13) C dX11_firstAt_12 0 rfl rfl rfl ?_
    refine z_iload_n (q := 14) C dX11_firstAt_13 3 rfl rfl rfl ?_
    refine z_iload_n (q := 15) C dX11_firstAt_14 1 rfl rfl rfl ?_
    obtain ⟨v2, ev2, hF⟩ := zb_e hF
    refine z_callV (q := 18) (o := 14) (av := [.int (zi l3), .int (zi l1)]) (rest := []) (stk2 := [.int (zi v2)]) C hR clX11 (zon C zo_14) kd_14 (M_fX11_isAt (zlv hd rfl) ev2) mY_X11_isAt q_1442 (Nat.le_of_ble_eq_true rfl) dX11_firstAt_15 rfl rfl rfl ?_
    refine z_if_eq (tgt := 45) (q := 21) C dX11_firstAt_18 (by decide) rfl (fun c3 => ?_) (fun c3 => ?_)
    · have hF := (if_pos c3).symm.trans hF
      refine z_iload_n (q := 46) C dX11_firstAt_45 2 rfl rfl rfl ?_
      refine z_istore_n (q := 47) C dX11_firstAt_46 (by decide) rfl rfl rfl ?_
      refine z_iinc (q := 50) (x := l3) C dX11_firstAt_47 (j := 3) rfl (by decide) rfl rfl ?_
      refine z_goto (q := 4) C dX11_firstAt_50 (by decide) ?_
      exact z_sub (hK4 _ _ _ hF) [2, 3, 1, 0] rfl
    · have hF := (if_neg c3).symm.trans hF
      refine z_iload_n (q := 22) C dX11_firstAt_21 2 rfl rfl rfl ?_
      refine z_iconst (q := 23) C dX11_firstAt_22 rfl ?_
      refine z_icmp_eq (tgt := 41) (q := 26) C dX11_firstAt_23 (by decide) rfl (fun c4 => ?_) (fun c4 => ?_)
      · have hF := (if_pos c4).symm.trans hF
        refine z_iload_n (q := 42) C dX11_firstAt_41 3 rfl rfl rfl ?_
        refine z_goto (q := 46) C dX11_firstAt_42 (by decide) ?_
        refine z_istore_n (q := 47) C dX11_firstAt_46 (by decide) rfl rfl rfl ?_
        refine z_iinc (q := 50) (x := l3) C dX11_firstAt_47 (j := 3) rfl (by decide) rfl rfl ?_
        refine z_goto (q := 4) C dX11_firstAt_50 (by decide) ?_
        exact z_sub (hK4 _ _ _ hF) [2, 3, 1, 0] rfl
      · have hF := (if_neg c4).symm.trans hF
        refine z_aload_n (q := 27) C dX11_firstAt_26 0 rfl rfl rfl ?_
        refine z_iload_n (q := 28) C dX11_firstAt_27 3 rfl rfl rfl ?_
        refine z_iconst (q := 29) C dX11_firstAt_28 rfl ?_
        obtain ⟨v5, ev5, hF⟩ := zb_e hF
        refine z_callV (q := 32) (o := 14) (av := [.int (zi l3), .int (zi 2)]) (rest := []) (stk2 := [.int (zi v5)]) C hR clX11 (zon C zo_14) kd_14 (M_fX11_of (zlv hd rfl) ev5) mY_X11_of q_1430 (Nat.le_of_ble_eq_true rfl) dX11_firstAt_29 rfl rfl rfl ?_
        refine z_aload_n (q := 33) C dX11_firstAt_32 0 rfl rfl rfl ?_
        refine z_iload_n (q := 34) C dX11_firstAt_33 2 rfl rfl rfl ?_
        refine z_iconst (q := 35) C dX11_firstAt_34 rfl ?_
        obtain ⟨v6, ev6, hF⟩ := zb_e hF
        refine z_callV (q := 38) (o := 14) (av := [.int (zi l2), .int (zi 2)]) (rest := [.int (zi v5)]) (stk2 := [.int (zi v6), .int (zi v5)]) C hR clX11 (zon C zo_14) kd_14 (M_fX11_of (zlv hd rfl) ev6) mY_X11_of q_1430 (Nat.le_of_ble_eq_true rfl) dX11_firstAt_35 rfl rfl rfl ?_
        refine z_icmp_ge (tgt := 45) (q := 41) C dX11_firstAt_38 (by decide) rfl (fun c7 => ?_) (fun c7 => ?_)
        · have hF := (if_pos c7).symm.trans hF
          refine z_iload_n (q := 46) C dX11_firstAt_45 2 rfl rfl rfl ?_
          refine z_istore_n (q := 47) C dX11_firstAt_46 (by decide) rfl rfl rfl ?_
          refine z_iinc (q := 50) (x := l3) C dX11_firstAt_47 (j := 3) rfl (by decide) rfl rfl ?_
          refine z_goto (q := 4) C dX11_firstAt_50 (by decide) ?_
          exact z_sub (hK4 _ _ _ hF) [2, 3, 1, 0] rfl
        · have hF := (if_neg c7).symm.trans hF
          refine z_iload_n (q := 42) C dX11_firstAt_41 3 rfl rfl rfl ?_
          refine z_goto (q := 46) C dX11_firstAt_42 (by decide) ?_
          refine z_istore_n (q := 47) C dX11_firstAt_46 (by decide) rfl rfl rfl ?_
          refine z_iinc (q := 50) (x := l3) C dX11_firstAt_47 (j := 3) rfl (by decide) rfl rfl ?_
          refine z_goto (q := 4) C dX11_firstAt_50 (by decide) ?_
          exact z_sub (hK4 _ _ _ hF) [2, 3, 1, 0] rfl
set_option maxRecDepth 20000 in
set_option maxHeartbeats 4000000 in
theorem J_fX11_firstAt_c4 {κ : zT} (C : zC κ RX11 cX11_firstAt 4 (some .int)) {d : Nat} (hR : zR κ = zrm (d + 1)) (hd : 3 ≤ d + 1) {N : Nat} {h : zH} {r : Int} (e1 : zrv κ = some (.int (zi r))) (e2 : zhf κ = h) : ∀ (k : Nat) (l1 : Int) (l2 : Int) (l3 : Int), fX11_firstAt_c4 N h k l1 l2 l3 = some r → Z κ h 4 [(0, .ref (zα κ 14)), (1, .int (zi l1)), (2, .int (zi l2)), (3, .int (zi l3))] [] := by
  intro k
  induction k with
  | zero => intro l1 l2 l3 hF; cases hF
  | succ k ih => intro l1 l2 l3 hF; exact J_fX11_firstAt_c4b C hR hd e1 e2 ih l1 l2 l3 hF
set_option maxRecDepth 20000 in
set_option maxHeartbeats 4000000 in
theorem J_fX11_firstAt {κ : zT} (C : zC κ RX11 cX11_firstAt 4 (some .int)) {d : Nat} (hR : zR κ = zrm (d + 1)) (hd : 3 ≤ d + 1) {N : Nat} {h : zH} {r : Int} (e1 : zrv κ = some (.int (zi r))) (e2 : zhf κ = h) {a1 : Int} (hF : fX11_firstAt N a1 h = some r) : Z κ h 0 [(0, .ref (zα κ 14)), (1, .int (zi a1))] [] := by
  unfold fX11_firstAt at hF
  refine z_iconst (q := 1) C dX11_firstAt_0 rfl ?_
  refine z_istore_n (q := 2) C dX11_firstAt_1 (by decide) rfl rfl rfl ?_
  refine z_iconst (q := 3) C dX11_firstAt_2 rfl ?_
  refine z_istore_n (q := 4) C dX11_firstAt_3 (by decide) rfl rfl rfl ?_
  exact z_sub (J_fX11_firstAt_c4 C hR hd e1 e2 N _ _ _ hF) [2, 3, 1, 0] rfl
set_option maxRecDepth 20000 in
set_option maxHeartbeats 4000000 in
theorem M_fX11_firstAt {l : Launch} {D : va_G} {cy : ClassId} {α : Nat → Nat} {n : Nat} {σ : zSg} {d : Nat} (hd : 3 ≤ d) {N : Nat} {a1 : Int} {h : zH} {r : Int} (hF : fX11_firstAt N a1 h = some r) : zMet l yX11_firstAt cX11_firstAt 4 (some .int) (zrm d) D cy α n σ [.ref (α 14), .int (zi a1)] h (some (.int (zi r))) h := by
  obtain ⟨d, rfl⟩ : ∃ e, d = e + 1 := ⟨d - 1, by omega⟩
  refine z_met (by decide +kernel) (Nat.le_of_ble_eq_true rfl) (fun κ k1 k2 k3 k4 k5 k6 k7 k8 k9 C => ?_)
  subst k1 k3 k4 k5 k6 k7
  exact J_fX11_firstAt C k2 hd k8 k9 hF
set_option maxRecDepth 20000 in
set_option maxHeartbeats 4000000 in
theorem J_fX11_time {κ : zT} (C : zC κ RX11 cX11_time 1 (some .int)) {d : Nat} (hR : zR κ = zrm (d + 1)) (hd : 1 ≤ d + 1) {h : zH} {r : Int} (e1 : zrv κ = some (.int (zi r))) (e2 : zhf κ = h) (hF : fX11_time h = r) : Z κ h 0 [(0, .ref (zα κ 14))] [] := by
  unfold fX11_time at hF
  refine z_aload_n (q := 1) C dX11_time_0 0 rfl rfl rfl ?_
  refine z_getf (q := 4) C clX11 (zon C zo_14) kd_14 (k := 34) (by decide) q_1136 rfl (zfv_r kd_14 rfl fr_14_34) dX11_time_1 rfl ?_
  refine z_bipush (q := 6) C dX11_time_4 bp_42 rfl ?_
  refine z_ialdc (q := 7) (j := 42) C (zon C zo_69) kd_69 zwk_42 (by rw [ln_69]; decide) dX11_time_6 rfl ?_
  refine z_bipush (q := 9) C dX11_time_7 bp_24 rfl ?_
  refine z_irem (q := 10) C (by decide) dX11_time_9 rfl ?_
  subst hF
  exact z_iret C e1 e2 dX11_time_10
set_option maxRecDepth 20000 in
set_option maxHeartbeats 4000000 in
theorem M_fX11_time {l : Launch} {D : va_G} {cy : ClassId} {α : Nat → Nat} {n : Nat} {σ : zSg} {d : Nat} (hd : 1 ≤ d) {h : zH} {r : Int} (hF : fX11_time h = r) : zMet l yX11_time cX11_time 1 (some .int) (zrm d) D cy α n σ [.ref (α 14)] h (some (.int (zi r))) h := by
  obtain ⟨d, rfl⟩ : ∃ e, d = e + 1 := ⟨d - 1, by omega⟩
  refine z_met (by decide +kernel) (Nat.le_of_ble_eq_true rfl) (fun κ k1 k2 k3 k4 k5 k6 k7 k8 k9 C => ?_)
  subst k1 k3 k4 k5 k6 k7
  exact J_fX11_time C k2 hd k8 k9 hF
set_option maxRecDepth 20000 in
set_option maxHeartbeats 4000000 in
theorem J_fX11_isOpen {κ : zT} (C : zC κ RX11 cX11_isOpen 3 (some .boolean)) {d : Nat} (hR : zR κ = zrm (d + 1)) (hd : 1 ≤ d + 1) {h : zH} {r : Int} (e1 : zrv κ = some (.int (zi r))) (e2 : zhf κ = h) {a1 : Int} {a2 : Int} (hF : fX11_isOpen a1 a2 h = some r) : Z κ h 0 [(0, .ref (zα κ 14)), (1, .int (zi a1)), (2, .int (zi a2))] [] := by
  unfold fX11_isOpen at hF
  refine z_iload_n (q := 1) C dX11_isOpen_0 2 rfl rfl rfl ?_
  refine z_aload_n (q := 2) C dX11_isOpen_1 0 rfl rfl rfl ?_
  refine z_getf (q := 5) C clX11 (zon C zo_14) kd_14 (k := 26) (by decide) q_1128 rfl (zfv_r kd_14 rfl fr_14_26) dX11_isOpen_2 rfl ?_
  refine z_iconst (q := 6) C dX11_isOpen_5 rfl ?_
  refine z_iload_n (q := 7) C dX11_isOpen_6 1 rfl rfl rfl ?_
  refine z_imul (q := 8) C dX11_isOpen_7 rfl ?_
  refine z_iconst (q := 9) C dX11_isOpen_8 rfl ?_
  refine z_iadd (q := 10) C dX11_isOpen_9 rfl ?_
  obtain ⟨g1, hF⟩ := zif_none hF
  refine z_iald (q := 11) C (zon C zo_65) kd_65 g1.1 (by rw [ln_65]; exact g1.2) dX11_isOpen_10 rfl ?_
  refine z_icmp_lt (tgt := 32) (q := 14) C dX11_isOpen_11 (by decide) rfl (fun c2 => ?_) (fun c2 => ?_)
  · have hF := (if_pos c2).symm.trans hF
    refine z_iconst (q := 33) C dX11_isOpen_32 rfl ?_
    have hF := Option.some.inj hF
    subst hF
    exact z_zret C (zb01 (Or.inl rfl)) e1 e2 dX11_isOpen_33
  · have hF := (if_neg c2).symm.trans hF
    refine z_iload_n (q := 15) C dX11_isOpen_14 2 rfl rfl rfl ?_
    refine z_aload_n (q := 16) C dX11_isOpen_15 0 rfl rfl rfl ?_
    refine z_getf (q := 19) C clX11 (zon C zo_14) kd_14 (k := 26) (by decide) q_1128 rfl (zfv_r kd_14 rfl fr_14_26) dX11_isOpen_16 rfl ?_
    refine z_iconst (q := 20) C dX11_isOpen_19 rfl ?_
    refine z_iload_n (q := 21) C dX11_isOpen_20 1 rfl rfl rfl ?_
    refine z_imul (q := 22) C dX11_isOpen_21 rfl ?_
    refine z_iconst (q := 23) C dX11_isOpen_22 rfl ?_
    refine z_iadd (q := 24) C dX11_isOpen_23 rfl ?_
    obtain ⟨g3, hF⟩ := zif_none hF
    refine z_iald (q := 25) C (zon C zo_65) kd_65 g3.1 (by rw [ln_65]; exact g3.2) dX11_isOpen_24 rfl ?_
    refine z_icmp_ge (tgt := 32) (q := 28) C dX11_isOpen_25 (by decide) rfl (fun c4 => ?_) (fun c4 => ?_)
    · have hF := (if_pos c4).symm.trans hF
      refine z_iconst (q := 33) C dX11_isOpen_32 rfl ?_
      have hF := Option.some.inj hF
      subst hF
      exact z_zret C (zb01 (Or.inl rfl)) e1 e2 dX11_isOpen_33
    · have hF := (if_neg c4).symm.trans hF
      refine z_iconst (q := 29) C dX11_isOpen_28 rfl ?_
      refine z_goto (q := 33) C dX11_isOpen_29 (by decide) ?_
      have hF := Option.some.inj hF
      subst hF
      exact z_zret C (zb01 (Or.inr rfl)) e1 e2 dX11_isOpen_33
set_option maxRecDepth 20000 in
set_option maxHeartbeats 4000000 in
theorem M_fX11_isOpen {l : Launch} {D : va_G} {cy : ClassId} {α : Nat → Nat} {n : Nat} {σ : zSg} {d : Nat} (hd : 1 ≤ d) {a1 : Int} {a2 : Int} {h : zH} {r : Int} (hF : fX11_isOpen a1 a2 h = some r) : zMet l yX11_isOpen cX11_isOpen 3 (some .boolean) (zrm d) D cy α n σ [.ref (α 14), .int (zi a1), .int (zi a2)] h (some (.int (zi r))) h := by
  obtain ⟨d, rfl⟩ : ∃ e, d = e + 1 := ⟨d - 1, by omega⟩
  refine z_met (by decide +kernel) (Nat.le_of_ble_eq_true rfl) (fun κ k1 k2 k3 k4 k5 k6 k7 k8 k9 C => ?_)
  subst k1 k3 k4 k5 k6 k7
  exact J_fX11_isOpen C k2 hd k8 k9 hF
