set_option maxRecDepth 20000 in
set_option maxHeartbeats 4000000 in
theorem J_fX11_atom_b {κ : zT} (C : zC κ RX11 cX11_atom 2 none) {d : Nat} (hR : zR κ = zrm (d + 1)) (hd : 4 ≤ d + 1) {N : Nat} {R_fX11_atom : zH → Option zH} (hM_fX11_atom : ∀ {h : zH} {g : zH} (hF : R_fX11_atom h = some g), zMet (zla κ) yX11_atom cX11_atom 2 none (zrm d) (zD κ) (zcy κ) (zα κ) (zn κ) (zσ κ) [.ref (zα κ 14)] h (none) g) {R_fX11_term : zH → Option zH} (hM_fX11_term : ∀ {h : zH} {g : zH} (hF : R_fX11_term h = some g), zMet (zla κ) yX11_term cX11_term 2 none (zrm d) (zD κ) (zcy κ) (zα κ) (zn κ) (zσ κ) [.ref (zα κ 14)] h (none) g) {R_fX11_sum : zH → Option zH} (hM_fX11_sum : ∀ {h : zH} {g : zH} (hF : R_fX11_sum h = some g), zMet (zla κ) yX11_sum cX11_sum 2 none (zrm d) (zD κ) (zcy κ) (zα κ) (zn κ) (zσ κ) [.ref (zα κ 14)] h (none) g) {r : zH} (e1 : zrv κ = none) (e2 : zhf κ = r) {h : zH} (hF : fX11_atom_b N R_fX11_atom R_fX11_term R_fX11_sum h = some r) : Z κ h 0 [(0, .ref (zα κ 14))] [] := by
  unfold fX11_atom_b at hF
  refine z_aload_n (q := 1) C dX11_atom_0 0 rfl rfl rfl ?_
  obtain ⟨v2, h1, ev2, hF⟩ := z2_e hF
  refine z_callV (q := 4) (o := 14) (av := []) (rest := []) (stk2 := [.int (zi v2)]) C hR clX11 (zon C zo_14) kd_14 (M_fX11_look (zlv hd rfl) ev2) mY_X11_look q_1279 (Nat.le_of_ble_eq_true rfl) dX11_atom_1 rfl rfl rfl ?_
  refine z_istore_n (q := 5) C dX11_atom_4 (by decide) rfl rfl rfl ?_
  refine z_iload_n (q := 6) C dX11_atom_5 0 rfl rfl rfl ?_
  refine z_callS (q := 9) (av := [.int (zi v2)]) (rest := []) (stk2 := [.int (zi (fX11_isDigit v2))]) C hR (M_fX11_isDigit (zlv hd rfl) rfl) mY_X11_isDigit q_1307 (Nat.le_of_ble_eq_true rfl) dX11_atom_6 rfl rfl rfl ?_
  refine z_if_eq (tgt := 24) (q := 12) C dX11_atom_9 (by decide) rfl (fun c3 => ?_) (fun c3 => ?_)
  · have hF := (if_pos c3).symm.trans hF
    refine z_iload_n (q := 25) C dX11_atom_24 0 rfl rfl rfl ?_
    refine z_callS (q := 28) (av := [.int (zi v2)]) (rest := []) (stk2 := [.int (zi (fX11_letterOf v2))]) C hR (M_fX11_letterOf (zlv hd rfl) rfl) mY_X11_letterOf q_1372 (Nat.le_of_ble_eq_true rfl) dX11_atom_25 rfl rfl rfl ?_
    refine z_iconst (q := 29) C dX11_atom_28 rfl ?_
    refine z_icmp_eq (tgt := 54) (q := 32) C dX11_atom_29 (by decide) rfl (fun c4 => ?_) (fun c4 => ?_)
    · have hF := (if_pos c4).symm.trans hF
      refine z_iload_n (q := 55) C dX11_atom_54 0 rfl rfl rfl ?_
      refine z_bipush (q := 57) C dX11_atom_55 bp_91 rfl ?_
      refine z_icmp_ne (tgt := 85) (q := 60) C dX11_atom_57 (by decide) rfl (fun c5 => ?_) (fun c5 => ?_)
      · have hF := (if_neg c5).symm.trans hF
        refine z_aload_n (q := 86) C dX11_atom_85 1 rfl rfl rfl ?_
        obtain ⟨h10, eh10, hF⟩ := zlet_e hF
        refine z_callV (q := 89) (o := 14) (av := []) (rest := []) (stk2 := []) C hR clX11 (zon C zo_14) kd_14 (M_fX11_bad (zlv hd rfl) eh10.symm) mY_X11_bad q_1310 (Nat.le_of_ble_eq_true rfl) dX11_atom_86 rfl rfl rfl ?_
        have hF := Option.some.inj hF
        subst hF
        exact z_vret C e1 e2 dX11_atom_89
      · have hF := (if_pos c5).symm.trans hF
        refine z_aload_n (q := 61) C dX11_atom_60 1 rfl rfl rfl ?_
        obtain ⟨h6, eh6, hF⟩ := zlet_e hF
        refine z_callV (q := 64) (o := 14) (av := []) (rest := []) (stk2 := []) C hR clX11 (zon C zo_14) kd_14 (M_fX11_opens (zlv hd rfl) eh6.symm) mY_X11_opens q_1344 (Nat.le_of_ble_eq_true rfl) dX11_atom_61 rfl rfl rfl ?_
        refine z_aload_n (q := 65) C dX11_atom_64 1 rfl rfl rfl ?_
        refine z_getf (q := 68) C clX11 (zon C zo_14) kd_14 (k := 4) (by decide) q_1106 rfl (zfv_i kd_14 rfl) dX11_atom_65 rfl ?_
        refine z_iconst (q := 69) C dX11_atom_68 rfl ?_
        refine z_icmp_ne (tgt := 89) (q := 72) C dX11_atom_69 (by decide) rfl (fun c7 => ?_) (fun c7 => ?_)
        · have hF := (if_neg c7).symm.trans hF
          have hF := Option.some.inj hF
          subst hF
          exact z_vret C e1 e2 dX11_atom_89
        · have hF := (if_pos c7).symm.trans hF
          refine z_aload_n (q := 73) C dX11_atom_72 1 rfl rfl rfl ?_
          obtain ⟨h8, eh8, hF⟩ := zb_e hF
          refine z_callV (q := 76) (o := 14) (av := []) (rest := []) (stk2 := []) C hR clX11 (zon C zo_14) kd_14 (hM_fX11_sum eh8) mY_X11_sum q_1356 (Nat.le_of_ble_eq_true rfl) dX11_atom_73 rfl rfl rfl ?_
          refine z_aload_n (q := 77) C dX11_atom_76 1 rfl rfl rfl ?_
          refine z_bipush (q := 79) C dX11_atom_77 bp_93 rfl ?_
          obtain ⟨h9, eh9, hF⟩ := zb_e hF
          refine z_callV (q := 82) (o := 14) (av := [.int (zi 93)]) (rest := []) (stk2 := []) C hR clX11 (zon C zo_14) kd_14 (M_fX11_closes (zlv hd rfl) eh9) mY_X11_closes q_1352 (Nat.le_of_ble_eq_true rfl) dX11_atom_79 rfl rfl rfl ?_
          refine z_goto (q := 89) C dX11_atom_82 (by decide) ?_
          have hF := Option.some.inj hF
          subst hF
          exact z_vret C e1 e2 dX11_atom_89
    · have hF := (if_neg c4).symm.trans hF
      refine z_aload_n (q := 33) C dX11_atom_32 1 rfl rfl rfl ?_
      refine z_dup (q := 34) C dX11_atom_33 rfl rfl ?_
      refine z_getf (q := 37) C clX11 (zon C zo_14) kd_14 (k := 3) (by decide) q_1105 rfl (zfv_i kd_14 rfl) dX11_atom_34 rfl ?_
      refine z_iconst (q := 38) C dX11_atom_37 rfl ?_
      refine z_iadd (q := 39) C dX11_atom_38 rfl ?_
      obtain ⟨h11, eh11, hF⟩ := zlet_e hF
      refine z_putf (q := 42) C clX11 (zon C zo_14) kd_14 (k := 3) (x := (h1 14 3) + 1) (by decide) q_1105 rfl rfl rfl rfl (((zfv_i kd_14 rfl)).trans (by rw [if_pos rfl])) dX11_atom_39 rfl eh11 ?_
      refine z_aload_n (q := 43) C dX11_atom_42 1 rfl rfl rfl ?_
      refine z_iconst (q := 44) C dX11_atom_43 rfl ?_
      refine z_iload_n (q := 45) C dX11_atom_44 0 rfl rfl rfl ?_
      refine z_callS (q := 48) (av := [.int (zi v2)]) (rest := [.int (zi 1), .ref (zα κ 14)]) (stk2 := [.int (zi (fX11_letterOf v2)), .int (zi 1), .ref (zα κ 14)]) C hR (M_fX11_letterOf (zlv hd rfl) rfl) mY_X11_letterOf q_1372 (Nat.le_of_ble_eq_true rfl) dX11_atom_45 rfl rfl rfl ?_
      obtain ⟨h12, eh12, hF⟩ := zb_e hF
      refine z_callV (q := 51) (o := 14) (av := [.int (zi 1), .int (zi (fX11_letterOf v2))]) (rest := []) (stk2 := []) C hR clX11 (zon C zo_14) kd_14 (M_fX11_put (zlv hd rfl) eh12) mY_X11_put q_1348 (Nat.le_of_ble_eq_true rfl) dX11_atom_48 rfl rfl rfl ?_
      refine z_goto (q := 89) C dX11_atom_51 (by decide) ?_
      have hF := Option.some.inj hF
      subst hF
      exact z_vret C e1 e2 dX11_atom_89
  · have hF := (if_neg c3).symm.trans hF
    refine z_aload_n (q := 13) C dX11_atom_12 1 rfl rfl rfl ?_
    refine z_iconst (q := 14) C dX11_atom_13 rfl ?_
    refine z_aload_n (q := 15) C dX11_atom_14 1 rfl rfl rfl ?_
    obtain ⟨v14, h13, ev14, hF⟩ := z2_e hF
    refine z_callV (q := 18) (o := 14) (av := []) (rest := [.int (zi 0), .ref (zα κ 14)]) (stk2 := [.int (zi v14), .int (zi 0), .ref (zα κ 14)]) C hR clX11 (zon C zo_14) kd_14 (M_fX11_plainNumber (zlv hd rfl) ev14) mY_X11_plainNumber q_1368 (Nat.le_of_ble_eq_true rfl) dX11_atom_15 rfl rfl rfl ?_
    obtain ⟨h15, eh15, hF⟩ := zb_e hF
    refine z_callV (q := 21) (o := 14) (av := [.int (zi 0), .int (zi v14)]) (rest := []) (stk2 := []) C hR clX11 (zon C zo_14) kd_14 (M_fX11_put (zlv hd rfl) eh15) mY_X11_put q_1348 (Nat.le_of_ble_eq_true rfl) dX11_atom_18 rfl rfl rfl ?_
    refine z_goto (q := 89) C dX11_atom_21 (by decide) ?_
    have hF := Option.some.inj hF
    subst hF
    exact z_vret C e1 e2 dX11_atom_89
set_option maxRecDepth 20000 in
set_option maxHeartbeats 4000000 in
theorem J_fX11_term_c33 {κ : zT} (C : zC κ RX11 cX11_term 2 none) {d : Nat} (hR : zR κ = zrm (d + 1)) (hd : 4 ≤ d + 1) {N : Nat} {R_fX11_atom : zH → Option zH} (hM_fX11_atom : ∀ {h : zH} {g : zH} (hF : R_fX11_atom h = some g), zMet (zla κ) yX11_atom cX11_atom 2 none (zrm d) (zD κ) (zcy κ) (zα κ) (zn κ) (zσ κ) [.ref (zα κ 14)] h (none) g) {R_fX11_term : zH → Option zH} (hM_fX11_term : ∀ {h : zH} {g : zH} (hF : R_fX11_term h = some g), zMet (zla κ) yX11_term cX11_term 2 none (zrm d) (zD κ) (zcy κ) (zα κ) (zn κ) (zσ κ) [.ref (zα κ 14)] h (none) g) {R_fX11_sum : zH → Option zH} (hM_fX11_sum : ∀ {h : zH} {g : zH} (hF : R_fX11_sum h = some g), zMet (zla κ) yX11_sum cX11_sum 2 none (zrm d) (zD κ) (zcy κ) (zα κ) (zn κ) (zσ κ) [.ref (zα κ 14)] h (none) g) {r : zH} (e1 : zrv κ = none) (e2 : zhf κ = r) {K21 : Int → zH → Option zH} (hK21 : ∀ (l1 : Int) (h : zH), K21 l1 h = some r → Z κ h 21 [(0, .ref (zα κ 14)), (1, .int (zi l1))] []) (l1 : Int) (h : zH) (hF : fX11_term_c33 N R_fX11_atom R_fX11_term R_fX11_sum K21 l1 h = some r) : Z κ h 33 [(0, .ref (zα κ 14)), (1, .int (zi l1))] [] := by
  unfold fX11_term_c33 at hF
  refine z_aload_n (q := 34) C dX11_term_33 0 rfl rfl rfl ?_
  refine z_dup (q := 35) C dX11_term_34 rfl rfl ?_
  refine z_getf (q := 38) C clX11 (zon C zo_14) kd_14 (k := 3) (by decide) q_1105 rfl (zfv_i kd_14 rfl) dX11_term_35 rfl ?_
  refine z_iconst (q := 39) C dX11_term_38 rfl ?_
  refine z_iadd (q := 40) C dX11_term_39 rfl ?_
  obtain ⟨h1, eh1, hF⟩ := zlet_e hF
  refine z_putf (q := 43) C clX11 (zon C zo_14) kd_14 (k := 3) (x := (h 14 3) + 1) (by decide) q_1105 rfl rfl rfl rfl (((zfv_i kd_14 rfl)).trans (by rw [if_pos rfl])) dX11_term_40 rfl eh1 ?_
  refine z_aload_n (q := 44) C dX11_term_43 0 rfl rfl rfl ?_
  obtain ⟨h2, eh2, hF⟩ := zb_e hF
  refine z_callV (q := 47) (o := 14) (av := []) (rest := []) (stk2 := []) C hR clX11 (zon C zo_14) kd_14 (hM_fX11_atom eh2) mY_X11_atom q_1364 (Nat.le_of_ble_eq_true rfl) dX11_term_44 rfl rfl rfl ?_
  refine z_aload_n (q := 48) C dX11_term_47 0 rfl rfl rfl ?_
  refine z_iload_n (q := 49) C dX11_term_48 1 rfl rfl rfl ?_
  refine z_bipush (q := 51) C dX11_term_49 bp_42 rfl ?_
  refine z_icmp_ne (tgt := 58) (q := 54) C dX11_term_51 (by decide) rfl (fun c3 => ?_) (fun c3 => ?_)
  · have hF := (if_neg c3).symm.trans hF
    refine z_iconst (q := 59) C dX11_term_58 rfl ?_
    refine z_iconst (q := 60) C dX11_term_59 rfl ?_
    obtain ⟨h8, eh8, hF⟩ := zb_e hF
    refine z_callV (q := 63) (o := 14) (av := [.int (zi 5), .int (zi 0)]) (rest := []) (stk2 := []) C hR clX11 (zon C zo_14) kd_14 (M_fX11_put (zlv hd rfl) eh8) mY_X11_put q_1348 (Nat.le_of_ble_eq_true rfl) dX11_term_60 rfl rfl rfl ?_
    refine z_aload_n (q := 64) C dX11_term_63 0 rfl rfl rfl ?_
    refine z_getf (q := 67) C clX11 (zon C zo_14) kd_14 (k := 4) (by decide) q_1106 rfl (zfv_i kd_14 rfl) dX11_term_64 rfl ?_
    refine z_iconst (q := 68) C dX11_term_67 rfl ?_
    refine z_icmp_ne (tgt := 78) (q := 71) C dX11_term_68 (by decide) rfl (fun c9 => ?_) (fun c9 => ?_)
    · have hF := (if_neg c9).symm.trans hF
      refine z_iconst (q := 79) C dX11_term_78 rfl ?_
      refine z_istore_n (q := 80) C dX11_term_79 (by decide) rfl rfl rfl ?_
      refine z_goto (q := 21) C dX11_term_80 (by decide) ?_
      exact z_sub (hK21 _ _ hF) [1, 0] rfl
    · have hF := (if_pos c9).symm.trans hF
      refine z_aload_n (q := 72) C dX11_term_71 0 rfl rfl rfl ?_
      obtain ⟨v11, h10, ev11, hF⟩ := z2_e hF
      refine z_callV (q := 75) (o := 14) (av := []) (rest := []) (stk2 := [.int (zi v11)]) C hR clX11 (zon C zo_14) kd_14 (M_fX11_look (zlv hd rfl) ev11) mY_X11_look q_1279 (Nat.le_of_ble_eq_true rfl) dX11_term_72 rfl rfl rfl ?_
      refine z_goto (q := 79) C dX11_term_75 (by decide) ?_
      refine z_istore_n (q := 80) C dX11_term_79 (by decide) rfl rfl rfl ?_
      refine z_goto (q := 21) C dX11_term_80 (by decide) ?_
      exact z_sub (hK21 _ _ hF) [1, 0] rfl
  · have hF := (if_pos c3).symm.trans hF
    refine z_iconst (q := 55) C dX11_term_54 rfl ?_
    refine z_goto (q := 59) C dX11_term_55 (by decide) ?_
    refine z_iconst (q := 60) C dX11_term_59 rfl ?_
    obtain ⟨h4, eh4, hF⟩ := zb_e hF
    refine z_callV (q := 63) (o := 14) (av := [.int (zi 4), .int (zi 0)]) (rest := []) (stk2 := []) C hR clX11 (zon C zo_14) kd_14 (M_fX11_put (zlv hd rfl) eh4) mY_X11_put q_1348 (Nat.le_of_ble_eq_true rfl) dX11_term_60 rfl rfl rfl ?_
    refine z_aload_n (q := 64) C dX11_term_63 0 rfl rfl rfl ?_
    refine z_getf (q := 67) C clX11 (zon C zo_14) kd_14 (k := 4) (by decide) q_1106 rfl (zfv_i kd_14 rfl) dX11_term_64 rfl ?_
    refine z_iconst (q := 68) C dX11_term_67 rfl ?_
    refine z_icmp_ne (tgt := 78) (q := 71) C dX11_term_68 (by decide) rfl (fun c5 => ?_) (fun c5 => ?_)
    · have hF := (if_neg c5).symm.trans hF
      refine z_iconst (q := 79) C dX11_term_78 rfl ?_
      refine z_istore_n (q := 80) C dX11_term_79 (by decide) rfl rfl rfl ?_
      refine z_goto (q := 21) C dX11_term_80 (by decide) ?_
      exact z_sub (hK21 _ _ hF) [1, 0] rfl
    · have hF := (if_pos c5).symm.trans hF
      refine z_aload_n (q := 72) C dX11_term_71 0 rfl rfl rfl ?_
      obtain ⟨v7, h6, ev7, hF⟩ := z2_e hF
      refine z_callV (q := 75) (o := 14) (av := []) (rest := []) (stk2 := [.int (zi v7)]) C hR clX11 (zon C zo_14) kd_14 (M_fX11_look (zlv hd rfl) ev7) mY_X11_look q_1279 (Nat.le_of_ble_eq_true rfl) dX11_term_72 rfl rfl rfl ?_
      refine z_goto (q := 79) C dX11_term_75 (by decide) ?_
      refine z_istore_n (q := 80) C dX11_term_79 (by decide) rfl rfl rfl ?_
      refine z_goto (q := 21) C dX11_term_80 (by decide) ?_
      exact z_sub (hK21 _ _ hF) [1, 0] rfl
set_option maxRecDepth 20000 in
set_option maxHeartbeats 4000000 in
theorem J_fX11_term_c21b {κ : zT} (C : zC κ RX11 cX11_term 2 none) {d : Nat} (hR : zR κ = zrm (d + 1)) (hd : 4 ≤ d + 1) {N : Nat} {R_fX11_atom : zH → Option zH} (hM_fX11_atom : ∀ {h : zH} {g : zH} (hF : R_fX11_atom h = some g), zMet (zla κ) yX11_atom cX11_atom 2 none (zrm d) (zD κ) (zcy κ) (zα κ) (zn κ) (zσ κ) [.ref (zα κ 14)] h (none) g) {R_fX11_term : zH → Option zH} (hM_fX11_term : ∀ {h : zH} {g : zH} (hF : R_fX11_term h = some g), zMet (zla κ) yX11_term cX11_term 2 none (zrm d) (zD κ) (zcy κ) (zα κ) (zn κ) (zσ κ) [.ref (zα κ 14)] h (none) g) {R_fX11_sum : zH → Option zH} (hM_fX11_sum : ∀ {h : zH} {g : zH} (hF : R_fX11_sum h = some g), zMet (zla κ) yX11_sum cX11_sum 2 none (zrm d) (zD κ) (zcy κ) (zα κ) (zn κ) (zσ κ) [.ref (zα κ 14)] h (none) g) {r : zH} (e1 : zrv κ = none) (e2 : zhf κ = r) {K21 : Int → zH → Option zH} (hK21 : ∀ (l1 : Int) (h : zH), K21 l1 h = some r → Z κ h 21 [(0, .ref (zα κ 14)), (1, .int (zi l1))] []) (l1 : Int) (h : zH) (hF : fX11_term_c21b N R_fX11_atom R_fX11_term R_fX11_sum K21 l1 h = some r) : Z κ h 21 [(0, .ref (zα κ 14)), (1, .int (zi l1))] [] := by
  unfold fX11_term_c21b at hF
  refine z_iload_n (q := 22) C dX11_term_21 1 rfl rfl rfl ?_
  refine z_bipush (q := 24) C dX11_term_22 bp_42 rfl ?_
  refine z_icmp_eq (tgt := 33) (q := 27) C dX11_term_24 (by decide) rfl (fun c1 => ?_) (fun c1 => ?_)
  · have hF := (if_pos c1).symm.trans hF
    exact z_sub (J_fX11_term_c33 C hR hd hM_fX11_atom hM_fX11_term hM_fX11_sum e1 e2 hK21 _ _ hF) [0, 1] rfl
  · have hF := (if_neg c1).symm.trans hF
    refine z_iload_n (q := 28) C dX11_term_27 1 rfl rfl rfl ?_
    refine z_bipush (q := 30) C dX11_term_28 bp_47 rfl ?_
    refine z_icmp_ne (tgt := 83) (q := 33) C dX11_term_30 (by decide) rfl (fun c2 => ?_) (fun c2 => ?_)
    · have hF := (if_neg c2).symm.trans hF
      have hF := Option.some.inj hF
      subst hF
      exact z_vret C e1 e2 dX11_term_83
    · have hF := (if_pos c2).symm.trans hF
      exact z_sub (J_fX11_term_c33 C hR hd hM_fX11_atom hM_fX11_term hM_fX11_sum e1 e2 hK21 _ _ hF) [0, 1] rfl
set_option maxRecDepth 20000 in
set_option maxHeartbeats 4000000 in
theorem J_fX11_term_c21 {κ : zT} (C : zC κ RX11 cX11_term 2 none) {d : Nat} (hR : zR κ = zrm (d + 1)) (hd : 4 ≤ d + 1) {N : Nat} {R_fX11_atom : zH → Option zH} (hM_fX11_atom : ∀ {h : zH} {g : zH} (hF : R_fX11_atom h = some g), zMet (zla κ) yX11_atom cX11_atom 2 none (zrm d) (zD κ) (zcy κ) (zα κ) (zn κ) (zσ κ) [.ref (zα κ 14)] h (none) g) {R_fX11_term : zH → Option zH} (hM_fX11_term : ∀ {h : zH} {g : zH} (hF : R_fX11_term h = some g), zMet (zla κ) yX11_term cX11_term 2 none (zrm d) (zD κ) (zcy κ) (zα κ) (zn κ) (zσ κ) [.ref (zα κ 14)] h (none) g) {R_fX11_sum : zH → Option zH} (hM_fX11_sum : ∀ {h : zH} {g : zH} (hF : R_fX11_sum h = some g), zMet (zla κ) yX11_sum cX11_sum 2 none (zrm d) (zD κ) (zcy κ) (zα κ) (zn κ) (zσ κ) [.ref (zα κ 14)] h (none) g) {r : zH} (e1 : zrv κ = none) (e2 : zhf κ = r) : ∀ (k : Nat) (l1 : Int) (h : zH), fX11_term_c21 N R_fX11_atom R_fX11_term R_fX11_sum k l1 h = some r → Z κ h 21 [(0, .ref (zα κ 14)), (1, .int (zi l1))] [] := by
  intro k
  induction k with
  | zero => intro l1 h hF; cases hF
  | succ k ih => intro l1 h hF; exact J_fX11_term_c21b C hR hd hM_fX11_atom hM_fX11_term hM_fX11_sum e1 e2 ih l1 h hF
set_option maxRecDepth 20000 in
set_option maxHeartbeats 4000000 in
theorem J_fX11_term_b {κ : zT} (C : zC κ RX11 cX11_term 2 none) {d : Nat} (hR : zR κ = zrm (d + 1)) (hd : 4 ≤ d + 1) {N : Nat} {R_fX11_atom : zH → Option zH} (hM_fX11_atom : ∀ {h : zH} {g : zH} (hF : R_fX11_atom h = some g), zMet (zla κ) yX11_atom cX11_atom 2 none (zrm d) (zD κ) (zcy κ) (zα κ) (zn κ) (zσ κ) [.ref (zα κ 14)] h (none) g) {R_fX11_term : zH → Option zH} (hM_fX11_term : ∀ {h : zH} {g : zH} (hF : R_fX11_term h = some g), zMet (zla κ) yX11_term cX11_term 2 none (zrm d) (zD κ) (zcy κ) (zα κ) (zn κ) (zσ κ) [.ref (zα κ 14)] h (none) g) {R_fX11_sum : zH → Option zH} (hM_fX11_sum : ∀ {h : zH} {g : zH} (hF : R_fX11_sum h = some g), zMet (zla κ) yX11_sum cX11_sum 2 none (zrm d) (zD κ) (zcy κ) (zα κ) (zn κ) (zσ κ) [.ref (zα κ 14)] h (none) g) {r : zH} (e1 : zrv κ = none) (e2 : zhf κ = r) {h : zH} (hF : fX11_term_b N R_fX11_atom R_fX11_term R_fX11_sum h = some r) : Z κ h 0 [(0, .ref (zα κ 14))] [] := by
  unfold fX11_term_b at hF
  refine z_aload_n (q := 1) C dX11_term_0 0 rfl rfl rfl ?_
  obtain ⟨h1, eh1, hF⟩ := zb_e hF
  refine z_callV (q := 4) (o := 14) (av := []) (rest := []) (stk2 := []) C hR clX11 (zon C zo_14) kd_14 (hM_fX11_atom eh1) mY_X11_atom q_1364 (Nat.le_of_ble_eq_true rfl) dX11_term_1 rfl rfl rfl ?_
  refine z_aload_n (q := 5) C dX11_term_4 0 rfl rfl rfl ?_
  refine z_getf (q := 8) C clX11 (zon C zo_14) kd_14 (k := 4) (by decide) q_1106 rfl (zfv_i kd_14 rfl) dX11_term_5 rfl ?_
  refine z_iconst (q := 9) C dX11_term_8 rfl ?_
  refine z_icmp_ne (tgt := 19) (q := 12) C dX11_term_9 (by decide) rfl (fun c2 => ?_) (fun c2 => ?_)
  · have hF := (if_neg c2).symm.trans hF
    refine z_iconst (q := 20) C dX11_term_19 rfl ?_
    refine z_istore_n (q := 21) C dX11_term_20 (by decide) rfl rfl rfl ?_
    exact z_sub (J_fX11_term_c21 C hR hd hM_fX11_atom hM_fX11_term hM_fX11_sum e1 e2 N _ _ hF) [1, 0] rfl
  · have hF := (if_pos c2).symm.trans hF
    refine z_aload_n (q := 13) C dX11_term_12 0 rfl rfl rfl ?_
    obtain ⟨v4, h3, ev4, hF⟩ := z2_e hF
    refine z_callV (q := 16) (o := 14) (av := []) (rest := []) (stk2 := [.int (zi v4)]) C hR clX11 (zon C zo_14) kd_14 (M_fX11_look (zlv hd rfl) ev4) mY_X11_look q_1279 (Nat.le_of_ble_eq_true rfl) dX11_term_13 rfl rfl rfl ?_
    refine z_goto (q := 20) C dX11_term_16 (by decide) ?_
    refine z_istore_n (q := 21) C dX11_term_20 (by decide) rfl rfl rfl ?_
    exact z_sub (J_fX11_term_c21 C hR hd hM_fX11_atom hM_fX11_term hM_fX11_sum e1 e2 N _ _ hF) [1, 0] rfl
set_option maxRecDepth 20000 in
set_option maxHeartbeats 4000000 in
theorem J_fX11_sum_c33 {κ : zT} (C : zC κ RX11 cX11_sum 2 none) {d : Nat} (hR : zR κ = zrm (d + 1)) (hd : 4 ≤ d + 1) {N : Nat} {R_fX11_atom : zH → Option zH} (hM_fX11_atom : ∀ {h : zH} {g : zH} (hF : R_fX11_atom h = some g), zMet (zla κ) yX11_atom cX11_atom 2 none (zrm d) (zD κ) (zcy κ) (zα κ) (zn κ) (zσ κ) [.ref (zα κ 14)] h (none) g) {R_fX11_term : zH → Option zH} (hM_fX11_term : ∀ {h : zH} {g : zH} (hF : R_fX11_term h = some g), zMet (zla κ) yX11_term cX11_term 2 none (zrm d) (zD κ) (zcy κ) (zα κ) (zn κ) (zσ κ) [.ref (zα κ 14)] h (none) g) {R_fX11_sum : zH → Option zH} (hM_fX11_sum : ∀ {h : zH} {g : zH} (hF : R_fX11_sum h = some g), zMet (zla κ) yX11_sum cX11_sum 2 none (zrm d) (zD κ) (zcy κ) (zα κ) (zn κ) (zσ κ) [.ref (zα κ 14)] h (none) g) {r : zH} (e1 : zrv κ = none) (e2 : zhf κ = r) {K21 : Int → zH → Option zH} (hK21 : ∀ (l1 : Int) (h : zH), K21 l1 h = some r → Z κ h 21 [(0, .ref (zα κ 14)), (1, .int (zi l1))] []) (l1 : Int) (h : zH) (hF : fX11_sum_c33 N R_fX11_atom R_fX11_term R_fX11_sum K21 l1 h = some r) : Z κ h 33 [(0, .ref (zα κ 14)), (1, .int (zi l1))] [] := by
  unfold fX11_sum_c33 at hF
  refine z_aload_n (q := 34) C dX11_sum_33 0 rfl rfl rfl ?_
  refine z_dup (q := 35) C dX11_sum_34 rfl rfl ?_
  refine z_getf (q := 38) C clX11 (zon C zo_14) kd_14 (k := 3) (by decide) q_1105 rfl (zfv_i kd_14 rfl) dX11_sum_35 rfl ?_
  refine z_iconst (q := 39) C dX11_sum_38 rfl ?_
  refine z_iadd (q := 40) C dX11_sum_39 rfl ?_
  obtain ⟨h1, eh1, hF⟩ := zlet_e hF
  refine z_putf (q := 43) C clX11 (zon C zo_14) kd_14 (k := 3) (x := (h 14 3) + 1) (by decide) q_1105 rfl rfl rfl rfl (((zfv_i kd_14 rfl)).trans (by rw [if_pos rfl])) dX11_sum_40 rfl eh1 ?_
  refine z_aload_n (q := 44) C dX11_sum_43 0 rfl rfl rfl ?_
  obtain ⟨h2, eh2, hF⟩ := zb_e hF
  refine z_callV (q := 47) (o := 14) (av := []) (rest := []) (stk2 := []) C hR clX11 (zon C zo_14) kd_14 (hM_fX11_term eh2) mY_X11_term q_1360 (Nat.le_of_ble_eq_true rfl) dX11_sum_44 rfl rfl rfl ?_
  refine z_aload_n (q := 48) C dX11_sum_47 0 rfl rfl rfl ?_
  refine z_iload_n (q := 49) C dX11_sum_48 1 rfl rfl rfl ?_
  refine z_bipush (q := 51) C dX11_sum_49 bp_43 rfl ?_
  refine z_icmp_ne (tgt := 58) (q := 54) C dX11_sum_51 (by decide) rfl (fun c3 => ?_) (fun c3 => ?_)
  · have hF := (if_neg c3).symm.trans hF
    refine z_iconst (q := 59) C dX11_sum_58 rfl ?_
    refine z_iconst (q := 60) C dX11_sum_59 rfl ?_
    obtain ⟨h8, eh8, hF⟩ := zb_e hF
    refine z_callV (q := 63) (o := 14) (av := [.int (zi 3), .int (zi 0)]) (rest := []) (stk2 := []) C hR clX11 (zon C zo_14) kd_14 (M_fX11_put (zlv hd rfl) eh8) mY_X11_put q_1348 (Nat.le_of_ble_eq_true rfl) dX11_sum_60 rfl rfl rfl ?_
    refine z_aload_n (q := 64) C dX11_sum_63 0 rfl rfl rfl ?_
    refine z_getf (q := 67) C clX11 (zon C zo_14) kd_14 (k := 4) (by decide) q_1106 rfl (zfv_i kd_14 rfl) dX11_sum_64 rfl ?_
    refine z_iconst (q := 68) C dX11_sum_67 rfl ?_
    refine z_icmp_ne (tgt := 78) (q := 71) C dX11_sum_68 (by decide) rfl (fun c9 => ?_) (fun c9 => ?_)
    · have hF := (if_neg c9).symm.trans hF
      refine z_iconst (q := 79) C dX11_sum_78 rfl ?_
      refine z_istore_n (q := 80) C dX11_sum_79 (by decide) rfl rfl rfl ?_
      refine z_goto (q := 21) C dX11_sum_80 (by decide) ?_
      exact z_sub (hK21 _ _ hF) [1, 0] rfl
    · have hF := (if_pos c9).symm.trans hF
      refine z_aload_n (q := 72) C dX11_sum_71 0 rfl rfl rfl ?_
      obtain ⟨v11, h10, ev11, hF⟩ := z2_e hF
      refine z_callV (q := 75) (o := 14) (av := []) (rest := []) (stk2 := [.int (zi v11)]) C hR clX11 (zon C zo_14) kd_14 (M_fX11_look (zlv hd rfl) ev11) mY_X11_look q_1279 (Nat.le_of_ble_eq_true rfl) dX11_sum_72 rfl rfl rfl ?_
      refine z_goto (q := 79) C dX11_sum_75 (by decide) ?_
      refine z_istore_n (q := 80) C dX11_sum_79 (by decide) rfl rfl rfl ?_
      refine z_goto (q := 21) C dX11_sum_80 (by decide) ?_
      exact z_sub (hK21 _ _ hF) [1, 0] rfl
  · have hF := (if_pos c3).symm.trans hF
    refine z_iconst (q := 55) C dX11_sum_54 rfl ?_
    refine z_goto (q := 59) C dX11_sum_55 (by decide) ?_
    refine z_iconst (q := 60) C dX11_sum_59 rfl ?_
    obtain ⟨h4, eh4, hF⟩ := zb_e hF
    refine z_callV (q := 63) (o := 14) (av := [.int (zi 2), .int (zi 0)]) (rest := []) (stk2 := []) C hR clX11 (zon C zo_14) kd_14 (M_fX11_put (zlv hd rfl) eh4) mY_X11_put q_1348 (Nat.le_of_ble_eq_true rfl) dX11_sum_60 rfl rfl rfl ?_
    refine z_aload_n (q := 64) C dX11_sum_63 0 rfl rfl rfl ?_
    refine z_getf (q := 67) C clX11 (zon C zo_14) kd_14 (k := 4) (by decide) q_1106 rfl (zfv_i kd_14 rfl) dX11_sum_64 rfl ?_
    refine z_iconst (q := 68) C dX11_sum_67 rfl ?_
    refine z_icmp_ne (tgt := 78) (q := 71) C dX11_sum_68 (by decide) rfl (fun c5 => ?_) (fun c5 => ?_)
    · have hF := (if_neg c5).symm.trans hF
      refine z_iconst (q := 79) C dX11_sum_78 rfl ?_
      refine z_istore_n (q := 80) C dX11_sum_79 (by decide) rfl rfl rfl ?_
      refine z_goto (q := 21) C dX11_sum_80 (by decide) ?_
      exact z_sub (hK21 _ _ hF) [1, 0] rfl
    · have hF := (if_pos c5).symm.trans hF
      refine z_aload_n (q := 72) C dX11_sum_71 0 rfl rfl rfl ?_
      obtain ⟨v7, h6, ev7, hF⟩ := z2_e hF
      refine z_callV (q := 75) (o := 14) (av := []) (rest := []) (stk2 := [.int (zi v7)]) C hR clX11 (zon C zo_14) kd_14 (M_fX11_look (zlv hd rfl) ev7) mY_X11_look q_1279 (Nat.le_of_ble_eq_true rfl) dX11_sum_72 rfl rfl rfl ?_
      refine z_goto (q := 79) C dX11_sum_75 (by decide) ?_
      refine z_istore_n (q := 80) C dX11_sum_79 (by decide) rfl rfl rfl ?_
      refine z_goto (q := 21) C dX11_sum_80 (by decide) ?_
      exact z_sub (hK21 _ _ hF) [1, 0] rfl
set_option maxRecDepth 20000 in
set_option maxHeartbeats 4000000 in
theorem J_fX11_sum_c21b {κ : zT} (C : zC κ RX11 cX11_sum 2 none) {d : Nat} (hR : zR κ = zrm (d + 1)) (hd : 4 ≤ d + 1) {N : Nat} {R_fX11_atom : zH → Option zH} (hM_fX11_atom : ∀ {h : zH} {g : zH} (hF : R_fX11_atom h = some g), zMet (zla κ) yX11_atom cX11_atom 2 none (zrm d) (zD κ) (zcy κ) (zα κ) (zn κ) (zσ κ) [.ref (zα κ 14)] h (none) g) {R_fX11_term : zH → Option zH} (hM_fX11_term : ∀ {h : zH} {g : zH} (hF : R_fX11_term h = some g), zMet (zla κ) yX11_term cX11_term 2 none (zrm d) (zD κ) (zcy κ) (zα κ) (zn κ) (zσ κ) [.ref (zα κ 14)] h (none) g) {R_fX11_sum : zH → Option zH} (hM_fX11_sum : ∀ {h : zH} {g : zH} (hF : R_fX11_sum h = some g), zMet (zla κ) yX11_sum cX11_sum 2 none (zrm d) (zD κ) (zcy κ) (zα κ) (zn κ) (zσ κ) [.ref (zα κ 14)] h (none) g) {r : zH} (e1 : zrv κ = none) (e2 : zhf κ = r) {K21 : Int → zH → Option zH} (hK21 : ∀ (l1 : Int) (h : zH), K21 l1 h = some r → Z κ h 21 [(0, .ref (zα κ 14)), (1, .int (zi l1))] []) (l1 : Int) (h : zH) (hF : fX11_sum_c21b N R_fX11_atom R_fX11_term R_fX11_sum K21 l1 h = some r) : Z κ h 21 [(0, .ref (zα κ 14)), (1, .int (zi l1))] [] := by
  unfold fX11_sum_c21b at hF
  refine z_iload_n (q := 22) C dX11_sum_21 1 rfl rfl rfl ?_
  refine z_bipush (q := 24) C dX11_sum_22 bp_43 rfl ?_
  refine z_icmp_eq (tgt := 33) (q := 27) C dX11_sum_24 (by decide) rfl (fun c1 => ?_) (fun c1 => ?_)
  · have hF := (if_pos c1).symm.trans hF
    exact z_sub (J_fX11_sum_c33 C hR hd hM_fX11_atom hM_fX11_term hM_fX11_sum e1 e2 hK21 _ _ hF) [0, 1] rfl
  · have hF := (if_neg c1).symm.trans hF
    refine z_iload_n (q := 28) C dX11_sum_27 1 rfl rfl rfl ?_
    refine z_bipush (q := 30) C dX11_sum_28 bp_45 rfl ?_
    refine z_icmp_ne (tgt := 83) (q := 33) C dX11_sum_30 (by decide) rfl (fun c2 => ?_) (fun c2 => ?_)
    · have hF := (if_neg c2).symm.trans hF
      have hF := Option.some.inj hF
      subst hF
      exact z_vret C e1 e2 dX11_sum_83
    · have hF := (if_pos c2).symm.trans hF
      exact z_sub (J_fX11_sum_c33 C hR hd hM_fX11_atom hM_fX11_term hM_fX11_sum e1 e2 hK21 _ _ hF) [0, 1] rfl
set_option maxRecDepth 20000 in
set_option maxHeartbeats 4000000 in
theorem J_fX11_sum_c21 {κ : zT} (C : zC κ RX11 cX11_sum 2 none) {d : Nat} (hR : zR κ = zrm (d + 1)) (hd : 4 ≤ d + 1) {N : Nat} {R_fX11_atom : zH → Option zH} (hM_fX11_atom : ∀ {h : zH} {g : zH} (hF : R_fX11_atom h = some g), zMet (zla κ) yX11_atom cX11_atom 2 none (zrm d) (zD κ) (zcy κ) (zα κ) (zn κ) (zσ κ) [.ref (zα κ 14)] h (none) g) {R_fX11_term : zH → Option zH} (hM_fX11_term : ∀ {h : zH} {g : zH} (hF : R_fX11_term h = some g), zMet (zla κ) yX11_term cX11_term 2 none (zrm d) (zD κ) (zcy κ) (zα κ) (zn κ) (zσ κ) [.ref (zα κ 14)] h (none) g) {R_fX11_sum : zH → Option zH} (hM_fX11_sum : ∀ {h : zH} {g : zH} (hF : R_fX11_sum h = some g), zMet (zla κ) yX11_sum cX11_sum 2 none (zrm d) (zD κ) (zcy κ) (zα κ) (zn κ) (zσ κ) [.ref (zα κ 14)] h (none) g) {r : zH} (e1 : zrv κ = none) (e2 : zhf κ = r) : ∀ (k : Nat) (l1 : Int) (h : zH), fX11_sum_c21 N R_fX11_atom R_fX11_term R_fX11_sum k l1 h = some r → Z κ h 21 [(0, .ref (zα κ 14)), (1, .int (zi l1))] [] := by
  intro k
  induction k with
  | zero => intro l1 h hF; cases hF
  | succ k ih => intro l1 h hF; exact J_fX11_sum_c21b C hR hd hM_fX11_atom hM_fX11_term hM_fX11_sum e1 e2 ih l1 h hF
set_option maxRecDepth 20000 in
set_option maxHeartbeats 4000000 in
theorem J_fX11_sum_b {κ : zT} (C : zC κ RX11 cX11_sum 2 none) {d : Nat} (hR : zR κ = zrm (d + 1)) (hd : 4 ≤ d + 1) {N : Nat} {R_fX11_atom : zH → Option zH} (hM_fX11_atom : ∀ {h : zH} {g : zH} (hF : R_fX11_atom h = some g), zMet (zla κ) yX11_atom cX11_atom 2 none (zrm d) (zD κ) (zcy κ) (zα κ) (zn κ) (zσ κ) [.ref (zα κ 14)] h (none) g) {R_fX11_term : zH → Option zH} (hM_fX11_term : ∀ {h : zH} {g : zH} (hF : R_fX11_term h = some g), zMet (zla κ) yX11_term cX11_term 2 none (zrm d) (zD κ) (zcy κ) (zα κ) (zn κ) (zσ κ) [.ref (zα κ 14)] h (none) g) {R_fX11_sum : zH → Option zH} (hM_fX11_sum : ∀ {h : zH} {g : zH} (hF : R_fX11_sum h = some g), zMet (zla κ) yX11_sum cX11_sum 2 none (zrm d) (zD κ) (zcy κ) (zα κ) (zn κ) (zσ κ) [.ref (zα κ 14)] h (none) g) {r : zH} (e1 : zrv κ = none) (e2 : zhf κ = r) {h : zH} (hF : fX11_sum_b N R_fX11_atom R_fX11_term R_fX11_sum h = some r) : Z κ h 0 [(0, .ref (zα κ 14))] [] := by
  unfold fX11_sum_b at hF
  refine z_aload_n (q := 1) C dX11_sum_0 0 rfl rfl rfl ?_
  obtain ⟨h1, eh1, hF⟩ := zb_e hF
  refine z_callV (q := 4) (o := 14) (av := []) (rest := []) (stk2 := []) C hR clX11 (zon C zo_14) kd_14 (hM_fX11_term eh1) mY_X11_term q_1360 (Nat.le_of_ble_eq_true rfl) dX11_sum_1 rfl rfl rfl ?_
  refine z_aload_n (q := 5) C dX11_sum_4 0 rfl rfl rfl ?_
  refine z_getf (q := 8) C clX11 (zon C zo_14) kd_14 (k := 4) (by decide) q_1106 rfl (zfv_i kd_14 rfl) dX11_sum_5 rfl ?_
  refine z_iconst (q := 9) C dX11_sum_8 rfl ?_
  refine z_icmp_ne (tgt := 19) (q := 12) C dX11_sum_9 (by decide) rfl (fun c2 => ?_) (fun c2 => ?_)
  · have hF := (if_neg c2).symm.trans hF
    refine z_iconst (q := 20) C dX11_sum_19 rfl ?_
    refine z_istore_n (q := 21) C dX11_sum_20 (by decide) rfl rfl rfl ?_
    exact z_sub (J_fX11_sum_c21 C hR hd hM_fX11_atom hM_fX11_term hM_fX11_sum e1 e2 N _ _ hF) [1, 0] rfl
  · have hF := (if_pos c2).symm.trans hF
    refine z_aload_n (q := 13) C dX11_sum_12 0 rfl rfl rfl ?_
    obtain ⟨v4, h3, ev4, hF⟩ := z2_e hF
    refine z_callV (q := 16) (o := 14) (av := []) (rest := []) (stk2 := [.int (zi v4)]) C hR clX11 (zon C zo_14) kd_14 (M_fX11_look (zlv hd rfl) ev4) mY_X11_look q_1279 (Nat.le_of_ble_eq_true rfl) dX11_sum_13 rfl rfl rfl ?_
    refine z_goto (q := 20) C dX11_sum_16 (by decide) ?_
    refine z_istore_n (q := 21) C dX11_sum_20 (by decide) rfl rfl rfl ?_
    exact z_sub (J_fX11_sum_c21 C hR hd hM_fX11_atom hM_fX11_term hM_fX11_sum e1 e2 N _ _ hF) [1, 0] rfl
set_option maxRecDepth 20000 in
set_option maxHeartbeats 4000000 in
theorem MG_fX11_atom {N : Nat} : ∀ (k : Nat) {l : Launch} {D : va_G} {cy : ClassId} {α : Nat → Nat} {n : Nat} {σ : zSg} {d : Nat} (hd : 3 + k ≤ d), (∀ {h : zH} {g : zH} (hF : ((fG_X11_atom N k).1) h = some g), zMet l yX11_atom cX11_atom 2 none (zrm d) D cy α n σ [.ref (α 14)] h (none) g) ∧ (∀ {h : zH} {g : zH} (hF : ((fG_X11_atom N k).2.1) h = some g), zMet l yX11_term cX11_term 2 none (zrm d) D cy α n σ [.ref (α 14)] h (none) g) ∧ (∀ {h : zH} {g : zH} (hF : ((fG_X11_atom N k).2.2) h = some g), zMet l yX11_sum cX11_sum 2 none (zrm d) D cy α n σ [.ref (α 14)] h (none) g) := by
  intro k
  induction k with
  | zero => intro l D cy α n σ d hd; exact ⟨(by intros; rename_i hF; cases hF), (by intros; rename_i hF; cases hF), (by intros; rename_i hF; cases hF)⟩
  | succ k ih =>
    intro l D cy α n σ d hd
    obtain ⟨d, rfl⟩ : ∃ e, d = e + 1 := ⟨d - 1, by omega⟩
    refine ⟨?_, ?_, ?_⟩
    · intro h g hF
      refine z_met (by decide +kernel) (Nat.le_of_ble_eq_true rfl) (fun κ k1 k2 k3 k4 k5 k6 k7 k8 k9 C => ?_)
      subst k1 k3 k4 k5 k6 k7
      exact J_fX11_atom_b (N := N) C k2 (by omega) ((ih (by omega : 3 + k ≤ d)).1) ((ih (by omega : 3 + k ≤ d)).2.1) ((ih (by omega : 3 + k ≤ d)).2.2) k8 k9 hF
    · intro h g hF
      refine z_met (by decide +kernel) (Nat.le_of_ble_eq_true rfl) (fun κ k1 k2 k3 k4 k5 k6 k7 k8 k9 C => ?_)
      subst k1 k3 k4 k5 k6 k7
      exact J_fX11_term_b (N := N) C k2 (by omega) ((ih (by omega : 3 + k ≤ d)).1) ((ih (by omega : 3 + k ≤ d)).2.1) ((ih (by omega : 3 + k ≤ d)).2.2) k8 k9 hF
    · intro h g hF
      refine z_met (by decide +kernel) (Nat.le_of_ble_eq_true rfl) (fun κ k1 k2 k3 k4 k5 k6 k7 k8 k9 C => ?_)
      subst k1 k3 k4 k5 k6 k7
      exact J_fX11_sum_b (N := N) C k2 (by omega) ((ih (by omega : 3 + k ≤ d)).1) ((ih (by omega : 3 + k ≤ d)).2.1) ((ih (by omega : 3 + k ≤ d)).2.2) k8 k9 hF
set_option maxRecDepth 20000 in
set_option maxHeartbeats 4000000 in
theorem M_fX11_atom {l : Launch} {D : va_G} {cy : ClassId} {α : Nat → Nat} {n : Nat} {σ : zSg} {d : Nat} (hd : 63 ≤ d) {N : Nat} {h : zH} {g : zH} (hF : fX11_atom N h = some g) : zMet l yX11_atom cX11_atom 2 none (zrm d) D cy α n σ [.ref (α 14)] h (none) g :=
  (MG_fX11_atom 60 (by omega : 3 + 60 ≤ d)).1 hF
set_option maxRecDepth 20000 in
set_option maxHeartbeats 4000000 in
theorem M_fX11_term {l : Launch} {D : va_G} {cy : ClassId} {α : Nat → Nat} {n : Nat} {σ : zSg} {d : Nat} (hd : 63 ≤ d) {N : Nat} {h : zH} {g : zH} (hF : fX11_term N h = some g) : zMet l yX11_term cX11_term 2 none (zrm d) D cy α n σ [.ref (α 14)] h (none) g :=
  (MG_fX11_atom 60 (by omega : 3 + 60 ≤ d)).2.1 hF
set_option maxRecDepth 20000 in
set_option maxHeartbeats 4000000 in
theorem M_fX11_sum {l : Launch} {D : va_G} {cy : ClassId} {α : Nat → Nat} {n : Nat} {σ : zSg} {d : Nat} (hd : 63 ≤ d) {N : Nat} {h : zH} {g : zH} (hF : fX11_sum N h = some g) : zMet l yX11_sum cX11_sum 2 none (zrm d) D cy α n σ [.ref (α 14)] h (none) g :=
  (MG_fX11_atom 60 (by omega : 3 + 60 ≤ d)).2.2 hF
set_option maxRecDepth 20000 in
set_option maxHeartbeats 4000000 in
theorem J_fX11_isSign {κ : zT} (C : zC κ RX11 cX11_isSign 1 (some .boolean)) {d : Nat} (hR : zR κ = zrm (d + 1)) (hd : 1 ≤ d + 1) {h : zH} {r : Int} (e1 : zrv κ = some (.int (zi r))) (e2 : zhf κ = h) {a0 : Int} (hF : fX11_isSign a0 = r) : Z κ h 0 [(0, .int (zi a0))] [] := by
  unfold fX11_isSign at hF
  refine z_iload_n (q := 1) C dX11_isSign_0 0 rfl rfl rfl ?_
  refine z_bipush (q := 3) C dX11_isSign_1 bp_61 rfl ?_
  refine z_icmp_eq (tgt := 18) (q := 6) C dX11_isSign_3 (by decide) rfl (fun c1 => ?_) (fun c1 => ?_)
  · have hF := (if_pos c1).symm.trans hF
    refine z_iconst (q := 19) C dX11_isSign_18 rfl ?_
    refine z_goto (q := 23) C dX11_isSign_19 (by decide) ?_
    subst hF
    exact z_zret C (zb01 (Or.inr rfl)) e1 e2 dX11_isSign_23
  · have hF := (if_neg c1).symm.trans hF
    refine z_iload_n (q := 7) C dX11_isSign_6 0 rfl rfl rfl ?_
    refine z_bipush (q := 9) C dX11_isSign_7 bp_60 rfl ?_
    refine z_icmp_eq (tgt := 18) (q := 12) C dX11_isSign_9 (by decide) rfl (fun c2 => ?_) (fun c2 => ?_)
    · have hF := (if_pos c2).symm.trans hF
      refine z_iconst (q := 19) C dX11_isSign_18 rfl ?_
      refine z_goto (q := 23) C dX11_isSign_19 (by decide) ?_
      subst hF
      exact z_zret C (zb01 (Or.inr rfl)) e1 e2 dX11_isSign_23
    · have hF := (if_neg c2).symm.trans hF
      refine z_iload_n (q := 13) C dX11_isSign_12 0 rfl rfl rfl ?_
      refine z_bipush (q := 15) C dX11_isSign_13 bp_62 rfl ?_
      refine z_icmp_ne (tgt := 22) (q := 18) C dX11_isSign_15 (by decide) rfl (fun c3 => ?_) (fun c3 => ?_)
      · have hF := (if_neg c3).symm.trans hF
        refine z_iconst (q := 23) C dX11_isSign_22 rfl ?_
        subst hF
        exact z_zret C (zb01 (Or.inl rfl)) e1 e2 dX11_isSign_23
      · have hF := (if_pos c3).symm.trans hF
        refine z_iconst (q := 19) C dX11_isSign_18 rfl ?_
        refine z_goto (q := 23) C dX11_isSign_19 (by decide) ?_
        subst hF
        exact z_zret C (zb01 (Or.inr rfl)) e1 e2 dX11_isSign_23
set_option maxRecDepth 20000 in
set_option maxHeartbeats 4000000 in
theorem M_fX11_isSign {l : Launch} {D : va_G} {cy : ClassId} {α : Nat → Nat} {n : Nat} {σ : zSg} {d : Nat} (hd : 1 ≤ d) {a0 : Int} {h : zH} {r : Int} (hF : fX11_isSign a0 = r) : zMet l yX11_isSign cX11_isSign 1 (some .boolean) (zrm d) D cy α n σ [.int (zi a0)] h (some (.int (zi r))) h := by
  obtain ⟨d, rfl⟩ : ∃ e, d = e + 1 := ⟨d - 1, by omega⟩
  refine z_met (by decide +kernel) (Nat.le_of_ble_eq_true rfl) (fun κ k1 k2 k3 k4 k5 k6 k7 k8 k9 C => ?_)
  subst k1 k3 k4 k5 k6 k7
  exact J_fX11_isSign C k2 hd k8 k9 hF
theorem B_fX11_isSign {a0 : Int} : fX11_isSign a0 = 0 ∨ fX11_isSign a0 = 1 := by
  unfold fX11_isSign
  try simp only [zlet, zlet2]
  repeat' (first | exact Or.inl rfl | exact Or.inr rfl | apply zite01)
set_option maxRecDepth 20000 in
set_option maxHeartbeats 4000000 in
theorem J_fX11_compare_c16 {κ : zT} (C : zC κ RX11 cX11_compare 2 none) {d : Nat} (hR : zR κ = zrm (d + 1)) (hd : 64 ≤ d + 1) {N : Nat} {r : zH} (e1 : zrv κ = none) (e2 : zhf κ = r) (s0 : Int) (h : zH) (hF : fX11_compare_c16 N s0 h = some r) : Z κ h 16 [(0, .ref (zα κ 14))] [.int (zi s0)] := by
  unfold fX11_compare_c16 at hF
  refine z_istore_n (q := 17) C dX11_compare_16 (by decide) rfl rfl rfl ?_
  refine z_iload_n (q := 18) C dX11_compare_17 0 rfl rfl rfl ?_
  refine z_callS (q := 21) (av := [.int (zi s0)]) (rest := []) (stk2 := [.int (zi (fX11_isSign s0))]) C hR (M_fX11_isSign (zlv hd rfl) rfl) mY_X11_isSign q_1379 (Nat.le_of_ble_eq_true rfl) dX11_compare_18 rfl rfl rfl ?_
  refine z_if_ne (tgt := 29) (q := 24) C dX11_compare_21 (by decide) rfl (fun c1 => ?_) (fun c1 => ?_)
  · have hF := (if_neg c1).symm.trans hF
    refine z_aload_n (q := 30) C dX11_compare_29 1 rfl rfl rfl ?_
    refine z_dup (q := 31) C dX11_compare_30 rfl rfl ?_
    refine z_getf (q := 34) C clX11 (zon C zo_14) kd_14 (k := 3) (by decide) q_1105 rfl (zfv_i kd_14 rfl) dX11_compare_31 rfl ?_
    refine z_iconst (q := 35) C dX11_compare_34 rfl ?_
    refine z_iadd (q := 36) C dX11_compare_35 rfl ?_
    obtain ⟨h3, eh3, hF⟩ := zlet_e hF
    refine z_putf (q := 39) C clX11 (zon C zo_14) kd_14 (k := 3) (x := (h 14 3) + 1) (by decide) q_1105 rfl rfl rfl rfl (((zfv_i kd_14 rfl)).trans (by rw [if_pos rfl])) dX11_compare_36 rfl eh3 ?_
    refine z_aload_n (q := 40) C dX11_compare_39 1 rfl rfl rfl ?_
    obtain ⟨h4, eh4, hF⟩ := zb_e hF
    refine z_callV (q := 43) (o := 14) (av := []) (rest := []) (stk2 := []) C hR clX11 (zon C zo_14) kd_14 (M_fX11_sum (zlv hd rfl) eh4) mY_X11_sum q_1356 (Nat.le_of_ble_eq_true rfl) dX11_compare_40 rfl rfl rfl ?_
    refine z_aload_n (q := 44) C dX11_compare_43 1 rfl rfl rfl ?_
    refine z_iload_n (q := 45) C dX11_compare_44 0 rfl rfl rfl ?_
    refine z_bipush (q := 47) C dX11_compare_45 bp_61 rfl ?_
    refine z_icmp_ne (tgt := 55) (q := 50) C dX11_compare_47 (by decide) rfl (fun c5 => ?_) (fun c5 => ?_)
    · have hF := (if_neg c5).symm.trans hF
      refine z_iload_n (q := 56) C dX11_compare_55 0 rfl rfl rfl ?_
      refine z_bipush (q := 58) C dX11_compare_56 bp_60 rfl ?_
      refine z_icmp_ne (tgt := 66) (q := 61) C dX11_compare_58 (by decide) rfl (fun c7 => ?_) (fun c7 => ?_)
      · have hF := (if_neg c7).symm.trans hF
        refine z_bipush (q := 68) C dX11_compare_66 bp_8 rfl ?_
        refine z_iconst (q := 69) C dX11_compare_68 rfl ?_
        obtain ⟨h9, eh9, hF⟩ := zb_e hF
        refine z_callV (q := 72) (o := 14) (av := [.int (zi 8), .int (zi 0)]) (rest := []) (stk2 := []) C hR clX11 (zon C zo_14) kd_14 (M_fX11_put (zlv hd rfl) eh9) mY_X11_put q_1348 (Nat.le_of_ble_eq_true rfl) dX11_compare_69 rfl rfl rfl ?_
        have hF := Option.some.inj hF
        subst hF
        exact z_vret C e1 e2 dX11_compare_72
      · have hF := (if_pos c7).symm.trans hF
        refine z_bipush (q := 63) C dX11_compare_61 bp_7 rfl ?_
        refine z_goto (q := 68) C dX11_compare_63 (by decide) ?_
        refine z_iconst (q := 69) C dX11_compare_68 rfl ?_
        obtain ⟨h8, eh8, hF⟩ := zb_e hF
        refine z_callV (q := 72) (o := 14) (av := [.int (zi 7), .int (zi 0)]) (rest := []) (stk2 := []) C hR clX11 (zon C zo_14) kd_14 (M_fX11_put (zlv hd rfl) eh8) mY_X11_put q_1348 (Nat.le_of_ble_eq_true rfl) dX11_compare_69 rfl rfl rfl ?_
        have hF := Option.some.inj hF
        subst hF
        exact z_vret C e1 e2 dX11_compare_72
    · have hF := (if_pos c5).symm.trans hF
      refine z_bipush (q := 52) C dX11_compare_50 bp_6 rfl ?_
      refine z_goto (q := 68) C dX11_compare_52 (by decide) ?_
      refine z_iconst (q := 69) C dX11_compare_68 rfl ?_
      obtain ⟨h6, eh6, hF⟩ := zb_e hF
      refine z_callV (q := 72) (o := 14) (av := [.int (zi 6), .int (zi 0)]) (rest := []) (stk2 := []) C hR clX11 (zon C zo_14) kd_14 (M_fX11_put (zlv hd rfl) eh6) mY_X11_put q_1348 (Nat.le_of_ble_eq_true rfl) dX11_compare_69 rfl rfl rfl ?_
      have hF := Option.some.inj hF
      subst hF
      exact z_vret C e1 e2 dX11_compare_72
  · have hF := (if_pos c1).symm.trans hF
    refine z_aload_n (q := 25) C dX11_compare_24 1 rfl rfl rfl ?_
    obtain ⟨h2, eh2, hF⟩ := zlet_e hF
    refine z_callV (q := 28) (o := 14) (av := []) (rest := []) (stk2 := []) C hR clX11 (zon C zo_14) kd_14 (M_fX11_bad (zlv hd rfl) eh2.symm) mY_X11_bad q_1310 (Nat.le_of_ble_eq_true rfl) dX11_compare_25 rfl rfl rfl ?_
    have hF := Option.some.inj hF
    subst hF
    exact z_vret C e1 e2 dX11_compare_28
set_option maxRecDepth 20000 in
set_option maxHeartbeats 4000000 in
theorem J_fX11_compare {κ : zT} (C : zC κ RX11 cX11_compare 2 none) {d : Nat} (hR : zR κ = zrm (d + 1)) (hd : 64 ≤ d + 1) {N : Nat} {r : zH} (e1 : zrv κ = none) (e2 : zhf κ = r) {h : zH} (hF : fX11_compare N h = some r) : Z κ h 0 [(0, .ref (zα κ 14))] [] := by
  unfold fX11_compare at hF
  refine z_aload_n (q := 1) C dX11_compare_0 0 rfl rfl rfl ?_
  refine z_getf (q := 4) C clX11 (zon C zo_14) kd_14 (k := 4) (by decide) q_1106 rfl (zfv_i kd_14 rfl) dX11_compare_1 rfl ?_
  refine z_iconst (q := 5) C dX11_compare_4 rfl ?_
  refine z_icmp_ne (tgt := 15) (q := 8) C dX11_compare_5 (by decide) rfl (fun c1 => ?_) (fun c1 => ?_)
  · have hF := (if_neg c1).symm.trans hF
    refine z_iconst (q := 16) C dX11_compare_15 rfl ?_
    exact z_sub (J_fX11_compare_c16 C hR hd e1 e2 _ _ hF) [0] rfl
  · have hF := (if_pos c1).symm.trans hF
    refine z_aload_n (q := 9) C dX11_compare_8 0 rfl rfl rfl ?_
    obtain ⟨v3, h2, ev3, hF⟩ := z2_e hF
    refine z_callV (q := 12) (o := 14) (av := []) (rest := []) (stk2 := [.int (zi v3)]) C hR clX11 (zon C zo_14) kd_14 (M_fX11_look (zlv hd rfl) ev3) mY_X11_look q_1279 (Nat.le_of_ble_eq_true rfl) dX11_compare_9 rfl rfl rfl ?_
    refine z_goto (q := 16) C dX11_compare_12 (by decide) ?_
    exact z_sub (J_fX11_compare_c16 C hR hd e1 e2 _ _ hF) [0] rfl
set_option maxRecDepth 20000 in
set_option maxHeartbeats 4000000 in
theorem M_fX11_compare {l : Launch} {D : va_G} {cy : ClassId} {α : Nat → Nat} {n : Nat} {σ : zSg} {d : Nat} (hd : 64 ≤ d) {N : Nat} {h : zH} {g : zH} (hF : fX11_compare N h = some g) : zMet l yX11_compare cX11_compare 2 none (zrm d) D cy α n σ [.ref (α 14)] h (none) g := by
  obtain ⟨d, rfl⟩ : ∃ e, d = e + 1 := ⟨d - 1, by omega⟩
  refine z_met (by decide +kernel) (Nat.le_of_ble_eq_true rfl) (fun κ k1 k2 k3 k4 k5 k6 k7 k8 k9 C => ?_)
  subst k1 k3 k4 k5 k6 k7
  exact J_fX11_compare C k2 hd k8 k9 hF
set_option maxRecDepth 20000 in
set_option maxHeartbeats 4000000 in
theorem J_fX11_goOnOr_c0b {κ : zT} (C : zC κ RX11 cX11_goOnOr 1 none) {d : Nat} (hR : zR κ = zrm (d + 1)) (hd : 65 ≤ d + 1) {N : Nat} {R_fX11_goOnOr : zH → Option zH} (hM_fX11_goOnOr : ∀ {h : zH} {g : zH} (hF : R_fX11_goOnOr h = some g), zMet (zla κ) yX11_goOnOr cX11_goOnOr 1 none (zrm d) (zD κ) (zcy κ) (zα κ) (zn κ) (zσ κ) [.ref (zα κ 14)] h (none) g) {R_fX11_goOnAnd : zH → Option zH} (hM_fX11_goOnAnd : ∀ {h : zH} {g : zH} (hF : R_fX11_goOnAnd h = some g), zMet (zla κ) yX11_goOnAnd cX11_goOnAnd 1 none (zrm d) (zD κ) (zcy κ) (zα κ) (zn κ) (zσ κ) [.ref (zα κ 14)] h (none) g) {R_fX11_unit : zH → Option zH} (hM_fX11_unit : ∀ {h : zH} {g : zH} (hF : R_fX11_unit h = some g), zMet (zla κ) yX11_unit cX11_unit 2 none (zrm d) (zD κ) (zcy κ) (zα κ) (zn κ) (zσ κ) [.ref (zα κ 14)] h (none) g) {R_fX11_condition : zH → Option zH} (hM_fX11_condition : ∀ {h : zH} {g : zH} (hF : R_fX11_condition h = some g), zMet (zla κ) yX11_condition cX11_condition 1 none (zrm d) (zD κ) (zcy κ) (zα κ) (zn κ) (zσ κ) [.ref (zα κ 14)] h (none) g) {r : zH} (e1 : zrv κ = none) (e2 : zhf κ = r) {K0 : zH → Option zH} (hK0 : ∀ (h : zH), K0 h = some r → Z κ h 0 [(0, .ref (zα κ 14))] []) (h : zH) (hF : fX11_goOnOr_c0b N R_fX11_goOnOr R_fX11_goOnAnd R_fX11_unit R_fX11_condition K0 h = some r) : Z κ h 0 [(0, .ref (zα κ 14))] [] := by
  unfold fX11_goOnOr_c0b at hF
  refine z_aload_n (q := 1) C dX11_goOnOr_0 0 rfl rfl rfl ?_
  refine z_getf (q := 4) C clX11 (zon C zo_14) kd_14 (k := 4) (by decide) q_1106 rfl (zfv_i kd_14 rfl) dX11_goOnOr_1 rfl ?_
  refine z_iconst (q := 5) C dX11_goOnOr_4 rfl ?_
  refine z_icmp_ne (tgt := 45) (q := 8) C dX11_goOnOr_5 (by decide) rfl (fun c1 => ?_) (fun c1 => ?_)
  · have hF := (if_neg c1).symm.trans hF
    have hF := Option.some.inj hF
    subst hF
    exact z_vret C e1 e2 dX11_goOnOr_45
  · have hF := (if_pos c1).symm.trans hF
    refine z_aload_n (q := 9) C dX11_goOnOr_8 0 rfl rfl rfl ?_
    obtain ⟨v3, h2, ev3, hF⟩ := z2_e hF
    refine z_callV (q := 12) (o := 14) (av := []) (rest := []) (stk2 := [.int (zi v3)]) C hR clX11 (zon C zo_14) kd_14 (M_fX11_look (zlv hd rfl) ev3) mY_X11_look q_1279 (Nat.le_of_ble_eq_true rfl) dX11_goOnOr_9 rfl rfl rfl ?_
    refine z_bipush (q := 14) C dX11_goOnOr_12 bp_124 rfl ?_
    refine z_icmp_ne (tgt := 45) (q := 17) C dX11_goOnOr_14 (by decide) rfl (fun c4 => ?_) (fun c4 => ?_)
    · have hF := (if_neg c4).symm.trans hF
      have hF := Option.some.inj hF
      subst hF
      exact z_vret C e1 e2 dX11_goOnOr_45
    · have hF := (if_pos c4).symm.trans hF
      refine z_aload_n (q := 18) C dX11_goOnOr_17 0 rfl rfl rfl ?_
      refine z_dup (q := 19) C dX11_goOnOr_18 rfl rfl ?_
      refine z_getf (q := 22) C clX11 (zon C zo_14) kd_14 (k := 3) (by decide) q_1105 rfl (zfv_i kd_14 rfl) dX11_goOnOr_19 rfl ?_
      refine z_iconst (q := 23) C dX11_goOnOr_22 rfl ?_
      refine z_iadd (q := 24) C dX11_goOnOr_23 rfl ?_
      obtain ⟨h5, eh5, hF⟩ := zlet_e hF
      refine z_putf (q := 27) C clX11 (zon C zo_14) kd_14 (k := 3) (x := (h2 14 3) + 1) (by decide) q_1105 rfl rfl rfl rfl (((zfv_i kd_14 rfl)).trans (by rw [if_pos rfl])) dX11_goOnOr_24 rfl eh5 ?_
      refine z_aload_n (q := 28) C dX11_goOnOr_27 0 rfl rfl rfl ?_
      obtain ⟨h6, eh6, hF⟩ := zb_e hF
      refine z_callV (q := 31) (o := 14) (av := []) (rest := []) (stk2 := []) C hR clX11 (zon C zo_14) kd_14 (hM_fX11_unit eh6) mY_X11_unit q_1340 (Nat.le_of_ble_eq_true rfl) dX11_goOnOr_28 rfl rfl rfl ?_
      refine z_aload_n (q := 32) C dX11_goOnOr_31 0 rfl rfl rfl ?_
      obtain ⟨h7, eh7, hF⟩ := zb_e hF
      refine z_callV (q := 35) (o := 14) (av := []) (rest := []) (stk2 := []) C hR clX11 (zon C zo_14) kd_14 (hM_fX11_goOnAnd eh7) mY_X11_goOnAnd q_1382 (Nat.le_of_ble_eq_true rfl) dX11_goOnOr_32 rfl rfl rfl ?_
      refine z_aload_n (q := 36) C dX11_goOnOr_35 0 rfl rfl rfl ?_
      refine z_bipush (q := 38) C dX11_goOnOr_36 bp_11 rfl ?_
      refine z_iconst (q := 39) C dX11_goOnOr_38 rfl ?_
      obtain ⟨h8, eh8, hF⟩ := zb_e hF
      refine z_callV (q := 42) (o := 14) (av := [.int (zi 11), .int (zi 0)]) (rest := []) (stk2 := []) C hR clX11 (zon C zo_14) kd_14 (M_fX11_put (zlv hd rfl) eh8) mY_X11_put q_1348 (Nat.le_of_ble_eq_true rfl) dX11_goOnOr_39 rfl rfl rfl ?_
      refine z_goto (q := 0) C dX11_goOnOr_42 (by decide) ?_
      exact z_sub (hK0 _ hF) [0] rfl
set_option maxRecDepth 20000 in
set_option maxHeartbeats 4000000 in
theorem J_fX11_goOnOr_c0 {κ : zT} (C : zC κ RX11 cX11_goOnOr 1 none) {d : Nat} (hR : zR κ = zrm (d + 1)) (hd : 65 ≤ d + 1) {N : Nat} {R_fX11_goOnOr : zH → Option zH} (hM_fX11_goOnOr : ∀ {h : zH} {g : zH} (hF : R_fX11_goOnOr h = some g), zMet (zla κ) yX11_goOnOr cX11_goOnOr 1 none (zrm d) (zD κ) (zcy κ) (zα κ) (zn κ) (zσ κ) [.ref (zα κ 14)] h (none) g) {R_fX11_goOnAnd : zH → Option zH} (hM_fX11_goOnAnd : ∀ {h : zH} {g : zH} (hF : R_fX11_goOnAnd h = some g), zMet (zla κ) yX11_goOnAnd cX11_goOnAnd 1 none (zrm d) (zD κ) (zcy κ) (zα κ) (zn κ) (zσ κ) [.ref (zα κ 14)] h (none) g) {R_fX11_unit : zH → Option zH} (hM_fX11_unit : ∀ {h : zH} {g : zH} (hF : R_fX11_unit h = some g), zMet (zla κ) yX11_unit cX11_unit 2 none (zrm d) (zD κ) (zcy κ) (zα κ) (zn κ) (zσ κ) [.ref (zα κ 14)] h (none) g) {R_fX11_condition : zH → Option zH} (hM_fX11_condition : ∀ {h : zH} {g : zH} (hF : R_fX11_condition h = some g), zMet (zla κ) yX11_condition cX11_condition 1 none (zrm d) (zD κ) (zcy κ) (zα κ) (zn κ) (zσ κ) [.ref (zα κ 14)] h (none) g) {r : zH} (e1 : zrv κ = none) (e2 : zhf κ = r) : ∀ (k : Nat) (h : zH), fX11_goOnOr_c0 N R_fX11_goOnOr R_fX11_goOnAnd R_fX11_unit R_fX11_condition k h = some r → Z κ h 0 [(0, .ref (zα κ 14))] [] := by
  intro k
  induction k with
  | zero => intro h hF; cases hF
  | succ k ih => intro h hF; exact J_fX11_goOnOr_c0b C hR hd hM_fX11_goOnOr hM_fX11_goOnAnd hM_fX11_unit hM_fX11_condition e1 e2 ih h hF
set_option maxRecDepth 20000 in
set_option maxHeartbeats 4000000 in
theorem J_fX11_goOnOr_b {κ : zT} (C : zC κ RX11 cX11_goOnOr 1 none) {d : Nat} (hR : zR κ = zrm (d + 1)) (hd : 65 ≤ d + 1) {N : Nat} {R_fX11_goOnOr : zH → Option zH} (hM_fX11_goOnOr : ∀ {h : zH} {g : zH} (hF : R_fX11_goOnOr h = some g), zMet (zla κ) yX11_goOnOr cX11_goOnOr 1 none (zrm d) (zD κ) (zcy κ) (zα κ) (zn κ) (zσ κ) [.ref (zα κ 14)] h (none) g) {R_fX11_goOnAnd : zH → Option zH} (hM_fX11_goOnAnd : ∀ {h : zH} {g : zH} (hF : R_fX11_goOnAnd h = some g), zMet (zla κ) yX11_goOnAnd cX11_goOnAnd 1 none (zrm d) (zD κ) (zcy κ) (zα κ) (zn κ) (zσ κ) [.ref (zα κ 14)] h (none) g) {R_fX11_unit : zH → Option zH} (hM_fX11_unit : ∀ {h : zH} {g : zH} (hF : R_fX11_unit h = some g), zMet (zla κ) yX11_unit cX11_unit 2 none (zrm d) (zD κ) (zcy κ) (zα κ) (zn κ) (zσ κ) [.ref (zα κ 14)] h (none) g) {R_fX11_condition : zH → Option zH} (hM_fX11_condition : ∀ {h : zH} {g : zH} (hF : R_fX11_condition h = some g), zMet (zla κ) yX11_condition cX11_condition 1 none (zrm d) (zD κ) (zcy κ) (zα κ) (zn κ) (zσ κ) [.ref (zα κ 14)] h (none) g) {r : zH} (e1 : zrv κ = none) (e2 : zhf κ = r) {h : zH} (hF : fX11_goOnOr_b N R_fX11_goOnOr R_fX11_goOnAnd R_fX11_unit R_fX11_condition h = some r) : Z κ h 0 [(0, .ref (zα κ 14))] [] := by
  unfold fX11_goOnOr_b at hF
  exact z_sub (J_fX11_goOnOr_c0 C hR hd hM_fX11_goOnOr hM_fX11_goOnAnd hM_fX11_unit hM_fX11_condition e1 e2 N _ hF) [0] rfl
set_option maxRecDepth 20000 in
set_option maxHeartbeats 4000000 in
theorem J_fX11_goOnAnd_c0b {κ : zT} (C : zC κ RX11 cX11_goOnAnd 1 none) {d : Nat} (hR : zR κ = zrm (d + 1)) (hd : 65 ≤ d + 1) {N : Nat} {R_fX11_goOnOr : zH → Option zH} (hM_fX11_goOnOr : ∀ {h : zH} {g : zH} (hF : R_fX11_goOnOr h = some g), zMet (zla κ) yX11_goOnOr cX11_goOnOr 1 none (zrm d) (zD κ) (zcy κ) (zα κ) (zn κ) (zσ κ) [.ref (zα κ 14)] h (none) g) {R_fX11_goOnAnd : zH → Option zH} (hM_fX11_goOnAnd : ∀ {h : zH} {g : zH} (hF : R_fX11_goOnAnd h = some g), zMet (zla κ) yX11_goOnAnd cX11_goOnAnd 1 none (zrm d) (zD κ) (zcy κ) (zα κ) (zn κ) (zσ κ) [.ref (zα κ 14)] h (none) g) {R_fX11_unit : zH → Option zH} (hM_fX11_unit : ∀ {h : zH} {g : zH} (hF : R_fX11_unit h = some g), zMet (zla κ) yX11_unit cX11_unit 2 none (zrm d) (zD κ) (zcy κ) (zα κ) (zn κ) (zσ κ) [.ref (zα κ 14)] h (none) g) {R_fX11_condition : zH → Option zH} (hM_fX11_condition : ∀ {h : zH} {g : zH} (hF : R_fX11_condition h = some g), zMet (zla κ) yX11_condition cX11_condition 1 none (zrm d) (zD κ) (zcy κ) (zα κ) (zn κ) (zσ κ) [.ref (zα κ 14)] h (none) g) {r : zH} (e1 : zrv κ = none) (e2 : zhf κ = r) {K0 : zH → Option zH} (hK0 : ∀ (h : zH), K0 h = some r → Z κ h 0 [(0, .ref (zα κ 14))] []) (h : zH) (hF : fX11_goOnAnd_c0b N R_fX11_goOnOr R_fX11_goOnAnd R_fX11_unit R_fX11_condition K0 h = some r) : Z κ h 0 [(0, .ref (zα κ 14))] [] := by
  unfold fX11_goOnAnd_c0b at hF
  refine z_aload_n (q := 1) C dX11_goOnAnd_0 0 rfl rfl rfl ?_
  refine z_getf (q := 4) C clX11 (zon C zo_14) kd_14 (k := 4) (by decide) q_1106 rfl (zfv_i kd_14 rfl) dX11_goOnAnd_1 rfl ?_
  refine z_iconst (q := 5) C dX11_goOnAnd_4 rfl ?_
  refine z_icmp_ne (tgt := 41) (q := 8) C dX11_goOnAnd_5 (by decide) rfl (fun c1 => ?_) (fun c1 => ?_)
  · have hF := (if_neg c1).symm.trans hF
    have hF := Option.some.inj hF
    subst hF
    exact z_vret C e1 e2 dX11_goOnAnd_41
  · have hF := (if_pos c1).symm.trans hF
    refine z_aload_n (q := 9) C dX11_goOnAnd_8 0 rfl rfl rfl ?_
    obtain ⟨v3, h2, ev3, hF⟩ := z2_e hF
    refine z_callV (q := 12) (o := 14) (av := []) (rest := []) (stk2 := [.int (zi v3)]) C hR clX11 (zon C zo_14) kd_14 (M_fX11_look (zlv hd rfl) ev3) mY_X11_look q_1279 (Nat.le_of_ble_eq_true rfl) dX11_goOnAnd_9 rfl rfl rfl ?_
    refine z_bipush (q := 14) C dX11_goOnAnd_12 bp_38 rfl ?_
    refine z_icmp_ne (tgt := 41) (q := 17) C dX11_goOnAnd_14 (by decide) rfl (fun c4 => ?_) (fun c4 => ?_)
    · have hF := (if_neg c4).symm.trans hF
      have hF := Option.some.inj hF
      subst hF
      exact z_vret C e1 e2 dX11_goOnAnd_41
    · have hF := (if_pos c4).symm.trans hF
      refine z_aload_n (q := 18) C dX11_goOnAnd_17 0 rfl rfl rfl ?_
      refine z_dup (q := 19) C dX11_goOnAnd_18 rfl rfl ?_
      refine z_getf (q := 22) C clX11 (zon C zo_14) kd_14 (k := 3) (by decide) q_1105 rfl (zfv_i kd_14 rfl) dX11_goOnAnd_19 rfl ?_
      refine z_iconst (q := 23) C dX11_goOnAnd_22 rfl ?_
      refine z_iadd (q := 24) C dX11_goOnAnd_23 rfl ?_
      obtain ⟨h5, eh5, hF⟩ := zlet_e hF
      refine z_putf (q := 27) C clX11 (zon C zo_14) kd_14 (k := 3) (x := (h2 14 3) + 1) (by decide) q_1105 rfl rfl rfl rfl (((zfv_i kd_14 rfl)).trans (by rw [if_pos rfl])) dX11_goOnAnd_24 rfl eh5 ?_
      refine z_aload_n (q := 28) C dX11_goOnAnd_27 0 rfl rfl rfl ?_
      obtain ⟨h6, eh6, hF⟩ := zb_e hF
      refine z_callV (q := 31) (o := 14) (av := []) (rest := []) (stk2 := []) C hR clX11 (zon C zo_14) kd_14 (hM_fX11_unit eh6) mY_X11_unit q_1340 (Nat.le_of_ble_eq_true rfl) dX11_goOnAnd_28 rfl rfl rfl ?_
      refine z_aload_n (q := 32) C dX11_goOnAnd_31 0 rfl rfl rfl ?_
      refine z_bipush (q := 34) C dX11_goOnAnd_32 bp_10 rfl ?_
      refine z_iconst (q := 35) C dX11_goOnAnd_34 rfl ?_
      obtain ⟨h7, eh7, hF⟩ := zb_e hF
      refine z_callV (q := 38) (o := 14) (av := [.int (zi 10), .int (zi 0)]) (rest := []) (stk2 := []) C hR clX11 (zon C zo_14) kd_14 (M_fX11_put (zlv hd rfl) eh7) mY_X11_put q_1348 (Nat.le_of_ble_eq_true rfl) dX11_goOnAnd_35 rfl rfl rfl ?_
      refine z_goto (q := 0) C dX11_goOnAnd_38 (by decide) ?_
      exact z_sub (hK0 _ hF) [0] rfl
set_option maxRecDepth 20000 in
set_option maxHeartbeats 4000000 in
theorem J_fX11_goOnAnd_c0 {κ : zT} (C : zC κ RX11 cX11_goOnAnd 1 none) {d : Nat} (hR : zR κ = zrm (d + 1)) (hd : 65 ≤ d + 1) {N : Nat} {R_fX11_goOnOr : zH → Option zH} (hM_fX11_goOnOr : ∀ {h : zH} {g : zH} (hF : R_fX11_goOnOr h = some g), zMet (zla κ) yX11_goOnOr cX11_goOnOr 1 none (zrm d) (zD κ) (zcy κ) (zα κ) (zn κ) (zσ κ) [.ref (zα κ 14)] h (none) g) {R_fX11_goOnAnd : zH → Option zH} (hM_fX11_goOnAnd : ∀ {h : zH} {g : zH} (hF : R_fX11_goOnAnd h = some g), zMet (zla κ) yX11_goOnAnd cX11_goOnAnd 1 none (zrm d) (zD κ) (zcy κ) (zα κ) (zn κ) (zσ κ) [.ref (zα κ 14)] h (none) g) {R_fX11_unit : zH → Option zH} (hM_fX11_unit : ∀ {h : zH} {g : zH} (hF : R_fX11_unit h = some g), zMet (zla κ) yX11_unit cX11_unit 2 none (zrm d) (zD κ) (zcy κ) (zα κ) (zn κ) (zσ κ) [.ref (zα κ 14)] h (none) g) {R_fX11_condition : zH → Option zH} (hM_fX11_condition : ∀ {h : zH} {g : zH} (hF : R_fX11_condition h = some g), zMet (zla κ) yX11_condition cX11_condition 1 none (zrm d) (zD κ) (zcy κ) (zα κ) (zn κ) (zσ κ) [.ref (zα κ 14)] h (none) g) {r : zH} (e1 : zrv κ = none) (e2 : zhf κ = r) : ∀ (k : Nat) (h : zH), fX11_goOnAnd_c0 N R_fX11_goOnOr R_fX11_goOnAnd R_fX11_unit R_fX11_condition k h = some r → Z κ h 0 [(0, .ref (zα κ 14))] [] := by
  intro k
  induction k with
  | zero => intro h hF; cases hF
  | succ k ih => intro h hF; exact J_fX11_goOnAnd_c0b C hR hd hM_fX11_goOnOr hM_fX11_goOnAnd hM_fX11_unit hM_fX11_condition e1 e2 ih h hF
set_option maxRecDepth 20000 in
set_option maxHeartbeats 4000000 in
theorem J_fX11_goOnAnd_b {κ : zT} (C : zC κ RX11 cX11_goOnAnd 1 none) {d : Nat} (hR : zR κ = zrm (d + 1)) (hd : 65 ≤ d + 1) {N : Nat} {R_fX11_goOnOr : zH → Option zH} (hM_fX11_goOnOr : ∀ {h : zH} {g : zH} (hF : R_fX11_goOnOr h = some g), zMet (zla κ) yX11_goOnOr cX11_goOnOr 1 none (zrm d) (zD κ) (zcy κ) (zα κ) (zn κ) (zσ κ) [.ref (zα κ 14)] h (none) g) {R_fX11_goOnAnd : zH → Option zH} (hM_fX11_goOnAnd : ∀ {h : zH} {g : zH} (hF : R_fX11_goOnAnd h = some g), zMet (zla κ) yX11_goOnAnd cX11_goOnAnd 1 none (zrm d) (zD κ) (zcy κ) (zα κ) (zn κ) (zσ κ) [.ref (zα κ 14)] h (none) g) {R_fX11_unit : zH → Option zH} (hM_fX11_unit : ∀ {h : zH} {g : zH} (hF : R_fX11_unit h = some g), zMet (zla κ) yX11_unit cX11_unit 2 none (zrm d) (zD κ) (zcy κ) (zα κ) (zn κ) (zσ κ) [.ref (zα κ 14)] h (none) g) {R_fX11_condition : zH → Option zH} (hM_fX11_condition : ∀ {h : zH} {g : zH} (hF : R_fX11_condition h = some g), zMet (zla κ) yX11_condition cX11_condition 1 none (zrm d) (zD κ) (zcy κ) (zα κ) (zn κ) (zσ κ) [.ref (zα κ 14)] h (none) g) {r : zH} (e1 : zrv κ = none) (e2 : zhf κ = r) {h : zH} (hF : fX11_goOnAnd_b N R_fX11_goOnOr R_fX11_goOnAnd R_fX11_unit R_fX11_condition h = some r) : Z κ h 0 [(0, .ref (zα κ 14))] [] := by
  unfold fX11_goOnAnd_b at hF
  exact z_sub (J_fX11_goOnAnd_c0 C hR hd hM_fX11_goOnOr hM_fX11_goOnAnd hM_fX11_unit hM_fX11_condition e1 e2 N _ hF) [0] rfl
set_option maxRecDepth 20000 in
set_option maxHeartbeats 4000000 in
theorem J_fX11_unit_b {κ : zT} (C : zC κ RX11 cX11_unit 2 none) {d : Nat} (hR : zR κ = zrm (d + 1)) (hd : 65 ≤ d + 1) {N : Nat} {R_fX11_goOnOr : zH → Option zH} (hM_fX11_goOnOr : ∀ {h : zH} {g : zH} (hF : R_fX11_goOnOr h = some g), zMet (zla κ) yX11_goOnOr cX11_goOnOr 1 none (zrm d) (zD κ) (zcy κ) (zα κ) (zn κ) (zσ κ) [.ref (zα κ 14)] h (none) g) {R_fX11_goOnAnd : zH → Option zH} (hM_fX11_goOnAnd : ∀ {h : zH} {g : zH} (hF : R_fX11_goOnAnd h = some g), zMet (zla κ) yX11_goOnAnd cX11_goOnAnd 1 none (zrm d) (zD κ) (zcy κ) (zα κ) (zn κ) (zσ κ) [.ref (zα κ 14)] h (none) g) {R_fX11_unit : zH → Option zH} (hM_fX11_unit : ∀ {h : zH} {g : zH} (hF : R_fX11_unit h = some g), zMet (zla κ) yX11_unit cX11_unit 2 none (zrm d) (zD κ) (zcy κ) (zα κ) (zn κ) (zσ κ) [.ref (zα κ 14)] h (none) g) {R_fX11_condition : zH → Option zH} (hM_fX11_condition : ∀ {h : zH} {g : zH} (hF : R_fX11_condition h = some g), zMet (zla κ) yX11_condition cX11_condition 1 none (zrm d) (zD κ) (zcy κ) (zα κ) (zn κ) (zσ κ) [.ref (zα κ 14)] h (none) g) {r : zH} (e1 : zrv κ = none) (e2 : zhf κ = r) {h : zH} (hF : fX11_unit_b N R_fX11_goOnOr R_fX11_goOnAnd R_fX11_unit R_fX11_condition h = some r) : Z κ h 0 [(0, .ref (zα κ 14))] [] := by
  unfold fX11_unit_b at hF
  refine z_aload_n (q := 1) C dX11_unit_0 0 rfl rfl rfl ?_
  obtain ⟨v2, h1, ev2, hF⟩ := z2_e hF
  refine z_callV (q := 4) (o := 14) (av := []) (rest := []) (stk2 := [.int (zi v2)]) C hR clX11 (zon C zo_14) kd_14 (M_fX11_look (zlv hd rfl) ev2) mY_X11_look q_1279 (Nat.le_of_ble_eq_true rfl) dX11_unit_1 rfl rfl rfl ?_
  refine z_istore_n (q := 5) C dX11_unit_4 (by decide) rfl rfl rfl ?_
  refine z_iload_n (q := 6) C dX11_unit_5 0 rfl rfl rfl ?_
  refine z_bipush (q := 8) C dX11_unit_6 bp_33 rfl ?_
  refine z_icmp_ne (tgt := 47) (q := 11) C dX11_unit_8 (by decide) rfl (fun c3 => ?_) (fun c3 => ?_)
  · have hF := (if_neg c3).symm.trans hF
    refine z_iload_n (q := 48) C dX11_unit_47 0 rfl rfl rfl ?_
    refine z_bipush (q := 50) C dX11_unit_48 bp_40 rfl ?_
    refine z_icmp_ne (tgt := 78) (q := 53) C dX11_unit_50 (by decide) rfl (fun c9 => ?_) (fun c9 => ?_)
    · have hF := (if_neg c9).symm.trans hF
      refine z_aload_n (q := 79) C dX11_unit_78 1 rfl rfl rfl ?_
      obtain ⟨h14, eh14, hF⟩ := zb_e hF
      refine z_callV (q := 82) (o := 14) (av := []) (rest := []) (stk2 := []) C hR clX11 (zon C zo_14) kd_14 (M_fX11_sum (zlv hd rfl) eh14) mY_X11_sum q_1356 (Nat.le_of_ble_eq_true rfl) dX11_unit_79 rfl rfl rfl ?_
      refine z_aload_n (q := 83) C dX11_unit_82 1 rfl rfl rfl ?_
      refine z_getf (q := 86) C clX11 (zon C zo_14) kd_14 (k := 4) (by decide) q_1106 rfl (zfv_i kd_14 rfl) dX11_unit_83 rfl ?_
      refine z_iconst (q := 87) C dX11_unit_86 rfl ?_
      refine z_icmp_ne (tgt := 94) (q := 90) C dX11_unit_87 (by decide) rfl (fun c15 => ?_) (fun c15 => ?_)
      · have hF := (if_neg c15).symm.trans hF
        have hF := Option.some.inj hF
        subst hF
        exact z_vret C e1 e2 dX11_unit_94
      · have hF := (if_pos c15).symm.trans hF
        refine z_aload_n (q := 91) C dX11_unit_90 1 rfl rfl rfl ?_
        obtain ⟨h16, eh16, hF⟩ := zb_e hF
        refine z_callV (q := 94) (o := 14) (av := []) (rest := []) (stk2 := []) C hR clX11 (zon C zo_14) kd_14 (M_fX11_compare (zlv hd rfl) eh16) mY_X11_compare q_1375 (Nat.le_of_ble_eq_true rfl) dX11_unit_91 rfl rfl rfl ?_
        have hF := Option.some.inj hF
        subst hF
        exact z_vret C e1 e2 dX11_unit_94
    · have hF := (if_pos c9).symm.trans hF
      refine z_aload_n (q := 54) C dX11_unit_53 1 rfl rfl rfl ?_
      obtain ⟨h10, eh10, hF⟩ := zlet_e hF
      refine z_callV (q := 57) (o := 14) (av := []) (rest := []) (stk2 := []) C hR clX11 (zon C zo_14) kd_14 (M_fX11_opens (zlv hd rfl) eh10.symm) mY_X11_opens q_1344 (Nat.le_of_ble_eq_true rfl) dX11_unit_54 rfl rfl rfl ?_
      refine z_aload_n (q := 58) C dX11_unit_57 1 rfl rfl rfl ?_
      refine z_getf (q := 61) C clX11 (zon C zo_14) kd_14 (k := 4) (by decide) q_1106 rfl (zfv_i kd_14 rfl) dX11_unit_58 rfl ?_
      refine z_iconst (q := 62) C dX11_unit_61 rfl ?_
      refine z_icmp_ne (tgt := 94) (q := 65) C dX11_unit_62 (by decide) rfl (fun c11 => ?_) (fun c11 => ?_)
      · have hF := (if_neg c11).symm.trans hF
        have hF := Option.some.inj hF
        subst hF
        exact z_vret C e1 e2 dX11_unit_94
      · have hF := (if_pos c11).symm.trans hF
        refine z_aload_n (q := 66) C dX11_unit_65 1 rfl rfl rfl ?_
        obtain ⟨h12, eh12, hF⟩ := zb_e hF
        refine z_callV (q := 69) (o := 14) (av := []) (rest := []) (stk2 := []) C hR clX11 (zon C zo_14) kd_14 (hM_fX11_condition eh12) mY_X11_condition q_1336 (Nat.le_of_ble_eq_true rfl) dX11_unit_66 rfl rfl rfl ?_
        refine z_aload_n (q := 70) C dX11_unit_69 1 rfl rfl rfl ?_
        refine z_bipush (q := 72) C dX11_unit_70 bp_41 rfl ?_
        obtain ⟨h13, eh13, hF⟩ := zb_e hF
        refine z_callV (q := 75) (o := 14) (av := [.int (zi 41)]) (rest := []) (stk2 := []) C hR clX11 (zon C zo_14) kd_14 (M_fX11_closes (zlv hd rfl) eh13) mY_X11_closes q_1352 (Nat.le_of_ble_eq_true rfl) dX11_unit_72 rfl rfl rfl ?_
        refine z_goto (q := 94) C dX11_unit_75 (by decide) ?_
        have hF := Option.some.inj hF
        subst hF
        exact z_vret C e1 e2 dX11_unit_94
  · have hF := (if_pos c3).symm.trans hF
    refine z_aload_n (q := 12) C dX11_unit_11 1 rfl rfl rfl ?_
    obtain ⟨h4, eh4, hF⟩ := zlet_e hF
    refine z_callV (q := 15) (o := 14) (av := []) (rest := []) (stk2 := []) C hR clX11 (zon C zo_14) kd_14 (M_fX11_opens (zlv hd rfl) eh4.symm) mY_X11_opens q_1344 (Nat.le_of_ble_eq_true rfl) dX11_unit_12 rfl rfl rfl ?_
    refine z_aload_n (q := 16) C dX11_unit_15 1 rfl rfl rfl ?_
    refine z_getf (q := 19) C clX11 (zon C zo_14) kd_14 (k := 4) (by decide) q_1106 rfl (zfv_i kd_14 rfl) dX11_unit_16 rfl ?_
    refine z_iconst (q := 20) C dX11_unit_19 rfl ?_
    refine z_icmp_ne (tgt := 94) (q := 23) C dX11_unit_20 (by decide) rfl (fun c5 => ?_) (fun c5 => ?_)
    · have hF := (if_neg c5).symm.trans hF
      have hF := Option.some.inj hF
      subst hF
      exact z_vret C e1 e2 dX11_unit_94
    · have hF := (if_pos c5).symm.trans hF
      refine z_aload_n (q := 24) C dX11_unit_23 1 rfl rfl rfl ?_
      obtain ⟨h6, eh6, hF⟩ := zb_e hF
      refine z_callV (q := 27) (o := 14) (av := []) (rest := []) (stk2 := []) C hR clX11 (zon C zo_14) kd_14 (hM_fX11_unit eh6) mY_X11_unit q_1340 (Nat.le_of_ble_eq_true rfl) dX11_unit_24 rfl rfl rfl ?_
      refine z_aload_n (q := 28) C dX11_unit_27 1 rfl rfl rfl ?_
      refine z_bipush (q := 30) C dX11_unit_28 bp_9 rfl ?_
      refine z_iconst (q := 31) C dX11_unit_30 rfl ?_
      obtain ⟨h7, eh7, hF⟩ := zb_e hF
      refine z_callV (q := 34) (o := 14) (av := [.int (zi 9), .int (zi 0)]) (rest := []) (stk2 := []) C hR clX11 (zon C zo_14) kd_14 (M_fX11_put (zlv hd rfl) eh7) mY_X11_put q_1348 (Nat.le_of_ble_eq_true rfl) dX11_unit_31 rfl rfl rfl ?_
      refine z_aload_n (q := 35) C dX11_unit_34 1 rfl rfl rfl ?_
      refine z_dup (q := 36) C dX11_unit_35 rfl rfl ?_
      refine z_getf (q := 39) C clX11 (zon C zo_14) kd_14 (k := 5) (by decide) q_1107 rfl (zfv_i kd_14 rfl) dX11_unit_36 rfl ?_
      refine z_iconst (q := 40) C dX11_unit_39 rfl ?_
      refine z_isub (q := 41) C dX11_unit_40 rfl ?_
      obtain ⟨h8, eh8, hF⟩ := zlet_e hF
      refine z_putf (q := 44) C clX11 (zon C zo_14) kd_14 (k := 5) (x := (h7 14 5) - 1) (by decide) q_1107 rfl rfl rfl rfl (((zfv_i kd_14 rfl)).trans (by rw [if_pos rfl])) dX11_unit_41 rfl eh8 ?_
      refine z_goto (q := 94) C dX11_unit_44 (by decide) ?_
      have hF := Option.some.inj hF
      subst hF
      exact z_vret C e1 e2 dX11_unit_94
set_option maxRecDepth 20000 in
set_option maxHeartbeats 4000000 in
theorem J_fX11_condition_b {κ : zT} (C : zC κ RX11 cX11_condition 1 none) {d : Nat} (hR : zR κ = zrm (d + 1)) (hd : 65 ≤ d + 1) {N : Nat} {R_fX11_goOnOr : zH → Option zH} (hM_fX11_goOnOr : ∀ {h : zH} {g : zH} (hF : R_fX11_goOnOr h = some g), zMet (zla κ) yX11_goOnOr cX11_goOnOr 1 none (zrm d) (zD κ) (zcy κ) (zα κ) (zn κ) (zσ κ) [.ref (zα κ 14)] h (none) g) {R_fX11_goOnAnd : zH → Option zH} (hM_fX11_goOnAnd : ∀ {h : zH} {g : zH} (hF : R_fX11_goOnAnd h = some g), zMet (zla κ) yX11_goOnAnd cX11_goOnAnd 1 none (zrm d) (zD κ) (zcy κ) (zα κ) (zn κ) (zσ κ) [.ref (zα κ 14)] h (none) g) {R_fX11_unit : zH → Option zH} (hM_fX11_unit : ∀ {h : zH} {g : zH} (hF : R_fX11_unit h = some g), zMet (zla κ) yX11_unit cX11_unit 2 none (zrm d) (zD κ) (zcy κ) (zα κ) (zn κ) (zσ κ) [.ref (zα κ 14)] h (none) g) {R_fX11_condition : zH → Option zH} (hM_fX11_condition : ∀ {h : zH} {g : zH} (hF : R_fX11_condition h = some g), zMet (zla κ) yX11_condition cX11_condition 1 none (zrm d) (zD κ) (zcy κ) (zα κ) (zn κ) (zσ κ) [.ref (zα κ 14)] h (none) g) {r : zH} (e1 : zrv κ = none) (e2 : zhf κ = r) {h : zH} (hF : fX11_condition_b N R_fX11_goOnOr R_fX11_goOnAnd R_fX11_unit R_fX11_condition h = some r) : Z κ h 0 [(0, .ref (zα κ 14))] [] := by
  unfold fX11_condition_b at hF
  refine z_aload_n (q := 1) C dX11_condition_0 0 rfl rfl rfl ?_
  obtain ⟨h1, eh1, hF⟩ := zb_e hF
  refine z_callV (q := 4) (o := 14) (av := []) (rest := []) (stk2 := []) C hR clX11 (zon C zo_14) kd_14 (hM_fX11_unit eh1) mY_X11_unit q_1340 (Nat.le_of_ble_eq_true rfl) dX11_condition_1 rfl rfl rfl ?_
  refine z_aload_n (q := 5) C dX11_condition_4 0 rfl rfl rfl ?_
  obtain ⟨h2, eh2, hF⟩ := zb_e hF
  refine z_callV (q := 8) (o := 14) (av := []) (rest := []) (stk2 := []) C hR clX11 (zon C zo_14) kd_14 (hM_fX11_goOnAnd eh2) mY_X11_goOnAnd q_1382 (Nat.le_of_ble_eq_true rfl) dX11_condition_5 rfl rfl rfl ?_
  refine z_aload_n (q := 9) C dX11_condition_8 0 rfl rfl rfl ?_
  obtain ⟨h3, eh3, hF⟩ := zb_e hF
  refine z_callV (q := 12) (o := 14) (av := []) (rest := []) (stk2 := []) C hR clX11 (zon C zo_14) kd_14 (hM_fX11_goOnOr eh3) mY_X11_goOnOr q_1386 (Nat.le_of_ble_eq_true rfl) dX11_condition_9 rfl rfl rfl ?_
  have hF := Option.some.inj hF
  subst hF
  exact z_vret C e1 e2 dX11_condition_12
set_option maxRecDepth 20000 in
set_option maxHeartbeats 4000000 in
theorem MG_fX11_goOnOr {N : Nat} : ∀ (k : Nat) {l : Launch} {D : va_G} {cy : ClassId} {α : Nat → Nat} {n : Nat} {σ : zSg} {d : Nat} (hd : 64 + k ≤ d), (∀ {h : zH} {g : zH} (hF : ((fG_X11_goOnOr N k).1) h = some g), zMet l yX11_goOnOr cX11_goOnOr 1 none (zrm d) D cy α n σ [.ref (α 14)] h (none) g) ∧ (∀ {h : zH} {g : zH} (hF : ((fG_X11_goOnOr N k).2.1) h = some g), zMet l yX11_goOnAnd cX11_goOnAnd 1 none (zrm d) D cy α n σ [.ref (α 14)] h (none) g) ∧ (∀ {h : zH} {g : zH} (hF : ((fG_X11_goOnOr N k).2.2.1) h = some g), zMet l yX11_unit cX11_unit 2 none (zrm d) D cy α n σ [.ref (α 14)] h (none) g) ∧ (∀ {h : zH} {g : zH} (hF : ((fG_X11_goOnOr N k).2.2.2) h = some g), zMet l yX11_condition cX11_condition 1 none (zrm d) D cy α n σ [.ref (α 14)] h (none) g) := by
  intro k
  induction k with
  | zero => intro l D cy α n σ d hd; exact ⟨(by intros; rename_i hF; cases hF), (by intros; rename_i hF; cases hF), (by intros; rename_i hF; cases hF), (by intros; rename_i hF; cases hF)⟩
  | succ k ih =>
    intro l D cy α n σ d hd
    obtain ⟨d, rfl⟩ : ∃ e, d = e + 1 := ⟨d - 1, by omega⟩
    refine ⟨?_, ?_, ?_, ?_⟩
    · intro h g hF
      refine z_met (by decide +kernel) (Nat.le_of_ble_eq_true rfl) (fun κ k1 k2 k3 k4 k5 k6 k7 k8 k9 C => ?_)
      subst k1 k3 k4 k5 k6 k7
      exact J_fX11_goOnOr_b (N := N) C k2 (by omega) ((ih (by omega : 64 + k ≤ d)).1) ((ih (by omega : 64 + k ≤ d)).2.1) ((ih (by omega : 64 + k ≤ d)).2.2.1) ((ih (by omega : 64 + k ≤ d)).2.2.2) k8 k9 hF
    · intro h g hF
      refine z_met (by decide +kernel) (Nat.le_of_ble_eq_true rfl) (fun κ k1 k2 k3 k4 k5 k6 k7 k8 k9 C => ?_)
      subst k1 k3 k4 k5 k6 k7
      exact J_fX11_goOnAnd_b (N := N) C k2 (by omega) ((ih (by omega : 64 + k ≤ d)).1) ((ih (by omega : 64 + k ≤ d)).2.1) ((ih (by omega : 64 + k ≤ d)).2.2.1) ((ih (by omega : 64 + k ≤ d)).2.2.2) k8 k9 hF
    · intro h g hF
      refine z_met (by decide +kernel) (Nat.le_of_ble_eq_true rfl) (fun κ k1 k2 k3 k4 k5 k6 k7 k8 k9 C => ?_)
      subst k1 k3 k4 k5 k6 k7
      exact J_fX11_unit_b (N := N) C k2 (by omega) ((ih (by omega : 64 + k ≤ d)).1) ((ih (by omega : 64 + k ≤ d)).2.1) ((ih (by omega : 64 + k ≤ d)).2.2.1) ((ih (by omega : 64 + k ≤ d)).2.2.2) k8 k9 hF
    · intro h g hF
      refine z_met (by decide +kernel) (Nat.le_of_ble_eq_true rfl) (fun κ k1 k2 k3 k4 k5 k6 k7 k8 k9 C => ?_)
      subst k1 k3 k4 k5 k6 k7
      exact J_fX11_condition_b (N := N) C k2 (by omega) ((ih (by omega : 64 + k ≤ d)).1) ((ih (by omega : 64 + k ≤ d)).2.1) ((ih (by omega : 64 + k ≤ d)).2.2.1) ((ih (by omega : 64 + k ≤ d)).2.2.2) k8 k9 hF
set_option maxRecDepth 20000 in
set_option maxHeartbeats 4000000 in
theorem M_fX11_goOnOr {l : Launch} {D : va_G} {cy : ClassId} {α : Nat → Nat} {n : Nat} {σ : zSg} {d : Nat} (hd : 124 ≤ d) {N : Nat} {h : zH} {g : zH} (hF : fX11_goOnOr N h = some g) : zMet l yX11_goOnOr cX11_goOnOr 1 none (zrm d) D cy α n σ [.ref (α 14)] h (none) g :=
  (MG_fX11_goOnOr 60 (by omega : 64 + 60 ≤ d)).1 hF
set_option maxRecDepth 20000 in
set_option maxHeartbeats 4000000 in
theorem M_fX11_goOnAnd {l : Launch} {D : va_G} {cy : ClassId} {α : Nat → Nat} {n : Nat} {σ : zSg} {d : Nat} (hd : 124 ≤ d) {N : Nat} {h : zH} {g : zH} (hF : fX11_goOnAnd N h = some g) : zMet l yX11_goOnAnd cX11_goOnAnd 1 none (zrm d) D cy α n σ [.ref (α 14)] h (none) g :=
  (MG_fX11_goOnOr 60 (by omega : 64 + 60 ≤ d)).2.1 hF
set_option maxRecDepth 20000 in
set_option maxHeartbeats 4000000 in
theorem M_fX11_unit {l : Launch} {D : va_G} {cy : ClassId} {α : Nat → Nat} {n : Nat} {σ : zSg} {d : Nat} (hd : 124 ≤ d) {N : Nat} {h : zH} {g : zH} (hF : fX11_unit N h = some g) : zMet l yX11_unit cX11_unit 2 none (zrm d) D cy α n σ [.ref (α 14)] h (none) g :=
  (MG_fX11_goOnOr 60 (by omega : 64 + 60 ≤ d)).2.2.1 hF
set_option maxRecDepth 20000 in
set_option maxHeartbeats 4000000 in
theorem M_fX11_condition {l : Launch} {D : va_G} {cy : ClassId} {α : Nat → Nat} {n : Nat} {σ : zSg} {d : Nat} (hd : 124 ≤ d) {N : Nat} {h : zH} {g : zH} (hF : fX11_condition N h = some g) : zMet l yX11_condition cX11_condition 1 none (zrm d) D cy α n σ [.ref (α 14)] h (none) g :=
  (MG_fX11_goOnOr 60 (by omega : 64 + 60 ≤ d)).2.2.2 hF
set_option maxRecDepth 20000 in
set_option maxHeartbeats 4000000 in
theorem J_fX11_clause_c251 {κ : zT} (C : zC κ RX11 cX11_clause 3 none) {d : Nat} (hR : zR κ = zrm (d + 1)) (hd : 125 ≤ d + 1) {N : Nat} {r : zH} (e1 : zrv κ = none) (e2 : zhf κ = r) (l1 : Int) (h : zH) (hF : fX11_clause_c251 N l1 h = some r) : Z κ h 251 [(0, .ref (zα κ 14)), (1, .int (zi l1))] [] := by
  unfold fX11_clause_c251 at hF
  refine z_aload_n (q := 252) C dX11_clause_251 0 rfl rfl rfl ?_
  refine z_getf (q := 255) C clX11 (zon C zo_14) kd_14 (k := 12) (by decide) q_1114 rfl (zfv_r kd_14 rfl fr_14_12) dX11_clause_252 rfl ?_
  refine z_iload_n (q := 256) C dX11_clause_255 1 rfl rfl rfl ?_
  refine z_aload_n (q := 257) C dX11_clause_256 0 rfl rfl rfl ?_
  refine z_getf (q := 260) C clX11 (zon C zo_14) kd_14 (k := 8) (by decide) q_1110 rfl (zfv_r kd_14 rfl fr_14_8) dX11_clause_257 rfl ?_
  refine z_aload_n (q := 261) C dX11_clause_260 0 rfl rfl rfl ?_
  refine z_getf (q := 264) C clX11 (zon C zo_14) kd_14 (k := 14) (by decide) q_1116 rfl (zfv_i kd_14 rfl) dX11_clause_261 rfl ?_
  obtain ⟨g1, hF⟩ := zif_none hF
  refine z_iald (q := 265) C (zon C zo_52) kd_52 g1.1 (by rw [ln_52]; exact g1.2) dX11_clause_264 rfl ?_
  obtain ⟨g2, hF⟩ := zif_none hF
  obtain ⟨h3, eh3, hF⟩ := zlet_e hF
  refine z_iast (q := 266) C (zon C zo_56) kd_56 g2.1 (by rw [ln_56]; exact g2.2) dX11_clause_265 rfl eh3 ?_
  refine z_aload_n (q := 267) C dX11_clause_266 0 rfl rfl rfl ?_
  refine z_getf (q := 270) C clX11 (zon C zo_14) kd_14 (k := 9) (by decide) q_1111 rfl (zfv_r kd_14 rfl fr_14_9) dX11_clause_267 rfl ?_
  refine z_aload_n (q := 271) C dX11_clause_270 0 rfl rfl rfl ?_
  refine z_getf (q := 274) C clX11 (zon C zo_14) kd_14 (k := 14) (by decide) q_1116 rfl (zfv_i kd_14 rfl) dX11_clause_271 rfl ?_
  obtain ⟨v4, ev4, hF⟩ := zlet_e hF
  refine z_topE ev4 ?_
  refine z_dup2 (q := 275) C dX11_clause_274 rfl rfl rfl ?_
  obtain ⟨g5, hF⟩ := zif_none hF
  refine z_iald (q := 276) C (zon C zo_53) kd_53 g5.1 (by rw [ln_53]; exact g5.2) dX11_clause_275 rfl ?_
  refine z_iconst (q := 277) C dX11_clause_276 rfl ?_
  refine z_iadd (q := 278) C dX11_clause_277 rfl ?_
  obtain ⟨g6, hF⟩ := zif_none hF
  obtain ⟨h7, eh7, hF⟩ := zlet_e hF
  refine z_iast (q := 279) C (zon C zo_53) kd_53 g6.1 (by rw [ln_53]; exact g6.2) dX11_clause_278 rfl eh7 ?_
  have hF := Option.some.inj hF
  subst hF
  exact z_vret C e1 e2 dX11_clause_279
set_option maxRecDepth 20000 in
set_option maxHeartbeats 4000000 in
theorem J_fX11_clause_c184 {κ : zT} (C : zC κ RX11 cX11_clause 3 none) {d : Nat} (hR : zR κ = zrm (d + 1)) (hd : 125 ≤ d + 1) {N : Nat} {r : zH} (e1 : zrv κ = none) (e2 : zhf κ = r) (l1 : Int) (l2 : Int) (h : zH) (hF : fX11_clause_c184 N l1 l2 h = some r) : Z κ h 184 [(0, .ref (zα κ 14)), (1, .int (zi l1)), (2, .int (zi l2))] [] := by
  unfold fX11_clause_c184 at hF
  refine z_aload_n (q := 185) C dX11_clause_184 0 rfl rfl rfl ?_
  refine z_getf (q := 188) C clX11 (zon C zo_14) kd_14 (k := 11) (by decide) q_1113 rfl (zfv_r kd_14 rfl fr_14_11) dX11_clause_185 rfl ?_
  refine z_iload_n (q := 189) C dX11_clause_188 1 rfl rfl rfl ?_
  refine z_aload_n (q := 190) C dX11_clause_189 0 rfl rfl rfl ?_
  refine z_getf (q := 193) C clX11 (zon C zo_14) kd_14 (k := 10) (by decide) q_1112 rfl (zfv_r kd_14 rfl fr_14_10) dX11_clause_190 rfl ?_
  refine z_iload_n (q := 194) C dX11_clause_193 1 rfl rfl rfl ?_
  obtain ⟨g1, hF⟩ := zif_none hF
  refine z_iald (q := 195) C (zon C zo_54) kd_54 g1.1 (by rw [ln_54]; exact g1.2) dX11_clause_194 rfl ?_
  obtain ⟨g2, hF⟩ := zif_none hF
  obtain ⟨h3, eh3, hF⟩ := zlet_e hF
  refine z_iast (q := 196) C (zon C zo_55) kd_55 g2.1 (by rw [ln_55]; exact g2.2) dX11_clause_195 rfl eh3 ?_
  refine z_iload_n (q := 197) C dX11_clause_196 2 rfl rfl rfl ?_
  refine z_if_eq (tgt := 251) (q := 200) C dX11_clause_197 (by decide) rfl (fun c4 => ?_) (fun c4 => ?_)
  · have hF := (if_pos c4).symm.trans hF
    exact z_sub (J_fX11_clause_c251 C hR hd e1 e2 _ _ hF) [0, 1] rfl
  · have hF := (if_neg c4).symm.trans hF
    refine z_aload_n (q := 201) C dX11_clause_200 0 rfl rfl rfl ?_
    refine z_getf (q := 204) C clX11 (zon C zo_14) kd_14 (k := 4) (by decide) q_1106 rfl (zfv_i kd_14 rfl) dX11_clause_201 rfl ?_
    refine z_iconst (q := 205) C dX11_clause_204 rfl ?_
    refine z_icmp_ne (tgt := 251) (q := 208) C dX11_clause_205 (by decide) rfl (fun c5 => ?_) (fun c5 => ?_)
    · have hF := (if_neg c5).symm.trans hF
      exact z_sub (J_fX11_clause_c251 C hR hd e1 e2 _ _ hF) [0, 1] rfl
    · have hF := (if_pos c5).symm.trans hF
      refine z_aload_n (q := 209) C dX11_clause_208 0 rfl rfl rfl ?_
      obtain ⟨v7, h6, ev7, hF⟩ := z2_e hF
      refine z_callV (q := 212) (o := 14) (av := []) (rest := []) (stk2 := [.int (zi v7)]) C hR clX11 (zon C zo_14) kd_14 (M_fX11_look (zlv hd rfl) ev7) mY_X11_look q_1279 (Nat.le_of_ble_eq_true rfl) dX11_clause_209 rfl rfl rfl ?_
      refine z_bipush (q := 214) C dX11_clause_212 bp_63 rfl ?_
      refine z_icmp_eq (tgt := 222) (q := 217) C dX11_clause_214 (by decide) rfl (fun c8 => ?_) (fun c8 => ?_)
      · have hF := (if_pos c8).symm.trans hF
        refine z_aload_n (q := 223) C dX11_clause_222 0 rfl rfl rfl ?_
        refine z_dup (q := 224) C dX11_clause_223 rfl rfl ?_
        refine z_getf (q := 227) C clX11 (zon C zo_14) kd_14 (k := 3) (by decide) q_1105 rfl (zfv_i kd_14 rfl) dX11_clause_224 rfl ?_
        refine z_iconst (q := 228) C dX11_clause_227 rfl ?_
        refine z_iadd (q := 229) C dX11_clause_228 rfl ?_
        obtain ⟨h9, eh9, hF⟩ := zlet_e hF
        refine z_putf (q := 232) C clX11 (zon C zo_14) kd_14 (k := 3) (x := (h6 14 3) + 1) (by decide) q_1105 rfl rfl rfl rfl (((zfv_i kd_14 rfl)).trans (by rw [if_pos rfl])) dX11_clause_229 rfl eh9 ?_
        refine z_aload_n (q := 233) C dX11_clause_232 0 rfl rfl rfl ?_
        refine z_getf (q := 236) C clX11 (zon C zo_14) kd_14 (k := 11) (by decide) q_1113 rfl (zfv_r kd_14 rfl fr_14_11) dX11_clause_233 rfl ?_
        refine z_iload_n (q := 237) C dX11_clause_236 1 rfl rfl rfl ?_
        refine z_aload_n (q := 238) C dX11_clause_237 0 rfl rfl rfl ?_
        refine z_getf (q := 241) C clX11 (zon C zo_14) kd_14 (k := 8) (by decide) q_1110 rfl (zfv_r kd_14 rfl fr_14_8) dX11_clause_238 rfl ?_
        refine z_aload_n (q := 242) C dX11_clause_241 0 rfl rfl rfl ?_
        refine z_getf (q := 245) C clX11 (zon C zo_14) kd_14 (k := 14) (by decide) q_1116 rfl (zfv_i kd_14 rfl) dX11_clause_242 rfl ?_
        obtain ⟨g10, hF⟩ := zif_none hF
        refine z_iald (q := 246) C (zon C zo_52) kd_52 g10.1 (by rw [ln_52]; exact g10.2) dX11_clause_245 rfl ?_
        obtain ⟨g11, hF⟩ := zif_none hF
        obtain ⟨h12, eh12, hF⟩ := zlet_e hF
        refine z_iast (q := 247) C (zon C zo_55) kd_55 g11.1 (by rw [ln_55]; exact g11.2) dX11_clause_246 rfl eh12 ?_
        refine z_aload_n (q := 248) C dX11_clause_247 0 rfl rfl rfl ?_
        obtain ⟨h13, eh13, hF⟩ := zb_e hF
        refine z_callV (q := 251) (o := 14) (av := []) (rest := []) (stk2 := []) C hR clX11 (zon C zo_14) kd_14 (M_fX11_sum (zlv hd rfl) eh13) mY_X11_sum q_1356 (Nat.le_of_ble_eq_true rfl) dX11_clause_248 rfl rfl rfl ?_
        exact z_sub (J_fX11_clause_c251 C hR hd e1 e2 _ _ hF) [0, 1] rfl
      · have hF := (if_neg c8).symm.trans hF
        refine z_aload_n (q := 218) C dX11_clause_217 0 rfl rfl rfl ?_
        obtain ⟨h14, eh14, hF⟩ := zlet_e hF
        refine z_callV (q := 221) (o := 14) (av := []) (rest := []) (stk2 := []) C hR clX11 (zon C zo_14) kd_14 (M_fX11_bad (zlv hd rfl) eh14.symm) mY_X11_bad q_1310 (Nat.le_of_ble_eq_true rfl) dX11_clause_218 rfl rfl rfl ?_
        have hF := Option.some.inj hF
        subst hF
        exact z_vret C e1 e2 dX11_clause_221
set_option maxRecDepth 20000 in
set_option maxHeartbeats 4000000 in
theorem J_fX11_clause_c128 {κ : zT} (C : zC κ RX11 cX11_clause 3 none) {d : Nat} (hR : zR κ = zrm (d + 1)) (hd : 125 ≤ d + 1) {N : Nat} {r : zH} (e1 : zrv κ = none) (e2 : zhf κ = r) (l1 : Int) (s0 : Int) (h : zH) (hF : fX11_clause_c128 N l1 s0 h = some r) : Z κ h 128 [(0, .ref (zα κ 14)), (1, .int (zi l1))] [.int (zi s0)] := by
  unfold fX11_clause_c128 at hF
  refine z_istore_n (q := 129) C dX11_clause_128 (by decide) rfl rfl rfl ?_
  refine z_iload_n (q := 130) C dX11_clause_129 0 rfl rfl rfl ?_
  refine z_if_eq (tgt := 140) (q := 133) C dX11_clause_130 (by decide) rfl (fun c1 => ?_) (fun c1 => ?_)
  · have hF := (if_pos c1).symm.trans hF
    refine z_aload_n (q := 141) C dX11_clause_140 1 rfl rfl rfl ?_
    obtain ⟨h2, eh2, hF⟩ := zb_e hF
    refine z_callV (q := 144) (o := 14) (av := []) (rest := []) (stk2 := []) C hR clX11 (zon C zo_14) kd_14 (M_fX11_sum (zlv hd rfl) eh2) mY_X11_sum q_1356 (Nat.le_of_ble_eq_true rfl) dX11_clause_141 rfl rfl rfl ?_
    refine z_aload_n (q := 145) C dX11_clause_144 1 rfl rfl rfl ?_
    refine z_getf (q := 148) C clX11 (zon C zo_14) kd_14 (k := 4) (by decide) q_1106 rfl (zfv_i kd_14 rfl) dX11_clause_145 rfl ?_
    refine z_iconst (q := 149) C dX11_clause_148 rfl ?_
    refine z_icmp_ne (tgt := 166) (q := 152) C dX11_clause_149 (by decide) rfl (fun c3 => ?_) (fun c3 => ?_)
    · have hF := (if_neg c3).symm.trans hF
      refine z_iconst (q := 167) C dX11_clause_166 rfl ?_
      refine z_istore_n (q := 168) C dX11_clause_167 (by decide) rfl rfl rfl ?_
      refine z_iload_n (q := 169) C dX11_clause_168 0 rfl rfl rfl ?_
      refine z_if_eq (tgt := 184) (q := 172) C dX11_clause_169 (by decide) rfl (fun c15 => ?_) (fun c15 => ?_)
      · have hF := (if_pos c15).symm.trans hF
        exact z_sub (J_fX11_clause_c184 C hR hd e1 e2 _ _ _ hF) [1, 2, 0] rfl
      · have hF := (if_neg c15).symm.trans hF
        refine z_aload_n (q := 173) C dX11_clause_172 1 rfl rfl rfl ?_
        obtain ⟨h16, eh16, hF⟩ := zb_e hF
        refine z_callV (q := 176) (o := 14) (av := []) (rest := []) (stk2 := []) C hR clX11 (zon C zo_14) kd_14 (M_fX11_compare (zlv hd rfl) eh16) mY_X11_compare q_1375 (Nat.le_of_ble_eq_true rfl) dX11_clause_173 rfl rfl rfl ?_
        refine z_aload_n (q := 177) C dX11_clause_176 1 rfl rfl rfl ?_
        obtain ⟨h17, eh17, hF⟩ := zb_e hF
        refine z_callV (q := 180) (o := 14) (av := []) (rest := []) (stk2 := []) C hR clX11 (zon C zo_14) kd_14 (M_fX11_goOnAnd (zlv hd rfl) eh17) mY_X11_goOnAnd q_1382 (Nat.le_of_ble_eq_true rfl) dX11_clause_177 rfl rfl rfl ?_
        refine z_aload_n (q := 181) C dX11_clause_180 1 rfl rfl rfl ?_
        obtain ⟨h18, eh18, hF⟩ := zb_e hF
        refine z_callV (q := 184) (o := 14) (av := []) (rest := []) (stk2 := []) C hR clX11 (zon C zo_14) kd_14 (M_fX11_goOnOr (zlv hd rfl) eh18) mY_X11_goOnOr q_1386 (Nat.le_of_ble_eq_true rfl) dX11_clause_181 rfl rfl rfl ?_
        exact z_sub (J_fX11_clause_c184 C hR hd e1 e2 _ _ _ hF) [1, 2, 0] rfl
    · have hF := (if_pos c3).symm.trans hF
      refine z_aload_n (q := 153) C dX11_clause_152 1 rfl rfl rfl ?_
      obtain ⟨v5, h4, ev5, hF⟩ := z2_e hF
      refine z_callV (q := 156) (o := 14) (av := []) (rest := []) (stk2 := [.int (zi v5)]) C hR clX11 (zon C zo_14) kd_14 (M_fX11_look (zlv hd rfl) ev5) mY_X11_look q_1279 (Nat.le_of_ble_eq_true rfl) dX11_clause_153 rfl rfl rfl ?_
      refine z_callS (q := 159) (av := [.int (zi v5)]) (rest := []) (stk2 := [.int (zi (fX11_isSign v5))]) C hR (M_fX11_isSign (zlv hd rfl) rfl) mY_X11_isSign q_1379 (Nat.le_of_ble_eq_true rfl) dX11_clause_156 rfl rfl rfl ?_
      refine z_if_eq (tgt := 166) (q := 162) C dX11_clause_159 (by decide) rfl (fun c6 => ?_) (fun c6 => ?_)
      · have hF := (if_pos c6).symm.trans hF
        refine z_iconst (q := 167) C dX11_clause_166 rfl ?_
        refine z_istore_n (q := 168) C dX11_clause_167 (by decide) rfl rfl rfl ?_
        refine z_iload_n (q := 169) C dX11_clause_168 0 rfl rfl rfl ?_
        refine z_if_eq (tgt := 184) (q := 172) C dX11_clause_169 (by decide) rfl (fun c7 => ?_) (fun c7 => ?_)
        · have hF := (if_pos c7).symm.trans hF
          exact z_sub (J_fX11_clause_c184 C hR hd e1 e2 _ _ _ hF) [1, 2, 0] rfl
        · have hF := (if_neg c7).symm.trans hF
          refine z_aload_n (q := 173) C dX11_clause_172 1 rfl rfl rfl ?_
          obtain ⟨h8, eh8, hF⟩ := zb_e hF
          refine z_callV (q := 176) (o := 14) (av := []) (rest := []) (stk2 := []) C hR clX11 (zon C zo_14) kd_14 (M_fX11_compare (zlv hd rfl) eh8) mY_X11_compare q_1375 (Nat.le_of_ble_eq_true rfl) dX11_clause_173 rfl rfl rfl ?_
          refine z_aload_n (q := 177) C dX11_clause_176 1 rfl rfl rfl ?_
          obtain ⟨h9, eh9, hF⟩ := zb_e hF
          refine z_callV (q := 180) (o := 14) (av := []) (rest := []) (stk2 := []) C hR clX11 (zon C zo_14) kd_14 (M_fX11_goOnAnd (zlv hd rfl) eh9) mY_X11_goOnAnd q_1382 (Nat.le_of_ble_eq_true rfl) dX11_clause_177 rfl rfl rfl ?_
          refine z_aload_n (q := 181) C dX11_clause_180 1 rfl rfl rfl ?_
          obtain ⟨h10, eh10, hF⟩ := zb_e hF
          refine z_callV (q := 184) (o := 14) (av := []) (rest := []) (stk2 := []) C hR clX11 (zon C zo_14) kd_14 (M_fX11_goOnOr (zlv hd rfl) eh10) mY_X11_goOnOr q_1386 (Nat.le_of_ble_eq_true rfl) dX11_clause_181 rfl rfl rfl ?_
          exact z_sub (J_fX11_clause_c184 C hR hd e1 e2 _ _ _ hF) [1, 2, 0] rfl
      · have hF := (if_neg c6).symm.trans hF
        refine z_iconst (q := 163) C dX11_clause_162 rfl ?_
        refine z_goto (q := 167) C dX11_clause_163 (by decide) ?_
        refine z_istore_n (q := 168) C dX11_clause_167 (by decide) rfl rfl rfl ?_
        refine z_iload_n (q := 169) C dX11_clause_168 0 rfl rfl rfl ?_
        refine z_if_eq (tgt := 184) (q := 172) C dX11_clause_169 (by decide) rfl (fun c11 => ?_) (fun c11 => ?_)
        · have hF := (if_pos c11).symm.trans hF
          exact z_sub (J_fX11_clause_c184 C hR hd e1 e2 _ _ _ hF) [1, 2, 0] rfl
        · have hF := (if_neg c11).symm.trans hF
          refine z_aload_n (q := 173) C dX11_clause_172 1 rfl rfl rfl ?_
          obtain ⟨h12, eh12, hF⟩ := zb_e hF
          refine z_callV (q := 176) (o := 14) (av := []) (rest := []) (stk2 := []) C hR clX11 (zon C zo_14) kd_14 (M_fX11_compare (zlv hd rfl) eh12) mY_X11_compare q_1375 (Nat.le_of_ble_eq_true rfl) dX11_clause_173 rfl rfl rfl ?_
          refine z_aload_n (q := 177) C dX11_clause_176 1 rfl rfl rfl ?_
          obtain ⟨h13, eh13, hF⟩ := zb_e hF
          refine z_callV (q := 180) (o := 14) (av := []) (rest := []) (stk2 := []) C hR clX11 (zon C zo_14) kd_14 (M_fX11_goOnAnd (zlv hd rfl) eh13) mY_X11_goOnAnd q_1382 (Nat.le_of_ble_eq_true rfl) dX11_clause_177 rfl rfl rfl ?_
          refine z_aload_n (q := 181) C dX11_clause_180 1 rfl rfl rfl ?_
          obtain ⟨h14, eh14, hF⟩ := zb_e hF
          refine z_callV (q := 184) (o := 14) (av := []) (rest := []) (stk2 := []) C hR clX11 (zon C zo_14) kd_14 (M_fX11_goOnOr (zlv hd rfl) eh14) mY_X11_goOnOr q_1386 (Nat.le_of_ble_eq_true rfl) dX11_clause_181 rfl rfl rfl ?_
          exact z_sub (J_fX11_clause_c184 C hR hd e1 e2 _ _ _ hF) [1, 2, 0] rfl
  · have hF := (if_neg c1).symm.trans hF
    refine z_aload_n (q := 134) C dX11_clause_133 1 rfl rfl rfl ?_
    obtain ⟨h19, eh19, hF⟩ := zb_e hF
    refine z_callV (q := 137) (o := 14) (av := []) (rest := []) (stk2 := []) C hR clX11 (zon C zo_14) kd_14 (M_fX11_condition (zlv hd rfl) eh19) mY_X11_condition q_1336 (Nat.le_of_ble_eq_true rfl) dX11_clause_134 rfl rfl rfl ?_
    refine z_goto (q := 184) C dX11_clause_137 (by decide) ?_
    exact z_sub (J_fX11_clause_c184 C hR hd e1 e2 _ _ _ hF) [1, 2, 0] rfl
set_option maxRecDepth 20000 in
set_option maxHeartbeats 4000000 in
theorem J_fX11_clause_c71 {κ : zT} (C : zC κ RX11 cX11_clause 3 none) {d : Nat} (hR : zR κ = zrm (d + 1)) (hd : 125 ≤ d + 1) {N : Nat} {r : zH} (e1 : zrv κ = none) (e2 : zhf κ = r) (l1 : Int) (h : zH) (hF : fX11_clause_c71 N l1 h = some r) : Z κ h 71 [(0, .ref (zα κ 14)), (1, .int (zi l1))] [] := by
  unfold fX11_clause_c71 at hF
  refine z_aload_n (q := 72) C dX11_clause_71 0 rfl rfl rfl ?_
  refine z_dup (q := 73) C dX11_clause_72 rfl rfl ?_
  refine z_getf (q := 76) C clX11 (zon C zo_14) kd_14 (k := 3) (by decide) q_1105 rfl (zfv_i kd_14 rfl) dX11_clause_73 rfl ?_
  refine z_iconst (q := 77) C dX11_clause_76 rfl ?_
  refine z_iadd (q := 78) C dX11_clause_77 rfl ?_
  obtain ⟨h1, eh1, hF⟩ := zlet_e hF
  refine z_putf (q := 81) C clX11 (zon C zo_14) kd_14 (k := 3) (x := (h 14 3) + 1) (by decide) q_1105 rfl rfl rfl rfl (((zfv_i kd_14 rfl)).trans (by rw [if_pos rfl])) dX11_clause_78 rfl eh1 ?_
  refine z_aload_n (q := 82) C dX11_clause_81 0 rfl rfl rfl ?_
  refine z_getf (q := 85) C clX11 (zon C zo_14) kd_14 (k := 4) (by decide) q_1106 rfl (zfv_i kd_14 rfl) dX11_clause_82 rfl ?_
  refine z_iconst (q := 86) C dX11_clause_85 rfl ?_
  refine z_icmp_eq (tgt := 90) (q := 89) C dX11_clause_86 (by decide) rfl (fun c2 => ?_) (fun c2 => ?_)
  · have hF := (if_pos c2).symm.trans hF
    refine z_aload_n (q := 91) C dX11_clause_90 0 rfl rfl rfl ?_
    refine z_getf (q := 94) C clX11 (zon C zo_14) kd_14 (k := 10) (by decide) q_1112 rfl (zfv_r kd_14 rfl fr_14_10) dX11_clause_91 rfl ?_
    refine z_iload_n (q := 95) C dX11_clause_94 1 rfl rfl rfl ?_
    refine z_aload_n (q := 96) C dX11_clause_95 0 rfl rfl rfl ?_
    refine z_getf (q := 99) C clX11 (zon C zo_14) kd_14 (k := 8) (by decide) q_1110 rfl (zfv_r kd_14 rfl fr_14_8) dX11_clause_96 rfl ?_
    refine z_aload_n (q := 100) C dX11_clause_99 0 rfl rfl rfl ?_
    refine z_getf (q := 103) C clX11 (zon C zo_14) kd_14 (k := 14) (by decide) q_1116 rfl (zfv_i kd_14 rfl) dX11_clause_100 rfl ?_
    obtain ⟨g3, hF⟩ := zif_none hF
    refine z_iald (q := 104) C (zon C zo_52) kd_52 g3.1 (by rw [ln_52]; exact g3.2) dX11_clause_103 rfl ?_
    obtain ⟨g4, hF⟩ := zif_none hF
    obtain ⟨h5, eh5, hF⟩ := zlet_e hF
    refine z_iast (q := 105) C (zon C zo_54) kd_54 g4.1 (by rw [ln_54]; exact g4.2) dX11_clause_104 rfl eh5 ?_
    refine z_aload_n (q := 106) C dX11_clause_105 0 rfl rfl rfl ?_
    obtain ⟨v7, h6, ev7, hF⟩ := z2_e hF
    refine z_callV (q := 109) (o := 14) (av := []) (rest := []) (stk2 := [.int (zi v7)]) C hR clX11 (zon C zo_14) kd_14 (M_fX11_look (zlv hd rfl) ev7) mY_X11_look q_1279 (Nat.le_of_ble_eq_true rfl) dX11_clause_106 rfl rfl rfl ?_
    refine z_bipush (q := 111) C dX11_clause_109 bp_33 rfl ?_
    refine z_icmp_eq (tgt := 123) (q := 114) C dX11_clause_111 (by decide) rfl (fun c8 => ?_) (fun c8 => ?_)
    · have hF := (if_pos c8).symm.trans hF
      refine z_iconst (q := 124) C dX11_clause_123 rfl ?_
      refine z_goto (q := 128) C dX11_clause_124 (by decide) ?_
      exact z_sub (J_fX11_clause_c128 C hR hd e1 e2 _ _ _ hF) [0, 1] rfl
    · have hF := (if_neg c8).symm.trans hF
      refine z_aload_n (q := 115) C dX11_clause_114 0 rfl rfl rfl ?_
      obtain ⟨v10, h9, ev10, hF⟩ := z2_e hF
      refine z_callV (q := 118) (o := 14) (av := []) (rest := []) (stk2 := [.int (zi v10)]) C hR clX11 (zon C zo_14) kd_14 (M_fX11_look (zlv hd rfl) ev10) mY_X11_look q_1279 (Nat.le_of_ble_eq_true rfl) dX11_clause_115 rfl rfl rfl ?_
      refine z_bipush (q := 120) C dX11_clause_118 bp_40 rfl ?_
      refine z_icmp_ne (tgt := 127) (q := 123) C dX11_clause_120 (by decide) rfl (fun c11 => ?_) (fun c11 => ?_)
      · have hF := (if_neg c11).symm.trans hF
        refine z_iconst (q := 128) C dX11_clause_127 rfl ?_
        exact z_sub (J_fX11_clause_c128 C hR hd e1 e2 _ _ _ hF) [0, 1] rfl
      · have hF := (if_pos c11).symm.trans hF
        refine z_iconst (q := 124) C dX11_clause_123 rfl ?_
        refine z_goto (q := 128) C dX11_clause_124 (by decide) ?_
        exact z_sub (J_fX11_clause_c128 C hR hd e1 e2 _ _ _ hF) [0, 1] rfl
  · have hF := (if_neg c2).symm.trans hF
    have hF := Option.some.inj hF
    subst hF
    exact z_vret C e1 e2 dX11_clause_89
set_option maxRecDepth 20000 in
set_option maxHeartbeats 4000000 in
theorem J_fX11_clause_c40 {κ : zT} (C : zC κ RX11 cX11_clause 3 none) {d : Nat} (hR : zR κ = zrm (d + 1)) (hd : 125 ≤ d + 1) {N : Nat} {r : zH} (e1 : zrv κ = none) (e2 : zhf κ = r) (l1 : Int) (h : zH) (hF : fX11_clause_c40 N l1 h = some r) : Z κ h 40 [(0, .ref (zα κ 14)), (1, .int (zi l1))] [] := by
  unfold fX11_clause_c40 at hF
  refine z_aload_n (q := 41) C dX11_clause_40 0 rfl rfl rfl ?_
  refine z_dup (q := 42) C dX11_clause_41 rfl rfl ?_
  refine z_getf (q := 45) C clX11 (zon C zo_14) kd_14 (k := 3) (by decide) q_1105 rfl (zfv_i kd_14 rfl) dX11_clause_42 rfl ?_
  refine z_iconst (q := 46) C dX11_clause_45 rfl ?_
  refine z_iadd (q := 47) C dX11_clause_46 rfl ?_
  obtain ⟨h1, eh1, hF⟩ := zlet_e hF
  refine z_putf (q := 50) C clX11 (zon C zo_14) kd_14 (k := 3) (x := (h 14 3) + 1) (by decide) q_1105 rfl rfl rfl rfl (((zfv_i kd_14 rfl)).trans (by rw [if_pos rfl])) dX11_clause_47 rfl eh1 ?_
  refine z_aload_n (q := 51) C dX11_clause_50 0 rfl rfl rfl ?_
  refine z_getf (q := 54) C clX11 (zon C zo_14) kd_14 (k := 4) (by decide) q_1106 rfl (zfv_i kd_14 rfl) dX11_clause_51 rfl ?_
  refine z_iconst (q := 55) C dX11_clause_54 rfl ?_
  refine z_icmp_ne (tgt := 71) (q := 58) C dX11_clause_55 (by decide) rfl (fun c2 => ?_) (fun c2 => ?_)
  · have hF := (if_neg c2).symm.trans hF
    exact z_sub (J_fX11_clause_c71 C hR hd e1 e2 _ _ hF) [0, 1] rfl
  · have hF := (if_pos c2).symm.trans hF
    refine z_aload_n (q := 59) C dX11_clause_58 0 rfl rfl rfl ?_
    obtain ⟨v4, h3, ev4, hF⟩ := z2_e hF
    refine z_callV (q := 62) (o := 14) (av := []) (rest := []) (stk2 := [.int (zi v4)]) C hR clX11 (zon C zo_14) kd_14 (M_fX11_look (zlv hd rfl) ev4) mY_X11_look q_1279 (Nat.le_of_ble_eq_true rfl) dX11_clause_59 rfl rfl rfl ?_
    refine z_bipush (q := 64) C dX11_clause_62 bp_58 rfl ?_
    refine z_icmp_eq (tgt := 71) (q := 67) C dX11_clause_64 (by decide) rfl (fun c5 => ?_) (fun c5 => ?_)
    · have hF := (if_pos c5).symm.trans hF
      exact z_sub (J_fX11_clause_c71 C hR hd e1 e2 _ _ hF) [0, 1] rfl
    · have hF := (if_neg c5).symm.trans hF
      refine z_aload_n (q := 68) C dX11_clause_67 0 rfl rfl rfl ?_
      obtain ⟨h6, eh6, hF⟩ := zlet_e hF
      refine z_callV (q := 71) (o := 14) (av := []) (rest := []) (stk2 := []) C hR clX11 (zon C zo_14) kd_14 (M_fX11_bad (zlv hd rfl) eh6.symm) mY_X11_bad q_1310 (Nat.le_of_ble_eq_true rfl) dX11_clause_68 rfl rfl rfl ?_
      exact z_sub (J_fX11_clause_c71 C hR hd e1 e2 _ _ hF) [0, 1] rfl
set_option maxRecDepth 20000 in
set_option maxHeartbeats 4000000 in
theorem J_fX11_clause {κ : zT} (C : zC κ RX11 cX11_clause 3 none) {d : Nat} (hR : zR κ = zrm (d + 1)) (hd : 125 ≤ d + 1) {N : Nat} {r : zH} (e1 : zrv κ = none) (e2 : zhf κ = r) {h : zH} (hF : fX11_clause N h = some r) : Z κ h 0 [(0, .ref (zα κ 14))] [] := by
  unfold fX11_clause at hF
  refine z_sipush (q := 3) C dX11_clause_0 sp_140 rfl ?_
  refine z_aload_n (q := 4) C dX11_clause_3 0 rfl rfl rfl ?_
  refine z_getf (q := 7) C clX11 (zon C zo_14) kd_14 (k := 14) (by decide) q_1116 rfl (zfv_i kd_14 rfl) dX11_clause_4 rfl ?_
  refine z_imul (q := 8) C dX11_clause_7 rfl ?_
  refine z_aload_n (q := 9) C dX11_clause_8 0 rfl rfl rfl ?_
  refine z_getf (q := 12) C clX11 (zon C zo_14) kd_14 (k := 9) (by decide) q_1111 rfl (zfv_r kd_14 rfl fr_14_9) dX11_clause_9 rfl ?_
  refine z_aload_n (q := 13) C dX11_clause_12 0 rfl rfl rfl ?_
  refine z_getf (q := 16) C clX11 (zon C zo_14) kd_14 (k := 14) (by decide) q_1116 rfl (zfv_i kd_14 rfl) dX11_clause_13 rfl ?_
  obtain ⟨g1, hF⟩ := zif_none hF
  refine z_iald (q := 17) C (zon C zo_53) kd_53 g1.1 (by rw [ln_53]; exact g1.2) dX11_clause_16 rfl ?_
  refine z_iadd (q := 18) C dX11_clause_17 rfl ?_
  obtain ⟨v2, ev2, hF⟩ := zlet_e hF
  refine z_istoreE_n (q := 19) C ev2 dX11_clause_18 (by decide) rfl rfl rfl ?_
  refine z_aload_n (q := 20) C dX11_clause_19 1 rfl rfl rfl ?_
  refine z_getf (q := 23) C clX11 (zon C zo_14) kd_14 (k := 4) (by decide) q_1106 rfl (zfv_i kd_14 rfl) dX11_clause_20 rfl ?_
  refine z_iconst (q := 24) C dX11_clause_23 rfl ?_
  refine z_icmp_ne (tgt := 40) (q := 27) C dX11_clause_24 (by decide) rfl (fun c3 => ?_) (fun c3 => ?_)
  · have hF := (if_neg c3).symm.trans hF
    exact z_sub (J_fX11_clause_c40 C hR hd e1 e2 _ _ hF) [1, 0] rfl
  · have hF := (if_pos c3).symm.trans hF
    refine z_aload_n (q := 28) C dX11_clause_27 1 rfl rfl rfl ?_
    obtain ⟨v5, h4, ev5, hF⟩ := z2_e hF
    refine z_callV (q := 31) (o := 14) (av := []) (rest := []) (stk2 := [.int (zi v5)]) C hR clX11 (zon C zo_14) kd_14 (M_fX11_look (zlv hd rfl) ev5) mY_X11_look q_1279 (Nat.le_of_ble_eq_true rfl) dX11_clause_28 rfl rfl rfl ?_
    refine z_bipush (q := 33) C dX11_clause_31 bp_121 rfl ?_
    refine z_icmp_eq (tgt := 40) (q := 36) C dX11_clause_33 (by decide) rfl (fun c6 => ?_) (fun c6 => ?_)
    · have hF := (if_pos c6).symm.trans hF
      exact z_sub (J_fX11_clause_c40 C hR hd e1 e2 _ _ hF) [1, 0] rfl
    · have hF := (if_neg c6).symm.trans hF
      refine z_aload_n (q := 37) C dX11_clause_36 1 rfl rfl rfl ?_
      obtain ⟨h7, eh7, hF⟩ := zlet_e hF
      refine z_callV (q := 40) (o := 14) (av := []) (rest := []) (stk2 := []) C hR clX11 (zon C zo_14) kd_14 (M_fX11_bad (zlv hd rfl) eh7.symm) mY_X11_bad q_1310 (Nat.le_of_ble_eq_true rfl) dX11_clause_37 rfl rfl rfl ?_
      exact z_sub (J_fX11_clause_c40 C hR hd e1 e2 _ _ hF) [1, 0] rfl
set_option maxRecDepth 20000 in
set_option maxHeartbeats 4000000 in
theorem M_fX11_clause {l : Launch} {D : va_G} {cy : ClassId} {α : Nat → Nat} {n : Nat} {σ : zSg} {d : Nat} (hd : 125 ≤ d) {N : Nat} {h : zH} {g : zH} (hF : fX11_clause N h = some g) : zMet l yX11_clause cX11_clause 3 none (zrm d) D cy α n σ [.ref (α 14)] h (none) g := by
  obtain ⟨d, rfl⟩ : ∃ e, d = e + 1 := ⟨d - 1, by omega⟩
  refine z_met (by decide +kernel) (Nat.le_of_ble_eq_true rfl) (fun κ k1 k2 k3 k4 k5 k6 k7 k8 k9 C => ?_)
  subst k1 k3 k4 k5 k6 k7
  exact J_fX11_clause C k2 hd k8 k9 hF
set_option maxRecDepth 20000 in
set_option maxHeartbeats 4000000 in
theorem J_fX11_atEnd {κ : zT} (C : zC κ RX11 cX11_atEnd 1 (some .int)) {d : Nat} (hR : zR κ = zrm (d + 1)) (hd : 3 ≤ d + 1) {N : Nat} {r : Int × zH} (e1 : zrv κ = some (.int (zi r.1))) (e2 : zhf κ = r.2) {h : zH} (hF : fX11_atEnd N h = some r) : Z κ h 0 [(0, .ref (zα κ 14))] [] := by
  unfold fX11_atEnd at hF
  refine z_aload_n (q := 1) C dX11_atEnd_0 0 rfl rfl rfl ?_
  refine z_getf (q := 4) C clX11 (zon C zo_14) kd_14 (k := 4) (by decide) q_1106 rfl (zfv_i kd_14 rfl) dX11_atEnd_1 rfl ?_
  refine z_iconst (q := 5) C dX11_atEnd_4 rfl ?_
  refine z_icmp_ne (tgt := 20) (q := 8) C dX11_atEnd_5 (by decide) rfl (fun c1 => ?_) (fun c1 => ?_)
  · have hF := (if_neg c1).symm.trans hF
    refine z_aload_n (q := 21) C dX11_atEnd_20 0 rfl rfl rfl ?_
    refine z_getf (q := 24) C clX11 (zon C zo_14) kd_14 (k := 4) (by decide) q_1106 rfl (zfv_i kd_14 rfl) dX11_atEnd_21 rfl ?_
    have hF := Option.some.inj hF
    subst hF
    exact z_iret C e1 e2 dX11_atEnd_24
  · have hF := (if_pos c1).symm.trans hF
    refine z_aload_n (q := 9) C dX11_atEnd_8 0 rfl rfl rfl ?_
    obtain ⟨v3, h2, ev3, hF⟩ := z2_e hF
    refine z_callV (q := 12) (o := 14) (av := []) (rest := []) (stk2 := [.int (zi v3)]) C hR clX11 (zon C zo_14) kd_14 (M_fX11_look (zlv hd rfl) ev3) mY_X11_look q_1279 (Nat.le_of_ble_eq_true rfl) dX11_atEnd_9 rfl rfl rfl ?_
    refine z_iconst (q := 13) C dX11_atEnd_12 rfl ?_
    refine z_icmp_eq (tgt := 20) (q := 16) C dX11_atEnd_13 (by decide) rfl (fun c4 => ?_) (fun c4 => ?_)
    · have hF := (if_pos c4).symm.trans hF
      refine z_aload_n (q := 21) C dX11_atEnd_20 0 rfl rfl rfl ?_
      refine z_getf (q := 24) C clX11 (zon C zo_14) kd_14 (k := 4) (by decide) q_1106 rfl (zfv_i kd_14 rfl) dX11_atEnd_21 rfl ?_
      have hF := Option.some.inj hF
      subst hF
      exact z_iret C e1 e2 dX11_atEnd_24
    · have hF := (if_neg c4).symm.trans hF
      refine z_aload_n (q := 17) C dX11_atEnd_16 0 rfl rfl rfl ?_
      obtain ⟨h5, eh5, hF⟩ := zlet_e hF
      refine z_callV (q := 20) (o := 14) (av := []) (rest := []) (stk2 := []) C hR clX11 (zon C zo_14) kd_14 (M_fX11_bad (zlv hd rfl) eh5.symm) mY_X11_bad q_1310 (Nat.le_of_ble_eq_true rfl) dX11_atEnd_17 rfl rfl rfl ?_
      refine z_aload_n (q := 21) C dX11_atEnd_20 0 rfl rfl rfl ?_
      refine z_getf (q := 24) C clX11 (zon C zo_14) kd_14 (k := 4) (by decide) q_1106 rfl (zfv_i kd_14 rfl) dX11_atEnd_21 rfl ?_
      have hF := Option.some.inj hF
      subst hF
      exact z_iret C e1 e2 dX11_atEnd_24
set_option maxRecDepth 20000 in
set_option maxHeartbeats 4000000 in
theorem M_fX11_atEnd {l : Launch} {D : va_G} {cy : ClassId} {α : Nat → Nat} {n : Nat} {σ : zSg} {d : Nat} (hd : 3 ≤ d) {N : Nat} {h : zH} {r : Int} {g : zH} (hF : fX11_atEnd N h = some (r, g)) : zMet l yX11_atEnd cX11_atEnd 1 (some .int) (zrm d) D cy α n σ [.ref (α 14)] h (some (.int (zi r))) g := by
  obtain ⟨d, rfl⟩ : ∃ e, d = e + 1 := ⟨d - 1, by omega⟩
  refine z_met (by decide +kernel) (Nat.le_of_ble_eq_true rfl) (fun κ k1 k2 k3 k4 k5 k6 k7 k8 k9 C => ?_)
  subst k1 k3 k4 k5 k6 k7
  exact J_fX11_atEnd C k2 hd k8 k9 hF
set_option maxRecDepth 20000 in
set_option maxHeartbeats 4000000 in
theorem J_fX11_readLaw_c9b {κ : zT} (C : zC κ RX11 cX11_readLaw 2 (some .int)) {d : Nat} (hR : zR κ = zrm (d + 1)) (hd : 126 ≤ d + 1) {N : Nat} {r : Int × zH} (e1 : zrv κ = some (.int (zi r.1))) (e2 : zhf κ = r.2) {K9 : zH → Option (Int × zH)} (hK9 : ∀ (h : zH), K9 h = some r → Z κ h 9 [(0, .ref (zα κ 14))] []) (h : zH) (hF : fX11_readLaw_c9b N K9 h = some r) : Z κ h 9 [(0, .ref (zα κ 14))] [] := by
  unfold fX11_readLaw_c9b at hF
  refine z_aload_n (q := 10) C dX11_readLaw_9 0 rfl rfl rfl ?_
  refine z_getf (q := 13) C clX11 (zon C zo_14) kd_14 (k := 4) (by decide) q_1106 rfl (zfv_i kd_14 rfl) dX11_readLaw_10 rfl ?_
  refine z_iconst (q := 14) C dX11_readLaw_13 rfl ?_
  refine z_icmp_ne (tgt := 43) (q := 17) C dX11_readLaw_14 (by decide) rfl (fun c1 => ?_) (fun c1 => ?_)
  · have hF := (if_neg c1).symm.trans hF
    refine z_aload_n (q := 44) C dX11_readLaw_43 0 rfl rfl rfl ?_
    obtain ⟨v10, h9, ev10, hF⟩ := z2_e hF
    refine z_callV (q := 47) (o := 14) (av := []) (rest := []) (stk2 := [.int (zi v10)]) C hR clX11 (zon C zo_14) kd_14 (M_fX11_atEnd (zlv hd rfl) ev10) mY_X11_atEnd q_1390 (Nat.le_of_ble_eq_true rfl) dX11_readLaw_44 rfl rfl rfl ?_
    have hF := Option.some.inj hF
    subst hF
    exact z_iret C e1 e2 dX11_readLaw_47
  · have hF := (if_pos c1).symm.trans hF
    refine z_aload_n (q := 18) C dX11_readLaw_17 0 rfl rfl rfl ?_
    obtain ⟨v3, h2, ev3, hF⟩ := z2_e hF
    refine z_callV (q := 21) (o := 14) (av := []) (rest := []) (stk2 := [.int (zi v3)]) C hR clX11 (zon C zo_14) kd_14 (M_fX11_look (zlv hd rfl) ev3) mY_X11_look q_1279 (Nat.le_of_ble_eq_true rfl) dX11_readLaw_18 rfl rfl rfl ?_
    refine z_bipush (q := 23) C dX11_readLaw_21 bp_59 rfl ?_
    refine z_icmp_ne (tgt := 43) (q := 26) C dX11_readLaw_23 (by decide) rfl (fun c4 => ?_) (fun c4 => ?_)
    · have hF := (if_neg c4).symm.trans hF
      refine z_aload_n (q := 44) C dX11_readLaw_43 0 rfl rfl rfl ?_
      obtain ⟨v8, h7, ev8, hF⟩ := z2_e hF
      refine z_callV (q := 47) (o := 14) (av := []) (rest := []) (stk2 := [.int (zi v8)]) C hR clX11 (zon C zo_14) kd_14 (M_fX11_atEnd (zlv hd rfl) ev8) mY_X11_atEnd q_1390 (Nat.le_of_ble_eq_true rfl) dX11_readLaw_44 rfl rfl rfl ?_
      have hF := Option.some.inj hF
      subst hF
      exact z_iret C e1 e2 dX11_readLaw_47
    · have hF := (if_pos c4).symm.trans hF
      refine z_aload_n (q := 27) C dX11_readLaw_26 0 rfl rfl rfl ?_
      refine z_dup (q := 28) C dX11_readLaw_27 rfl rfl ?_
      refine z_getf (q := 31) C clX11 (zon C zo_14) kd_14 (k := 3) (by decide) q_1105 rfl (zfv_i kd_14 rfl) dX11_readLaw_28 rfl ?_
      refine z_iconst (q := 32) C dX11_readLaw_31 rfl ?_
      refine z_iadd (q := 33) C dX11_readLaw_32 rfl ?_
      obtain ⟨h5, eh5, hF⟩ := zlet_e hF
      refine z_putf (q := 36) C clX11 (zon C zo_14) kd_14 (k := 3) (x := (h2 14 3) + 1) (by decide) q_1105 rfl rfl rfl rfl (((zfv_i kd_14 rfl)).trans (by rw [if_pos rfl])) dX11_readLaw_33 rfl eh5 ?_
      refine z_aload_n (q := 37) C dX11_readLaw_36 0 rfl rfl rfl ?_
      obtain ⟨h6, eh6, hF⟩ := zb_e hF
      refine z_callV (q := 40) (o := 14) (av := []) (rest := []) (stk2 := []) C hR clX11 (zon C zo_14) kd_14 (M_fX11_clause (zlv hd rfl) eh6) mY_X11_clause q_1332 (Nat.le_of_ble_eq_true rfl) dX11_readLaw_37 rfl rfl rfl ?_
      refine z_goto (q := 9) C dX11_readLaw_40 (by decide) ?_
      exact z_sub (hK9 _ hF) [0] rfl
set_option maxRecDepth 20000 in
set_option maxHeartbeats 4000000 in
theorem J_fX11_readLaw_c9 {κ : zT} (C : zC κ RX11 cX11_readLaw 2 (some .int)) {d : Nat} (hR : zR κ = zrm (d + 1)) (hd : 126 ≤ d + 1) {N : Nat} {r : Int × zH} (e1 : zrv κ = some (.int (zi r.1))) (e2 : zhf κ = r.2) : ∀ (k : Nat) (h : zH), fX11_readLaw_c9 N k h = some r → Z κ h 9 [(0, .ref (zα κ 14))] [] := by
  intro k
  induction k with
  | zero => intro h hF; cases hF
  | succ k ih => intro h hF; exact J_fX11_readLaw_c9b C hR hd e1 e2 ih h hF
set_option maxRecDepth 20000 in
set_option maxHeartbeats 4000000 in
theorem J_fX11_readLaw {κ : zT} (C : zC κ RX11 cX11_readLaw 2 (some .int)) {d : Nat} (hR : zR κ = zrm (d + 1)) (hd : 126 ≤ d + 1) {N : Nat} {r : Int × zH} (e1 : zrv κ = some (.int (zi r.1))) (e2 : zhf κ = r.2) {a1 : Int} {h : zH} (hF : fX11_readLaw N a1 h = some r) : Z κ h 0 [(0, .ref (zα κ 14)), (1, .int (zi a1))] [] := by
  unfold fX11_readLaw at hF
  refine z_aload_n (q := 1) C dX11_readLaw_0 0 rfl rfl rfl ?_
  refine z_iload_n (q := 2) C dX11_readLaw_1 1 rfl rfl rfl ?_
  obtain ⟨h1, eh1, hF⟩ := zb_e hF
  refine z_callV (q := 5) (o := 14) (av := [.int (zi a1)]) (rest := []) (stk2 := []) C hR clX11 (zon C zo_14) kd_14 (M_fX11_open (zlv hd rfl) eh1) mY_X11_open q_1328 (Nat.le_of_ble_eq_true rfl) dX11_readLaw_2 rfl rfl rfl ?_
  refine z_aload_n (q := 6) C dX11_readLaw_5 0 rfl rfl rfl ?_
  obtain ⟨h2, eh2, hF⟩ := zb_e hF
  refine z_callV (q := 9) (o := 14) (av := []) (rest := []) (stk2 := []) C hR clX11 (zon C zo_14) kd_14 (M_fX11_clause (zlv hd rfl) eh2) mY_X11_clause q_1332 (Nat.le_of_ble_eq_true rfl) dX11_readLaw_6 rfl rfl rfl ?_
  exact z_sub (J_fX11_readLaw_c9 C hR hd e1 e2 N _ hF) [0] rfl
set_option maxRecDepth 20000 in
set_option maxHeartbeats 4000000 in
theorem M_fX11_readLaw {l : Launch} {D : va_G} {cy : ClassId} {α : Nat → Nat} {n : Nat} {σ : zSg} {d : Nat} (hd : 126 ≤ d) {N : Nat} {a1 : Int} {h : zH} {r : Int} {g : zH} (hF : fX11_readLaw N a1 h = some (r, g)) : zMet l yX11_readLaw cX11_readLaw 2 (some .int) (zrm d) D cy α n σ [.ref (α 14), .int (zi a1)] h (some (.int (zi r))) g := by
  obtain ⟨d, rfl⟩ : ∃ e, d = e + 1 := ⟨d - 1, by omega⟩
  refine z_met (by decide +kernel) (Nat.le_of_ble_eq_true rfl) (fun κ k1 k2 k3 k4 k5 k6 k7 k8 k9 C => ?_)
  subst k1 k3 k4 k5 k6 k7
  exact J_fX11_readLaw C k2 hd k8 k9 hF
set_option maxRecDepth 20000 in
set_option maxHeartbeats 4000000 in
theorem J_fX11_figure {κ : zT} (C : zC κ RX11 cX11_figure 2 (some .int)) {d : Nat} (hR : zR κ = zrm (d + 1)) (hd : 3 ≤ d + 1) {N : Nat} {r : Int × zH} (e1 : zrv κ = some (.int (zi r.1))) (e2 : zhf κ = r.2) {h : zH} (hF : fX11_figure N h = some r) : Z κ h 0 [(0, .ref (zα κ 14))] [] := by
  unfold fX11_figure at hF
  refine z_aload_n (q := 1) C dX11_figure_0 0 rfl rfl rfl ?_
  refine z_getf (q := 4) C clX11 (zon C zo_14) kd_14 (k := 4) (by decide) q_1106 rfl (zfv_i kd_14 rfl) dX11_figure_1 rfl ?_
  refine z_iconst (q := 5) C dX11_figure_4 rfl ?_
  refine z_icmp_eq (tgt := 10) (q := 8) C dX11_figure_5 (by decide) rfl (fun c1 => ?_) (fun c1 => ?_)
  · have hF := (if_pos c1).symm.trans hF
    refine z_aload_n (q := 11) C dX11_figure_10 0 rfl rfl rfl ?_
    obtain ⟨v3, h2, ev3, hF⟩ := z2_e hF
    refine z_callV (q := 14) (o := 14) (av := []) (rest := []) (stk2 := [.int (zi v3)]) C hR clX11 (zon C zo_14) kd_14 (M_fX11_look (zlv hd rfl) ev3) mY_X11_look q_1279 (Nat.le_of_ble_eq_true rfl) dX11_figure_11 rfl rfl rfl ?_
    refine z_callS (q := 17) (av := [.int (zi v3)]) (rest := []) (stk2 := [.int (zi (fX11_isDigit v3))]) C hR (M_fX11_isDigit (zlv hd rfl) rfl) mY_X11_isDigit q_1307 (Nat.le_of_ble_eq_true rfl) dX11_figure_14 rfl rfl rfl ?_
    refine z_if_ne (tgt := 26) (q := 20) C dX11_figure_17 (by decide) rfl (fun c4 => ?_) (fun c4 => ?_)
    · have hF := (if_neg c4).symm.trans hF
      refine z_aload_n (q := 27) C dX11_figure_26 0 rfl rfl rfl ?_
      obtain ⟨v6, ev6, hF⟩ := zb_e hF
      refine z_callV (q := 30) (o := 14) (av := []) (rest := []) (stk2 := [.int (zi v6)]) C hR clX11 (zon C zo_14) kd_14 (M_fX11_here (zlv hd rfl) ev6) mY_X11_here q_1283 (Nat.le_of_ble_eq_true rfl) dX11_figure_27 rfl rfl rfl ?_
      refine z_bipush (q := 32) C dX11_figure_30 bp_48 rfl ?_
      refine z_isub (q := 33) C dX11_figure_32 rfl ?_
      refine z_istore_n (q := 34) C dX11_figure_33 (by decide) rfl rfl rfl ?_
      refine z_aload_n (q := 35) C dX11_figure_34 1 rfl rfl rfl ?_
      refine z_dup (q := 36) C dX11_figure_35 rfl rfl ?_
      refine z_getf (q := 39) C clX11 (zon C zo_14) kd_14 (k := 3) (by decide) q_1105 rfl (zfv_i kd_14 rfl) dX11_figure_36 rfl ?_
      refine z_iconst (q := 40) C dX11_figure_39 rfl ?_
      refine z_iadd (q := 41) C dX11_figure_40 rfl ?_
      obtain ⟨h7, eh7, hF⟩ := zlet_e hF
      refine z_putf (q := 44) C clX11 (zon C zo_14) kd_14 (k := 3) (x := (h2 14 3) + 1) (by decide) q_1105 rfl rfl rfl rfl (((zfv_i kd_14 rfl)).trans (by rw [if_pos rfl])) dX11_figure_41 rfl eh7 ?_
      refine z_iload_n (q := 45) C dX11_figure_44 0 rfl rfl rfl ?_
      have hF := Option.some.inj hF
      subst hF
      exact z_iret C e1 e2 dX11_figure_45
    · have hF := (if_pos c4).symm.trans hF
      refine z_aload_n (q := 21) C dX11_figure_20 0 rfl rfl rfl ?_
      obtain ⟨h5, eh5, hF⟩ := zlet_e hF
      refine z_callV (q := 24) (o := 14) (av := []) (rest := []) (stk2 := []) C hR clX11 (zon C zo_14) kd_14 (M_fX11_bad (zlv hd rfl) eh5.symm) mY_X11_bad q_1310 (Nat.le_of_ble_eq_true rfl) dX11_figure_21 rfl rfl rfl ?_
      refine z_iconst (q := 25) C dX11_figure_24 rfl ?_
      have hF := Option.some.inj hF
      subst hF
      exact z_iret C e1 e2 dX11_figure_25
  · have hF := (if_neg c1).symm.trans hF
    refine z_iconst (q := 9) C dX11_figure_8 rfl ?_
    have hF := Option.some.inj hF
    subst hF
    exact z_iret C e1 e2 dX11_figure_9
set_option maxRecDepth 20000 in
set_option maxHeartbeats 4000000 in
theorem M_fX11_figure {l : Launch} {D : va_G} {cy : ClassId} {α : Nat → Nat} {n : Nat} {σ : zSg} {d : Nat} (hd : 3 ≤ d) {N : Nat} {h : zH} {r : Int} {g : zH} (hF : fX11_figure N h = some (r, g)) : zMet l yX11_figure cX11_figure 2 (some .int) (zrm d) D cy α n σ [.ref (α 14)] h (some (.int (zi r))) g := by
  obtain ⟨d, rfl⟩ : ∃ e, d = e + 1 := ⟨d - 1, by omega⟩
  refine z_met (by decide +kernel) (Nat.le_of_ble_eq_true rfl) (fun κ k1 k2 k3 k4 k5 k6 k7 k8 k9 C => ?_)
  subst k1 k3 k4 k5 k6 k7
  exact J_fX11_figure C k2 hd k8 k9 hF
