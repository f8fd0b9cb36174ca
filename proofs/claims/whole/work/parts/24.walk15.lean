set_option maxRecDepth 20000 in
set_option maxHeartbeats 4000000 in
theorem J_fX11_run_c25b {κ : zT} (C : zC κ RX11 cX11_run 3 (some .int)) {d : Nat} (hR : zR κ = zrm (d + 1)) (hd : 10 ≤ d + 1) {N : Nat} {r : Int × zH} (e1 : zrv κ = some (.int (zi r.1))) (e2 : zhf κ = r.2) {K25 : Int → Int → zH → Option (Int × zH)} (hK25 : ∀ (l1 : Int) (l2 : Int) (h : zH), K25 l1 l2 h = some r → Z κ h 25 [(0, .ref (zα κ 14)), (1, .int (zi l1)), (2, .int (zi l2))] []) (l1 : Int) (l2 : Int) (h : zH) (hF : fX11_run_c25b N K25 l1 l2 h = some r) : Z κ h 25 [(0, .ref (zα κ 14)), (1, .int (zi l1)), (2, .int (zi l2))] [] := by
  unfold fX11_run_c25b at hF
  refine z_iload_n (q := 26) C dX11_run_25 2 rfl rfl rfl ?_
  refine z_aload_n (q := 27) C dX11_run_26 0 rfl rfl rfl ?_
  refine z_getf (q := 30) C clX11 (zon C zo_14) kd_14 (k := 32) (by decide) q_1134 rfl (zfv_r kd_14 rfl fr_14_32) dX11_run_27 rfl ?_
  refine z_iload_n (q := 31) C dX11_run_30 1 rfl rfl rfl ?_
  obtain ⟨g1, hF⟩ := zif_none hF
  refine z_iald (q := 32) C (zon C zo_68) kd_68 g1.1 (by rw [ln_68]; exact g1.2) dX11_run_31 rfl ?_
  refine z_icmp_ge (tgt := 68) (q := 35) C dX11_run_32 (by decide) rfl (fun c2 => ?_) (fun c2 => ?_)
  · have hF := (if_pos c2).symm.trans hF
    refine z_aload_n (q := 69) C dX11_run_68 0 rfl rfl rfl ?_
    obtain ⟨h3, eh3, hF⟩ := zb_e hF
    refine z_callV (q := 72) (o := 14) (av := []) (rest := []) (stk2 := []) C hR clX11 (zon C zo_14) kd_14 (M_fX11_takeBack (zlv hd rfl) eh3) mY_X11_takeBack q_1607 (Nat.le_of_ble_eq_true rfl) dX11_run_69 rfl rfl rfl ?_
    refine z_iload_n (q := 73) C dX11_run_72 2 rfl rfl rfl ?_
    refine z_aload_n (q := 74) C dX11_run_73 0 rfl rfl rfl ?_
    refine z_getf (q := 77) C clX11 (zon C zo_14) kd_14 (k := 32) (by decide) q_1134 rfl (zfv_r kd_14 rfl fr_14_32) dX11_run_74 rfl ?_
    refine z_iload_n (q := 78) C dX11_run_77 1 rfl rfl rfl ?_
    obtain ⟨g4, hF⟩ := zif_none hF
    refine z_iald (q := 79) C (zon C zo_68) kd_68 g4.1 (by rw [ln_68]; exact g4.2) dX11_run_78 rfl ?_
    refine z_icmp_ne (tgt := 86) (q := 82) C dX11_run_79 (by decide) rfl (fun c5 => ?_) (fun c5 => ?_)
    · have hF := (if_neg c5).symm.trans hF
      refine z_iload_n (q := 87) C dX11_run_86 2 rfl rfl rfl ?_
      have hF := Option.some.inj hF
      subst hF
      exact z_iret C e1 e2 dX11_run_87
    · have hF := (if_pos c5).symm.trans hF
      refine z_iconst (q := 83) C dX11_run_82 rfl ?_
      refine z_goto (q := 87) C dX11_run_83 (by decide) ?_
      have hF := Option.some.inj hF
      subst hF
      exact z_iret C e1 e2 dX11_run_87
  · have hF := (if_neg c2).symm.trans hF
    refine z_aload_n (q := 36) C dX11_run_35 0 rfl rfl rfl ?_
    refine z_iconst (q := 37) C dX11_run_36 rfl ?_
    refine z_bipush (q := 39) C dX11_run_37 bp_16 rfl ?_
    refine z_iload_n (q := 40) C dX11_run_39 1 rfl rfl rfl ?_
    refine z_imul (q := 41) C dX11_run_40 rfl ?_
    refine z_iload_n (q := 42) C dX11_run_41 2 rfl rfl rfl ?_
    refine z_iadd (q := 43) C dX11_run_42 rfl ?_
    refine z_imul (q := 44) C dX11_run_43 rfl ?_
    obtain ⟨v6, ev6, hF⟩ := zb_e hF
    refine z_callV (q := 47) (o := 14) (av := [.int (zi (3 * ((16 * l1) + l2)))]) (rest := []) (stk2 := [.int (zi v6)]) C hR clX11 (zon C zo_14) kd_14 (M_fX11_canStep (zlv hd rfl) ev6) mY_X11_canStep q_1599 (Nat.le_of_ble_eq_true rfl) dX11_run_44 rfl rfl rfl ?_
    refine z_if_eq (tgt := 68) (q := 50) C dX11_run_47 (by decide) rfl (fun c7 => ?_) (fun c7 => ?_)
    · have hF := (if_pos c7).symm.trans hF
      refine z_aload_n (q := 69) C dX11_run_68 0 rfl rfl rfl ?_
      obtain ⟨h8, eh8, hF⟩ := zb_e hF
      refine z_callV (q := 72) (o := 14) (av := []) (rest := []) (stk2 := []) C hR clX11 (zon C zo_14) kd_14 (M_fX11_takeBack (zlv hd rfl) eh8) mY_X11_takeBack q_1607 (Nat.le_of_ble_eq_true rfl) dX11_run_69 rfl rfl rfl ?_
      refine z_iload_n (q := 73) C dX11_run_72 2 rfl rfl rfl ?_
      refine z_aload_n (q := 74) C dX11_run_73 0 rfl rfl rfl ?_
      refine z_getf (q := 77) C clX11 (zon C zo_14) kd_14 (k := 32) (by decide) q_1134 rfl (zfv_r kd_14 rfl fr_14_32) dX11_run_74 rfl ?_
      refine z_iload_n (q := 78) C dX11_run_77 1 rfl rfl rfl ?_
      obtain ⟨g9, hF⟩ := zif_none hF
      refine z_iald (q := 79) C (zon C zo_68) kd_68 g9.1 (by rw [ln_68]; exact g9.2) dX11_run_78 rfl ?_
      refine z_icmp_ne (tgt := 86) (q := 82) C dX11_run_79 (by decide) rfl (fun c10 => ?_) (fun c10 => ?_)
      · have hF := (if_neg c10).symm.trans hF
        refine z_iload_n (q := 87) C dX11_run_86 2 rfl rfl rfl ?_
        have hF := Option.some.inj hF
        subst hF
        exact z_iret C e1 e2 dX11_run_87
      · have hF := (if_pos c10).symm.trans hF
        refine z_iconst (q := 83) C dX11_run_82 rfl ?_
        refine z_goto (q := 87) C dX11_run_83 (by decide) ?_
        have hF := Option.some.inj hF
        subst hF
        exact z_iret C e1 e2 dX11_run_87
    · have hF := (if_neg c7).symm.trans hF
      refine z_aload_n (q := 51) C dX11_run_50 0 rfl rfl rfl ?_
      refine z_iconst (q := 52) C dX11_run_51 rfl ?_
      refine z_bipush (q := 54) C dX11_run_52 bp_16 rfl ?_
      refine z_iload_n (q := 55) C dX11_run_54 1 rfl rfl rfl ?_
      refine z_imul (q := 56) C dX11_run_55 rfl ?_
      refine z_iload_n (q := 57) C dX11_run_56 2 rfl rfl rfl ?_
      refine z_iadd (q := 58) C dX11_run_57 rfl ?_
      refine z_imul (q := 59) C dX11_run_58 rfl ?_
      obtain ⟨h11, eh11, hF⟩ := zb_e hF
      refine z_callV (q := 62) (o := 14) (av := [.int (zi (3 * ((16 * l1) + l2)))]) (rest := []) (stk2 := []) C hR clX11 (zon C zo_14) kd_14 (M_fX11_doStep (zlv hd rfl) eh11) mY_X11_doStep q_1603 (Nat.le_of_ble_eq_true rfl) dX11_run_59 rfl rfl rfl ?_
      refine z_iinc (q := 65) (x := l2) C dX11_run_62 (j := 2) rfl (by decide) rfl rfl ?_
      refine z_goto (q := 25) C dX11_run_65 (by decide) ?_
      exact z_sub (hK25 _ _ _ hF) [1, 2, 0] rfl
set_option maxRecDepth 20000 in
set_option maxHeartbeats 4000000 in
theorem J_fX11_run_c25 {κ : zT} (C : zC κ RX11 cX11_run 3 (some .int)) {d : Nat} (hR : zR κ = zrm (d + 1)) (hd : 10 ≤ d + 1) {N : Nat} {r : Int × zH} (e1 : zrv κ = some (.int (zi r.1))) (e2 : zhf κ = r.2) : ∀ (k : Nat) (l1 : Int) (l2 : Int) (h : zH), fX11_run_c25 N k l1 l2 h = some r → Z κ h 25 [(0, .ref (zα κ 14)), (1, .int (zi l1)), (2, .int (zi l2))] [] := by
  intro k
  induction k with
  | zero => intro l1 l2 h hF; cases hF
  | succ k ih => intro l1 l2 h hF; exact J_fX11_run_c25b C hR hd e1 e2 ih l1 l2 h hF
set_option maxRecDepth 20000 in
set_option maxHeartbeats 4000000 in
theorem J_fX11_run {κ : zT} (C : zC κ RX11 cX11_run 3 (some .int)) {d : Nat} (hR : zR κ = zrm (d + 1)) (hd : 10 ≤ d + 1) {N : Nat} {r : Int × zH} (e1 : zrv κ = some (.int (zi r.1))) (e2 : zhf κ = r.2) {a1 : Int} {h : zH} (hF : fX11_run N a1 h = some r) : Z κ h 0 [(0, .ref (zα κ 14)), (1, .int (zi a1))] [] := by
  unfold fX11_run at hF
  refine z_aload_n (q := 1) C dX11_run_0 0 rfl rfl rfl ?_
  refine z_getf (q := 4) C clX11 (zon C zo_14) kd_14 (k := 28) (by decide) q_1130 rfl (zfv_i kd_14 rfl) dX11_run_1 rfl ?_
  refine z_if_eq (tgt := 15) (q := 7) C dX11_run_4 (by decide) rfl (fun c1 => ?_) (fun c1 => ?_)
  · have hF := (if_pos c1).symm.trans hF
    refine z_ldcw (q := 18) C kc_RX11_392 dX11_run_15 rfl ?_
    have hF := Option.some.inj hF
    subst hF
    exact z_iret C e1 e2 dX11_run_18
  · have hF := (if_neg c1).symm.trans hF
    refine z_aload_n (q := 8) C dX11_run_7 0 rfl rfl rfl ?_
    refine z_iload_n (q := 9) C dX11_run_8 1 rfl rfl rfl ?_
    refine z_callV (q := 12) (o := 14) (av := [.int (zi a1)]) (rest := []) (stk2 := [.int (zi (fX11_isOrders a1 h))]) C hR clX11 (zon C zo_14) kd_14 (M_fX11_isOrders (zlv hd rfl) rfl) mY_X11_isOrders q_1586 (Nat.le_of_ble_eq_true rfl) dX11_run_9 rfl rfl rfl ?_
    refine z_if_ne (tgt := 19) (q := 15) C dX11_run_12 (by decide) rfl (fun c2 => ?_) (fun c2 => ?_)
    · have hF := (if_neg c2).symm.trans hF
      refine z_aload_n (q := 20) C dX11_run_19 0 rfl rfl rfl ?_
      obtain ⟨h3, eh3, hF⟩ := zb_e hF
      refine z_callV (q := 23) (o := 14) (av := []) (rest := []) (stk2 := []) C hR clX11 (zon C zo_14) kd_14 (M_fX11_putAside (zlv hd rfl) eh3) mY_X11_putAside q_1595 (Nat.le_of_ble_eq_true rfl) dX11_run_20 rfl rfl rfl ?_
      refine z_iconst (q := 24) C dX11_run_23 rfl ?_
      refine z_istore_n (q := 25) C dX11_run_24 (by decide) rfl rfl rfl ?_
      exact z_sub (J_fX11_run_c25 C hR hd e1 e2 N _ _ _ hF) [1, 2, 0] rfl
    · have hF := (if_pos c2).symm.trans hF
      refine z_ldcw (q := 18) C kc_RX11_392 dX11_run_15 rfl ?_
      have hF := Option.some.inj hF
      subst hF
      exact z_iret C e1 e2 dX11_run_18
set_option maxRecDepth 20000 in
set_option maxHeartbeats 4000000 in
theorem M_fX11_run {l : Launch} {D : va_G} {cy : ClassId} {α : Nat → Nat} {n : Nat} {σ : zSg} {d : Nat} (hd : 10 ≤ d) {N : Nat} {a1 : Int} {h : zH} {r : Int} {g : zH} (hF : fX11_run N a1 h = some (r, g)) : zMet l yX11_run cX11_run 3 (some .int) (zrm d) D cy α n σ [.ref (α 14), .int (zi a1)] h (some (.int (zi r))) g := by
  obtain ⟨d, rfl⟩ : ∃ e, d = e + 1 := ⟨d - 1, by omega⟩
  refine z_met (by decide +kernel) (Nat.le_of_ble_eq_true rfl) (fun κ k1 k2 k3 k4 k5 k6 k7 k8 k9 C => ?_)
  subst k1 k3 k4 k5 k6 k7
  exact J_fX11_run C k2 hd k8 k9 hF
set_option maxRecDepth 20000 in
set_option maxHeartbeats 4000000 in
theorem J_fX11_perform_c19b {κ : zT} (C : zC κ RX11 cX11_perform 3 (some .int)) {d : Nat} (hR : zR κ = zrm (d + 1)) (hd : 10 ≤ d + 1) {N : Nat} {r : Int × zH} (e1 : zrv κ = some (.int (zi r.1))) (e2 : zhf κ = r.2) {K19 : Int → Int → zH → Option (Int × zH)} (hK19 : ∀ (l1 : Int) (l2 : Int) (h : zH), K19 l1 l2 h = some r → Z κ h 19 [(0, .ref (zα κ 14)), (1, .int (zi l1)), (2, .int (zi l2))] []) (l1 : Int) (l2 : Int) (h : zH) (hF : fX11_perform_c19b N K19 l1 l2 h = some r) : Z κ h 19 [(0, .ref (zα κ 14)), (1, .int (zi l1)), (2, .int (zi l2))] [] := by
  unfold fX11_perform_c19b at hF
  refine z_iload_n (q := 20) C dX11_perform_19 2 rfl rfl rfl ?_
  refine z_aload_n (q := 21) C dX11_perform_20 0 rfl rfl rfl ?_
  refine z_getf (q := 24) C clX11 (zon C zo_14) kd_14 (k := 32) (by decide) q_1134 rfl (zfv_r kd_14 rfl fr_14_32) dX11_perform_21 rfl ?_
  refine z_iload_n (q := 25) C dX11_perform_24 1 rfl rfl rfl ?_
  obtain ⟨g1, hF⟩ := zif_none hF
  refine z_iald (q := 26) C (zon C zo_68) kd_68 g1.1 (by rw [ln_68]; exact g1.2) dX11_perform_25 rfl ?_
  refine z_icmp_ge (tgt := 66) (q := 29) C dX11_perform_26 (by decide) rfl (fun c2 => ?_) (fun c2 => ?_)
  · have hF := (if_pos c2).symm.trans hF
    refine z_iload_n (q := 67) C dX11_perform_66 2 rfl rfl rfl ?_
    have hF := Option.some.inj hF
    subst hF
    exact z_iret C e1 e2 dX11_perform_67
  · have hF := (if_neg c2).symm.trans hF
    refine z_aload_n (q := 30) C dX11_perform_29 0 rfl rfl rfl ?_
    refine z_iconst (q := 31) C dX11_perform_30 rfl ?_
    refine z_bipush (q := 33) C dX11_perform_31 bp_16 rfl ?_
    refine z_iload_n (q := 34) C dX11_perform_33 1 rfl rfl rfl ?_
    refine z_imul (q := 35) C dX11_perform_34 rfl ?_
    refine z_iload_n (q := 36) C dX11_perform_35 2 rfl rfl rfl ?_
    refine z_iadd (q := 37) C dX11_perform_36 rfl ?_
    refine z_imul (q := 38) C dX11_perform_37 rfl ?_
    obtain ⟨v3, ev3, hF⟩ := zb_e hF
    refine z_callV (q := 41) (o := 14) (av := [.int (zi (3 * ((16 * l1) + l2)))]) (rest := []) (stk2 := [.int (zi v3)]) C hR clX11 (zon C zo_14) kd_14 (M_fX11_canStep (zlv hd rfl) ev3) mY_X11_canStep q_1599 (Nat.le_of_ble_eq_true rfl) dX11_perform_38 rfl rfl rfl ?_
    refine z_if_eq (tgt := 66) (q := 44) C dX11_perform_41 (by decide) rfl (fun c4 => ?_) (fun c4 => ?_)
    · have hF := (if_pos c4).symm.trans hF
      refine z_iload_n (q := 67) C dX11_perform_66 2 rfl rfl rfl ?_
      have hF := Option.some.inj hF
      subst hF
      exact z_iret C e1 e2 dX11_perform_67
    · have hF := (if_neg c4).symm.trans hF
      refine z_aload_n (q := 45) C dX11_perform_44 0 rfl rfl rfl ?_
      obtain ⟨h5, eh5, hF⟩ := zb_e hF
      refine z_callV (q := 48) (o := 14) (av := []) (rest := []) (stk2 := []) C hR clX11 (zon C zo_14) kd_14 (M_fX11_keep (zlv hd rfl) eh5) mY_X11_keep q_1490 (Nat.le_of_ble_eq_true rfl) dX11_perform_45 rfl rfl rfl ?_
      refine z_aload_n (q := 49) C dX11_perform_48 0 rfl rfl rfl ?_
      refine z_iconst (q := 50) C dX11_perform_49 rfl ?_
      refine z_bipush (q := 52) C dX11_perform_50 bp_16 rfl ?_
      refine z_iload_n (q := 53) C dX11_perform_52 1 rfl rfl rfl ?_
      refine z_imul (q := 54) C dX11_perform_53 rfl ?_
      refine z_iload_n (q := 55) C dX11_perform_54 2 rfl rfl rfl ?_
      refine z_iadd (q := 56) C dX11_perform_55 rfl ?_
      refine z_imul (q := 57) C dX11_perform_56 rfl ?_
      obtain ⟨h6, eh6, hF⟩ := zb_e hF
      refine z_callV (q := 60) (o := 14) (av := [.int (zi (3 * ((16 * l1) + l2)))]) (rest := []) (stk2 := []) C hR clX11 (zon C zo_14) kd_14 (M_fX11_doStep (zlv hd rfl) eh6) mY_X11_doStep q_1603 (Nat.le_of_ble_eq_true rfl) dX11_perform_57 rfl rfl rfl ?_
      refine z_iinc (q := 63) (x := l2) C dX11_perform_60 (j := 2) rfl (by decide) rfl rfl ?_
      refine z_goto (q := 19) C dX11_perform_63 (by decide) ?_
      exact z_sub (hK19 _ _ _ hF) [1, 2, 0] rfl
set_option maxRecDepth 20000 in
set_option maxHeartbeats 4000000 in
theorem J_fX11_perform_c19 {κ : zT} (C : zC κ RX11 cX11_perform 3 (some .int)) {d : Nat} (hR : zR κ = zrm (d + 1)) (hd : 10 ≤ d + 1) {N : Nat} {r : Int × zH} (e1 : zrv κ = some (.int (zi r.1))) (e2 : zhf κ = r.2) : ∀ (k : Nat) (l1 : Int) (l2 : Int) (h : zH), fX11_perform_c19 N k l1 l2 h = some r → Z κ h 19 [(0, .ref (zα κ 14)), (1, .int (zi l1)), (2, .int (zi l2))] [] := by
  intro k
  induction k with
  | zero => intro l1 l2 h hF; cases hF
  | succ k ih => intro l1 l2 h hF; exact J_fX11_perform_c19b C hR hd e1 e2 ih l1 l2 h hF
set_option maxRecDepth 20000 in
set_option maxHeartbeats 4000000 in
theorem J_fX11_perform {κ : zT} (C : zC κ RX11 cX11_perform 3 (some .int)) {d : Nat} (hR : zR κ = zrm (d + 1)) (hd : 10 ≤ d + 1) {N : Nat} {r : Int × zH} (e1 : zrv κ = some (.int (zi r.1))) (e2 : zhf κ = r.2) {a1 : Int} {h : zH} (hF : fX11_perform N a1 h = some r) : Z κ h 0 [(0, .ref (zα κ 14)), (1, .int (zi a1))] [] := by
  unfold fX11_perform at hF
  refine z_aload_n (q := 1) C dX11_perform_0 0 rfl rfl rfl ?_
  refine z_getf (q := 4) C clX11 (zon C zo_14) kd_14 (k := 28) (by decide) q_1130 rfl (zfv_i kd_14 rfl) dX11_perform_1 rfl ?_
  refine z_if_eq (tgt := 15) (q := 7) C dX11_perform_4 (by decide) rfl (fun c1 => ?_) (fun c1 => ?_)
  · have hF := (if_pos c1).symm.trans hF
    refine z_iconst (q := 16) C dX11_perform_15 rfl ?_
    have hF := Option.some.inj hF
    subst hF
    exact z_iret C e1 e2 dX11_perform_16
  · have hF := (if_neg c1).symm.trans hF
    refine z_aload_n (q := 8) C dX11_perform_7 0 rfl rfl rfl ?_
    refine z_iload_n (q := 9) C dX11_perform_8 1 rfl rfl rfl ?_
    refine z_callV (q := 12) (o := 14) (av := [.int (zi a1)]) (rest := []) (stk2 := [.int (zi (fX11_isOrders a1 h))]) C hR clX11 (zon C zo_14) kd_14 (M_fX11_isOrders (zlv hd rfl) rfl) mY_X11_isOrders q_1586 (Nat.le_of_ble_eq_true rfl) dX11_perform_9 rfl rfl rfl ?_
    refine z_if_ne (tgt := 17) (q := 15) C dX11_perform_12 (by decide) rfl (fun c2 => ?_) (fun c2 => ?_)
    · have hF := (if_neg c2).symm.trans hF
      refine z_iconst (q := 18) C dX11_perform_17 rfl ?_
      refine z_istore_n (q := 19) C dX11_perform_18 (by decide) rfl rfl rfl ?_
      exact z_sub (J_fX11_perform_c19 C hR hd e1 e2 N _ _ _ hF) [1, 2, 0] rfl
    · have hF := (if_pos c2).symm.trans hF
      refine z_iconst (q := 16) C dX11_perform_15 rfl ?_
      have hF := Option.some.inj hF
      subst hF
      exact z_iret C e1 e2 dX11_perform_16
set_option maxRecDepth 20000 in
set_option maxHeartbeats 4000000 in
theorem M_fX11_perform {l : Launch} {D : va_G} {cy : ClassId} {α : Nat → Nat} {n : Nat} {σ : zSg} {d : Nat} (hd : 10 ≤ d) {N : Nat} {a1 : Int} {h : zH} {r : Int} {g : zH} (hF : fX11_perform N a1 h = some (r, g)) : zMet l yX11_perform cX11_perform 3 (some .int) (zrm d) D cy α n σ [.ref (α 14), .int (zi a1)] h (some (.int (zi r))) g := by
  obtain ⟨d, rfl⟩ : ∃ e, d = e + 1 := ⟨d - 1, by omega⟩
  refine z_met (by decide +kernel) (Nat.le_of_ble_eq_true rfl) (fun κ k1 k2 k3 k4 k5 k6 k7 k8 k9 C => ?_)
  subst k1 k3 k4 k5 k6 k7
  exact J_fX11_perform C k2 hd k8 k9 hF
set_option maxRecDepth 20000 in
set_option maxHeartbeats 4000000 in
theorem J_fX11_ahead_c37b {κ : zT} (C : zC κ RX11 cX11_ahead 5 (some .int)) {d : Nat} (hR : zR κ = zrm (d + 1)) (hd : 9 ≤ d + 1) {N : Nat} {r : Int × zH} (e1 : zrv κ = some (.int (zi r.1))) (e2 : zhf κ = r.2) {K37 : Int → Int → Int → Int → zH → Option (Int × zH)} (hK37 : ∀ (l1 : Int) (l2 : Int) (l3 : Int) (l4 : Int) (h : zH), K37 l1 l2 l3 l4 h = some r → Z κ h 37 [(0, .ref (zα κ 14)), (1, .int (zi l1)), (2, .int (zi l2)), (3, .int (zi l3)), (4, .int (zi l4))] []) (l1 : Int) (l2 : Int) (l3 : Int) (l4 : Int) (h : zH) (hF : fX11_ahead_c37b N K37 l1 l2 l3 l4 h = some r) : Z κ h 37 [(0, .ref (zα κ 14)), (1, .int (zi l1)), (2, .int (zi l2)), (3, .int (zi l3)), (4, .int (zi l4))] [] := by
  unfold fX11_ahead_c37b at hF
  refine z_iload (q := 39) C dX11_ahead_37 4 rfl rfl ?_
  refine z_iload_n (q := 40) C dX11_ahead_39 2 rfl rfl rfl ?_
  refine z_icmp_ge (tgt := 54) (q := 43) C dX11_ahead_40 (by decide) rfl (fun c1 => ?_) (fun c1 => ?_)
  · have hF := (if_pos c1).symm.trans hF
    refine z_aload_n (q := 55) C dX11_ahead_54 0 rfl rfl rfl ?_
    refine z_iload_n (q := 56) C dX11_ahead_55 1 rfl rfl rfl ?_
    refine z_iload_n (q := 57) C dX11_ahead_56 3 rfl rfl rfl ?_
    refine z_if_ne (tgt := 64) (q := 60) C dX11_ahead_57 (by decide) rfl (fun c2 => ?_) (fun c2 => ?_)
    · have hF := (if_neg c2).symm.trans hF
      refine z_iconst (q := 65) C dX11_ahead_64 rfl ?_
      obtain ⟨v5, ev5, hF⟩ := zb_e hF
      refine z_callV (q := 68) (o := 14) (av := [.int (zi l1), .int (zi 4)]) (rest := []) (stk2 := [.int (zi v5)]) C hR clX11 (zon C zo_14) kd_14 (M_fX11_of (zlv hd rfl) ev5) mY_X11_of q_1430 (Nat.le_of_ble_eq_true rfl) dX11_ahead_65 rfl rfl rfl ?_
      refine z_istore (q := 70) C dX11_ahead_68 (by decide) rfl rfl ?_
      refine z_aload_n (q := 71) C dX11_ahead_70 1 rfl rfl rfl ?_
      obtain ⟨h6, eh6, hF⟩ := zb_e hF
      refine z_callV (q := 74) (o := 14) (av := []) (rest := []) (stk2 := []) C hR clX11 (zon C zo_14) kd_14 (M_fX11_takeBack (zlv hd rfl) eh6) mY_X11_takeBack q_1607 (Nat.le_of_ble_eq_true rfl) dX11_ahead_71 rfl rfl rfl ?_
      refine z_iload (q := 76) C dX11_ahead_74 0 rfl rfl ?_
      have hF := Option.some.inj hF
      subst hF
      exact z_iret C e1 e2 dX11_ahead_76
    · have hF := (if_pos c2).symm.trans hF
      refine z_iconst (q := 61) C dX11_ahead_60 rfl ?_
      refine z_goto (q := 65) C dX11_ahead_61 (by decide) ?_
      obtain ⟨v3, ev3, hF⟩ := zb_e hF
      refine z_callV (q := 68) (o := 14) (av := [.int (zi l1), .int (zi 0)]) (rest := []) (stk2 := [.int (zi v3)]) C hR clX11 (zon C zo_14) kd_14 (M_fX11_of (zlv hd rfl) ev3) mY_X11_of q_1430 (Nat.le_of_ble_eq_true rfl) dX11_ahead_65 rfl rfl rfl ?_
      refine z_istore (q := 70) C dX11_ahead_68 (by decide) rfl rfl ?_
      refine z_aload_n (q := 71) C dX11_ahead_70 1 rfl rfl rfl ?_
      obtain ⟨h4, eh4, hF⟩ := zb_e hF
      refine z_callV (q := 74) (o := 14) (av := []) (rest := []) (stk2 := []) C hR clX11 (zon C zo_14) kd_14 (M_fX11_takeBack (zlv hd rfl) eh4) mY_X11_takeBack q_1607 (Nat.le_of_ble_eq_true rfl) dX11_ahead_71 rfl rfl rfl ?_
      refine z_iload (q := 76) C dX11_ahead_74 0 rfl rfl ?_
      have hF := Option.some.inj hF
      subst hF
      exact z_iret C e1 e2 dX11_ahead_76
  · have hF := (if_neg c1).symm.trans hF
    refine z_aload_n (q := 44) C dX11_ahead_43 0 rfl rfl rfl ?_
    refine z_iconst (q := 45) C dX11_ahead_44 rfl ?_
    obtain ⟨h7, eh7, hF⟩ := zb_e hF
    refine z_callV (q := 48) (o := 14) (av := [.int (zi 0)]) (rest := []) (stk2 := []) C hR clX11 (zon C zo_14) kd_14 (M_fX11_pass (zlv hd rfl) eh7) mY_X11_pass q_1518 (Nat.le_of_ble_eq_true rfl) dX11_ahead_45 rfl rfl rfl ?_
    refine z_iinc (q := 51) (x := l4) C dX11_ahead_48 (j := 4) rfl (by decide) rfl rfl ?_
    refine z_goto (q := 37) C dX11_ahead_51 (by decide) ?_
    exact z_sub (hK37 _ _ _ _ _ hF) [1, 2, 3, 4, 0] rfl
set_option maxRecDepth 20000 in
set_option maxHeartbeats 4000000 in
theorem J_fX11_ahead_c37 {κ : zT} (C : zC κ RX11 cX11_ahead 5 (some .int)) {d : Nat} (hR : zR κ = zrm (d + 1)) (hd : 9 ≤ d + 1) {N : Nat} {r : Int × zH} (e1 : zrv κ = some (.int (zi r.1))) (e2 : zhf κ = r.2) : ∀ (k : Nat) (l1 : Int) (l2 : Int) (l3 : Int) (l4 : Int) (h : zH), fX11_ahead_c37 N k l1 l2 l3 l4 h = some r → Z κ h 37 [(0, .ref (zα κ 14)), (1, .int (zi l1)), (2, .int (zi l2)), (3, .int (zi l3)), (4, .int (zi l4))] [] := by
  intro k
  induction k with
  | zero => intro l1 l2 l3 l4 h hF; cases hF
  | succ k ih => intro l1 l2 l3 l4 h hF; exact J_fX11_ahead_c37b C hR hd e1 e2 ih l1 l2 l3 l4 h hF
set_option maxRecDepth 20000 in
set_option maxHeartbeats 4000000 in
theorem J_fX11_ahead {κ : zT} (C : zC κ RX11 cX11_ahead 5 (some .int)) {d : Nat} (hR : zR κ = zrm (d + 1)) (hd : 9 ≤ d + 1) {N : Nat} {r : Int × zH} (e1 : zrv κ = some (.int (zi r.1))) (e2 : zhf κ = r.2) {a1 : Int} {a2 : Int} {a3 : Int} {h : zH} (hF : fX11_ahead N a1 a2 a3 h = some r) : Z κ h 0 [(0, .ref (zα κ 14)), (1, .int (zi a1)), (2, .int (zi a2)), (3, .int (zi a3))] [] := by
  unfold fX11_ahead at hF
  refine z_aload_n (q := 1) C dX11_ahead_0 0 rfl rfl rfl ?_
  refine z_iload_n (q := 2) C dX11_ahead_1 1 rfl rfl rfl ?_
  refine z_callV (q := 5) (o := 14) (av := [.int (zi a1)]) (rest := []) (stk2 := [.int (zi (fX11_isParish a1 h))]) C hR clX11 (zon C zo_14) kd_14 (M_fX11_isParish (zlv hd rfl) rfl) mY_X11_isParish q_1426 (Nat.le_of_ble_eq_true rfl) dX11_ahead_2 rfl rfl rfl ?_
  refine z_if_eq (tgt := 28) (q := 8) C dX11_ahead_5 (by decide) rfl (fun c1 => ?_) (fun c1 => ?_)
  · have hF := (if_pos c1).symm.trans hF
    refine z_iconst (q := 29) C dX11_ahead_28 rfl ?_
    have hF := Option.some.inj hF
    subst hF
    exact z_iret C e1 e2 dX11_ahead_29
  · have hF := (if_neg c1).symm.trans hF
    refine z_iload_n (q := 9) C dX11_ahead_8 2 rfl rfl rfl ?_
    refine z_iconst (q := 10) C dX11_ahead_9 rfl ?_
    refine z_sipush (q := 13) C dX11_ahead_10 sp_240 rfl ?_
    refine z_callS (q := 16) (av := [.int (zi a2), .int (zi 0), .int (zi 240)]) (rest := []) (stk2 := [.int (zi (fX11_in a2 0 240))]) C hR (M_fX11_in (zlv hd rfl) rfl) mY_X11_in q_1314 (Nat.le_of_ble_eq_true rfl) dX11_ahead_13 rfl rfl rfl ?_
    refine z_if_eq (tgt := 28) (q := 19) C dX11_ahead_16 (by decide) rfl (fun c2 => ?_) (fun c2 => ?_)
    · have hF := (if_pos c2).symm.trans hF
      refine z_iconst (q := 29) C dX11_ahead_28 rfl ?_
      have hF := Option.some.inj hF
      subst hF
      exact z_iret C e1 e2 dX11_ahead_29
    · have hF := (if_neg c2).symm.trans hF
      refine z_iload_n (q := 20) C dX11_ahead_19 3 rfl rfl rfl ?_
      refine z_iconst (q := 21) C dX11_ahead_20 rfl ?_
      refine z_iconst (q := 22) C dX11_ahead_21 rfl ?_
      refine z_callS (q := 25) (av := [.int (zi a3), .int (zi 0), .int (zi 1)]) (rest := []) (stk2 := [.int (zi (fX11_in a3 0 1))]) C hR (M_fX11_in (zlv hd rfl) rfl) mY_X11_in q_1314 (Nat.le_of_ble_eq_true rfl) dX11_ahead_22 rfl rfl rfl ?_
      refine z_if_ne (tgt := 30) (q := 28) C dX11_ahead_25 (by decide) rfl (fun c3 => ?_) (fun c3 => ?_)
      · have hF := (if_neg c3).symm.trans hF
        refine z_aload_n (q := 31) C dX11_ahead_30 0 rfl rfl rfl ?_
        obtain ⟨h4, eh4, hF⟩ := zb_e hF
        refine z_callV (q := 34) (o := 14) (av := []) (rest := []) (stk2 := []) C hR clX11 (zon C zo_14) kd_14 (M_fX11_putAside (zlv hd rfl) eh4) mY_X11_putAside q_1595 (Nat.le_of_ble_eq_true rfl) dX11_ahead_31 rfl rfl rfl ?_
        refine z_iconst (q := 35) C dX11_ahead_34 rfl ?_
        refine z_istore (q := 37) C dX11_ahead_35 (by decide) rfl rfl ?_
        exact z_sub (J_fX11_ahead_c37 C hR hd e1 e2 N _ _ _ _ _ hF) [1, 2, 3, 4, 0] rfl
      · have hF := (if_pos c3).symm.trans hF
        refine z_iconst (q := 29) C dX11_ahead_28 rfl ?_
        have hF := Option.some.inj hF
        subst hF
        exact z_iret C e1 e2 dX11_ahead_29
set_option maxRecDepth 20000 in
set_option maxHeartbeats 4000000 in
theorem M_fX11_ahead {l : Launch} {D : va_G} {cy : ClassId} {α : Nat → Nat} {n : Nat} {σ : zSg} {d : Nat} (hd : 9 ≤ d) {N : Nat} {a1 : Int} {a2 : Int} {a3 : Int} {h : zH} {r : Int} {g : zH} (hF : fX11_ahead N a1 a2 a3 h = some (r, g)) : zMet l yX11_ahead cX11_ahead 5 (some .int) (zrm d) D cy α n σ [.ref (α 14), .int (zi a1), .int (zi a2), .int (zi a3)] h (some (.int (zi r))) g := by
  obtain ⟨d, rfl⟩ : ∃ e, d = e + 1 := ⟨d - 1, by omega⟩
  refine z_met (by decide +kernel) (Nat.le_of_ble_eq_true rfl) (fun κ k1 k2 k3 k4 k5 k6 k7 k8 k9 C => ?_)
  subst k1 k3 k4 k5 k6 k7
  exact J_fX11_ahead C k2 hd k8 k9 hF
set_option maxRecDepth 20000 in
set_option maxHeartbeats 4000000 in
theorem J_fX11_neededFor_c13b {κ : zT} (C : zC κ RX11 cX11_neededFor 5 (some .int)) {d : Nat} (hR : zR κ = zrm (d + 1)) (hd : 2 ≤ d + 1) {N : Nat} {h : zH} {r : Int} (e1 : zrv κ = some (.int (zi r))) (e2 : zhf κ = h) {K4 : Int → Int → Option Int} (hK4 : ∀ (l2 : Int) (l3 : Int), K4 l2 l3 = some r → Z κ h 4 [(0, .ref (zα κ 14)), (2, .int (zi l2)), (3, .int (zi l3))] []) {K13 : Int → Int → Int → Option Int} (hK13 : ∀ (l2 : Int) (l3 : Int) (l4 : Int), K13 l2 l3 l4 = some r → Z κ h 13 [(0, .ref (zα κ 14)), (2, .int (zi l2)), (3, .int (zi l3)), (4, .int (zi l4))] []) (l2 : Int) (l3 : Int) (l4 : Int) (hF : fX11_neededFor_c13b N h K4 K13 l2 l3 l4 = some r) : Z κ h 13 [(0, .ref (zα κ 14)), (2, .int (zi l2)), (3, .int (zi l3)), (4, .int (zi l4))] [] := by
  unfold fX11_neededFor_c13b at hF
  refine z_iload (q := 15) C dX11_neededFor_13 3 rfl rfl ?_
  refine z_aload_n (q := 16) C dX11_neededFor_15 0 rfl rfl rfl ?_
  refine z_getf (q := 19) C clX11 (zon C zo_14) kd_14 (k := 30) (by decide) q_1132 rfl (zfv_i kd_14 rfl) dX11_neededFor_16 rfl ?_
  refine z_icmp_ge (tgt := 50) (q := 22) C dX11_neededFor_19 (by decide) rfl (fun c1 => ?_) (fun c1 => ?_)
  · have hF := (if_pos c1).symm.trans hF
    refine z_iinc (q := 53) (x := l3) C dX11_neededFor_50 (j := 2) rfl (by decide) rfl rfl ?_
    refine z_goto (q := 4) C dX11_neededFor_53 (by decide) ?_
    exact z_sub (hK4 _ _ hF) [1, 2, 0] rfl
  · have hF := (if_neg c1).symm.trans hF
    refine z_iload_n (q := 23) C dX11_neededFor_22 1 rfl rfl rfl ?_
    refine z_iload_n (q := 24) C dX11_neededFor_23 1 rfl rfl rfl ?_
    refine z_iload (q := 26) C dX11_neededFor_24 3 rfl rfl ?_
    refine z_callS (q := 29) (av := [.int (zi l2), .int (zi l4)]) (rest := [.int (zi l2)]) (stk2 := [.int (zi (fX11_has l2 l4)), .int (zi l2)]) C hR (M_fX11_has (zlv hd rfl) rfl) mY_X11_has q_1294 (Nat.le_of_ble_eq_true rfl) dX11_neededFor_26 rfl rfl rfl ?_
    refine z_if_eq (tgt := 41) (q := 32) C dX11_neededFor_29 (by decide) rfl (fun c2 => ?_) (fun c2 => ?_)
    · have hF := (if_pos c2).symm.trans hF
      refine z_iconst (q := 42) C dX11_neededFor_41 rfl ?_
      refine z_ior (q := 43) C dX11_neededFor_42 rfl ?_
      refine z_istore_n (q := 44) C dX11_neededFor_43 (by decide) rfl rfl rfl ?_
      refine z_iinc (q := 47) (x := l4) C dX11_neededFor_44 (j := 3) rfl (by decide) rfl rfl ?_
      refine z_goto (q := 13) C dX11_neededFor_47 (by decide) ?_
      exact z_sub (hK13 _ _ _ hF) [2, 1, 3, 0] rfl
    · have hF := (if_neg c2).symm.trans hF
      refine z_aload_n (q := 33) C dX11_neededFor_32 0 rfl rfl rfl ?_
      refine z_iload (q := 35) C dX11_neededFor_33 3 rfl rfl ?_
      obtain ⟨v3, ev3, hF⟩ := zb_e hF
      refine z_callV (q := 38) (o := 14) (av := [.int (zi l4)]) (rest := [.int (zi l2)]) (stk2 := [.int (zi v3), .int (zi l2)]) C hR clX11 (zon C zo_14) kd_14 (M_fX11_wants (zlv hd rfl) ev3) mY_X11_wants q_1486 (Nat.le_of_ble_eq_true rfl) dX11_neededFor_35 rfl rfl rfl ?_
      refine z_goto (q := 42) C dX11_neededFor_38 (by decide) ?_
      refine z_ior (q := 43) C dX11_neededFor_42 rfl ?_
      refine z_istore_n (q := 44) C dX11_neededFor_43 (by decide) rfl rfl rfl ?_
      refine z_iinc (q := 47) (x := l4) C dX11_neededFor_44 (j := 3) rfl (by decide) rfl rfl ?_
      refine z_goto (q := 13) C dX11_neededFor_47 (by decide) ?_
      exact z_sub (hK13 _ _ _ hF) [2, 1, 3, 0] rfl
set_option maxRecDepth 20000 in
set_option maxHeartbeats 4000000 in
theorem J_fX11_neededFor_c13 {κ : zT} (C : zC κ RX11 cX11_neededFor 5 (some .int)) {d : Nat} (hR : zR κ = zrm (d + 1)) (hd : 2 ≤ d + 1) {N : Nat} {h : zH} {r : Int} (e1 : zrv κ = some (.int (zi r))) (e2 : zhf κ = h) {K4 : Int → Int → Option Int} (hK4 : ∀ (l2 : Int) (l3 : Int), K4 l2 l3 = some r → Z κ h 4 [(0, .ref (zα κ 14)), (2, .int (zi l2)), (3, .int (zi l3))] []) : ∀ (k : Nat) (l2 : Int) (l3 : Int) (l4 : Int), fX11_neededFor_c13 N h K4 k l2 l3 l4 = some r → Z κ h 13 [(0, .ref (zα κ 14)), (2, .int (zi l2)), (3, .int (zi l3)), (4, .int (zi l4))] [] := by
  intro k
  induction k with
  | zero => intro l2 l3 l4 hF; cases hF
  | succ k ih => intro l2 l3 l4 hF; exact J_fX11_neededFor_c13b C hR hd e1 e2 hK4 ih l2 l3 l4 hF
set_option maxRecDepth 20000 in
set_option maxHeartbeats 4000000 in
theorem J_fX11_neededFor_c4b {κ : zT} (C : zC κ RX11 cX11_neededFor 5 (some .int)) {d : Nat} (hR : zR κ = zrm (d + 1)) (hd : 2 ≤ d + 1) {N : Nat} {h : zH} {r : Int} (e1 : zrv κ = some (.int (zi r))) (e2 : zhf κ = h) {K4 : Int → Int → Option Int} (hK4 : ∀ (l2 : Int) (l3 : Int), K4 l2 l3 = some r → Z κ h 4 [(0, .ref (zα κ 14)), (2, .int (zi l2)), (3, .int (zi l3))] []) (l2 : Int) (l3 : Int) (hF : fX11_neededFor_c4b N h K4 l2 l3 = some r) : Z κ h 4 [(0, .ref (zα κ 14)), (2, .int (zi l2)), (3, .int (zi l3))] [] := by
  unfold fX11_neededFor_c4b at hF
  refine z_iload_n (q := 5) C dX11_neededFor_4 2 rfl rfl rfl ?_
  refine z_bipush (q := 7) C dX11_neededFor_5 bp_8 rfl ?_
  refine z_icmp_ge (tgt := 56) (q := 10) C dX11_neededFor_7 (by decide) rfl (fun c1 => ?_) (fun c1 => ?_)
  · have hF := (if_pos c1).symm.trans hF
    refine z_iload_n (q := 57) C dX11_neededFor_56 1 rfl rfl rfl ?_
    have hF := Option.some.inj hF
    subst hF
    exact z_iret C e1 e2 dX11_neededFor_57
  · have hF := (if_neg c1).symm.trans hF
    refine z_iconst (q := 11) C dX11_neededFor_10 rfl ?_
    refine z_istore (q := 13) C dX11_neededFor_11 (by decide) rfl rfl ?_
    exact z_sub (J_fX11_neededFor_c13 C hR hd e1 e2 hK4 N _ _ _ hF) [1, 2, 3, 0] rfl
set_option maxRecDepth 20000 in
set_option maxHeartbeats 4000000 in
theorem J_fX11_neededFor_c4 {κ : zT} (C : zC κ RX11 cX11_neededFor 5 (some .int)) {d : Nat} (hR : zR κ = zrm (d + 1)) (hd : 2 ≤ d + 1) {N : Nat} {h : zH} {r : Int} (e1 : zrv κ = some (.int (zi r))) (e2 : zhf κ = h) : ∀ (k : Nat) (l2 : Int) (l3 : Int), fX11_neededFor_c4 N h k l2 l3 = some r → Z κ h 4 [(0, .ref (zα κ 14)), (2, .int (zi l2)), (3, .int (zi l3))] [] := by
  intro k
  induction k with
  | zero => intro l2 l3 hF; cases hF
  | succ k ih => intro l2 l3 hF; exact J_fX11_neededFor_c4b C hR hd e1 e2 ih l2 l3 hF
set_option maxRecDepth 20000 in
set_option maxHeartbeats 4000000 in
theorem J_fX11_neededFor {κ : zT} (C : zC κ RX11 cX11_neededFor 5 (some .int)) {d : Nat} (hR : zR κ = zrm (d + 1)) (hd : 2 ≤ d + 1) {N : Nat} {h : zH} {r : Int} (e1 : zrv κ = some (.int (zi r))) (e2 : zhf κ = h) {a1 : Int} (hF : fX11_neededFor N a1 h = some r) : Z κ h 0 [(0, .ref (zα κ 14)), (1, .int (zi a1))] [] := by
  unfold fX11_neededFor at hF
  refine z_iload_n (q := 1) C dX11_neededFor_0 1 rfl rfl rfl ?_
  refine z_istore_n (q := 2) C dX11_neededFor_1 (by decide) rfl rfl rfl ?_
  refine z_iconst (q := 3) C dX11_neededFor_2 rfl ?_
  refine z_istore_n (q := 4) C dX11_neededFor_3 (by decide) rfl rfl rfl ?_
  exact z_sub (J_fX11_neededFor_c4 C hR hd e1 e2 N _ _ hF) [2, 1, 0] rfl
set_option maxRecDepth 20000 in
set_option maxHeartbeats 4000000 in
theorem M_fX11_neededFor {l : Launch} {D : va_G} {cy : ClassId} {α : Nat → Nat} {n : Nat} {σ : zSg} {d : Nat} (hd : 2 ≤ d) {N : Nat} {a1 : Int} {h : zH} {r : Int} (hF : fX11_neededFor N a1 h = some r) : zMet l yX11_neededFor cX11_neededFor 5 (some .int) (zrm d) D cy α n σ [.ref (α 14), .int (zi a1)] h (some (.int (zi r))) h := by
  obtain ⟨d, rfl⟩ : ∃ e, d = e + 1 := ⟨d - 1, by omega⟩
  refine z_met (by decide +kernel) (Nat.le_of_ble_eq_true rfl) (fun κ k1 k2 k3 k4 k5 k6 k7 k8 k9 C => ?_)
  subst k1 k3 k4 k5 k6 k7
  exact J_fX11_neededFor C k2 hd k8 k9 hF
set_option maxRecDepth 20000 in
set_option maxHeartbeats 4000000 in
theorem J_fX11_needed {κ : zT} (C : zC κ RX11 cX11_needed 2 (some .int)) {d : Nat} (hR : zR κ = zrm (d + 1)) (hd : 3 ≤ d + 1) {N : Nat} {h : zH} {r : Int} (e1 : zrv κ = some (.int (zi r))) (e2 : zhf κ = h) {a1 : Int} (hF : fX11_needed N a1 h = some r) : Z κ h 0 [(0, .ref (zα κ 14)), (1, .int (zi a1))] [] := by
  unfold fX11_needed at hF
  refine z_aload_n (q := 1) C dX11_needed_0 0 rfl rfl rfl ?_
  refine z_iload_n (q := 2) C dX11_needed_1 1 rfl rfl rfl ?_
  refine z_callV (q := 5) (o := 14) (av := [.int (zi a1)]) (rest := []) (stk2 := [.int (zi (fX11_isPaper a1 h))]) C hR clX11 (zon C zo_14) kd_14 (M_fX11_isPaper (zlv hd rfl) rfl) mY_X11_isPaper q_1466 (Nat.le_of_ble_eq_true rfl) dX11_needed_2 rfl rfl rfl ?_
  refine z_if_eq (tgt := 18) (q := 8) C dX11_needed_5 (by decide) rfl (fun c1 => ?_) (fun c1 => ?_)
  · have hF := (if_pos c1).symm.trans hF
    refine z_iconst (q := 19) C dX11_needed_18 rfl ?_
    have hF := Option.some.inj hF
    subst hF
    exact z_iret C e1 e2 dX11_needed_19
  · have hF := (if_neg c1).symm.trans hF
    refine z_aload_n (q := 9) C dX11_needed_8 0 rfl rfl rfl ?_
    refine z_iconst (q := 10) C dX11_needed_9 rfl ?_
    refine z_iload_n (q := 11) C dX11_needed_10 1 rfl rfl rfl ?_
    refine z_ishl (q := 12) C dX11_needed_11 rfl ?_
    obtain ⟨v2, ev2, hF⟩ := zb_e hF
    refine z_callV (q := 15) (o := 14) (av := [.int (zi (zshl 1 a1))]) (rest := []) (stk2 := [.int (zi v2)]) C hR clX11 (zon C zo_14) kd_14 (M_fX11_neededFor (zlv hd rfl) ev2) mY_X11_neededFor q_1623 (Nat.le_of_ble_eq_true rfl) dX11_needed_12 rfl rfl rfl ?_
    refine z_goto (q := 19) C dX11_needed_15 (by decide) ?_
    have hF := Option.some.inj hF
    subst hF
    exact z_iret C e1 e2 dX11_needed_19
set_option maxRecDepth 20000 in
set_option maxHeartbeats 4000000 in
theorem M_fX11_needed {l : Launch} {D : va_G} {cy : ClassId} {α : Nat → Nat} {n : Nat} {σ : zSg} {d : Nat} (hd : 3 ≤ d) {N : Nat} {a1 : Int} {h : zH} {r : Int} (hF : fX11_needed N a1 h = some r) : zMet l yX11_needed cX11_needed 2 (some .int) (zrm d) D cy α n σ [.ref (α 14), .int (zi a1)] h (some (.int (zi r))) h := by
  obtain ⟨d, rfl⟩ : ∃ e, d = e + 1 := ⟨d - 1, by omega⟩
  refine z_met (by decide +kernel) (Nat.le_of_ble_eq_true rfl) (fun κ k1 k2 k3 k4 k5 k6 k7 k8 k9 C => ?_)
  subst k1 k3 k4 k5 k6 k7
  exact J_fX11_needed C k2 hd k8 k9 hF
set_option maxRecDepth 20000 in
set_option maxHeartbeats 4000000 in
theorem J_fX11_ring_c13b {κ : zT} (C : zC κ RX11 cX11_ring 3 (some .int)) {d : Nat} (hR : zR κ = zrm (d + 1)) (hd : 3 ≤ d + 1) {N : Nat} {h : zH} {r : Int} (e1 : zrv κ = some (.int (zi r))) (e2 : zhf κ = h) {K13 : Int → Int → Option Int} (hK13 : ∀ (l1 : Int) (l2 : Int), K13 l1 l2 = some r → Z κ h 13 [(0, .ref (zα κ 14)), (1, .int (zi l1)), (2, .int (zi l2))] []) (l1 : Int) (l2 : Int) (hF : fX11_ring_c13b N h K13 l1 l2 = some r) : Z κ h 13 [(0, .ref (zα κ 14)), (1, .int (zi l1)), (2, .int (zi l2))] [] := by
  unfold fX11_ring_c13b at hF
  refine z_iload_n (q := 14) C dX11_ring_13 2 rfl rfl rfl ?_
  refine z_aload_n (q := 15) C dX11_ring_14 0 rfl rfl rfl ?_
  refine z_getf (q := 18) C clX11 (zon C zo_14) kd_14 (k := 30) (by decide) q_1132 rfl (zfv_i kd_14 rfl) dX11_ring_15 rfl ?_
  refine z_icmp_ge (tgt := 53) (q := 21) C dX11_ring_18 (by decide) rfl (fun c1 => ?_) (fun c1 => ?_)
  · have hF := (if_pos c1).symm.trans hF
    refine z_iload_n (q := 54) C dX11_ring_53 1 rfl rfl rfl ?_
    have hF := Option.some.inj hF
    subst hF
    exact z_iret C e1 e2 dX11_ring_54
  · have hF := (if_neg c1).symm.trans hF
    refine z_iload_n (q := 22) C dX11_ring_21 1 rfl rfl rfl ?_
    refine z_aload_n (q := 23) C dX11_ring_22 0 rfl rfl rfl ?_
    refine z_aload_n (q := 24) C dX11_ring_23 0 rfl rfl rfl ?_
    refine z_iload_n (q := 25) C dX11_ring_24 2 rfl rfl rfl ?_
    obtain ⟨v2, ev2, hF⟩ := zb_e hF
    refine z_callV (q := 28) (o := 14) (av := [.int (zi l2)]) (rest := [.ref (zα κ 14), .int (zi l1)]) (stk2 := [.int (zi v2), .ref (zα κ 14), .int (zi l1)]) C hR clX11 (zon C zo_14) kd_14 (M_fX11_wants (zlv hd rfl) ev2) mY_X11_wants q_1486 (Nat.le_of_ble_eq_true rfl) dX11_ring_25 rfl rfl rfl ?_
    obtain ⟨v3, ev3, hF⟩ := zb_e hF
    refine z_callV (q := 31) (o := 14) (av := [.int (zi v2)]) (rest := [.int (zi l1)]) (stk2 := [.int (zi v3), .int (zi l1)]) C hR clX11 (zon C zo_14) kd_14 (M_fX11_neededFor (zlv hd rfl) ev3) mY_X11_neededFor q_1623 (Nat.le_of_ble_eq_true rfl) dX11_ring_28 rfl rfl rfl ?_
    refine z_iload_n (q := 32) C dX11_ring_31 2 rfl rfl rfl ?_
    refine z_callS (q := 35) (av := [.int (zi v3), .int (zi l2)]) (rest := [.int (zi l1)]) (stk2 := [.int (zi (fX11_has v3 l2)), .int (zi l1)]) C hR (M_fX11_has (zlv hd rfl) rfl) mY_X11_has q_1294 (Nat.le_of_ble_eq_true rfl) dX11_ring_32 rfl rfl rfl ?_
    refine z_if_eq (tgt := 44) (q := 38) C dX11_ring_35 (by decide) rfl (fun c4 => ?_) (fun c4 => ?_)
    · have hF := (if_pos c4).symm.trans hF
      refine z_iconst (q := 45) C dX11_ring_44 rfl ?_
      refine z_ior (q := 46) C dX11_ring_45 rfl ?_
      refine z_istore_n (q := 47) C dX11_ring_46 (by decide) rfl rfl rfl ?_
      refine z_iinc (q := 50) (x := l2) C dX11_ring_47 (j := 2) rfl (by decide) rfl rfl ?_
      refine z_goto (q := 13) C dX11_ring_50 (by decide) ?_
      exact z_sub (hK13 _ _ hF) [2, 1, 0] rfl
    · have hF := (if_neg c4).symm.trans hF
      refine z_iconst (q := 39) C dX11_ring_38 rfl ?_
      refine z_iload_n (q := 40) C dX11_ring_39 2 rfl rfl rfl ?_
      refine z_ishl (q := 41) C dX11_ring_40 rfl ?_
      refine z_goto (q := 45) C dX11_ring_41 (by decide) ?_
      refine z_ior (q := 46) C dX11_ring_45 rfl ?_
      obtain ⟨v5, ev5, hF⟩ := zlet_e hF
      refine z_istoreE_n (q := 47) C ev5 dX11_ring_46 (by decide) rfl rfl rfl ?_
      refine z_iinc (q := 50) (x := l2) C dX11_ring_47 (j := 2) rfl (by decide) rfl rfl ?_
      refine z_goto (q := 13) C dX11_ring_50 (by decide) ?_
      exact z_sub (hK13 _ _ hF) [2, 1, 0] rfl
set_option maxRecDepth 20000 in
set_option maxHeartbeats 4000000 in
theorem J_fX11_ring_c13 {κ : zT} (C : zC κ RX11 cX11_ring 3 (some .int)) {d : Nat} (hR : zR κ = zrm (d + 1)) (hd : 3 ≤ d + 1) {N : Nat} {h : zH} {r : Int} (e1 : zrv κ = some (.int (zi r))) (e2 : zhf κ = h) : ∀ (k : Nat) (l1 : Int) (l2 : Int), fX11_ring_c13 N h k l1 l2 = some r → Z κ h 13 [(0, .ref (zα κ 14)), (1, .int (zi l1)), (2, .int (zi l2))] [] := by
  intro k
  induction k with
  | zero => intro l1 l2 hF; cases hF
  | succ k ih => intro l1 l2 hF; exact J_fX11_ring_c13b C hR hd e1 e2 ih l1 l2 hF
set_option maxRecDepth 20000 in
set_option maxHeartbeats 4000000 in
theorem J_fX11_ring {κ : zT} (C : zC κ RX11 cX11_ring 3 (some .int)) {d : Nat} (hR : zR κ = zrm (d + 1)) (hd : 3 ≤ d + 1) {N : Nat} {h : zH} {r : Int} (e1 : zrv κ = some (.int (zi r))) (e2 : zhf κ = h) (hF : fX11_ring N h = some r) : Z κ h 0 [(0, .ref (zα κ 14))] [] := by
  unfold fX11_ring at hF
  refine z_aload_n (q := 1) C dX11_ring_0 0 rfl rfl rfl ?_
  refine z_getf (q := 4) C clX11 (zon C zo_14) kd_14 (k := 28) (by decide) q_1130 rfl (zfv_i kd_14 rfl) dX11_ring_1 rfl ?_
  refine z_if_ne (tgt := 9) (q := 7) C dX11_ring_4 (by decide) rfl (fun c1 => ?_) (fun c1 => ?_)
  · have hF := (if_neg c1).symm.trans hF
    refine z_iconst (q := 10) C dX11_ring_9 rfl ?_
    refine z_istore_n (q := 11) C dX11_ring_10 (by decide) rfl rfl rfl ?_
    refine z_iconst (q := 12) C dX11_ring_11 rfl ?_
    refine z_istore_n (q := 13) C dX11_ring_12 (by decide) rfl rfl rfl ?_
    exact z_sub (J_fX11_ring_c13 C hR hd e1 e2 N _ _ hF) [2, 1, 0] rfl
  · have hF := (if_pos c1).symm.trans hF
    refine z_iconst (q := 8) C dX11_ring_7 rfl ?_
    have hF := Option.some.inj hF
    subst hF
    exact z_iret C e1 e2 dX11_ring_8
set_option maxRecDepth 20000 in
set_option maxHeartbeats 4000000 in
theorem M_fX11_ring {l : Launch} {D : va_G} {cy : ClassId} {α : Nat → Nat} {n : Nat} {σ : zSg} {d : Nat} (hd : 3 ≤ d) {N : Nat} {h : zH} {r : Int} (hF : fX11_ring N h = some r) : zMet l yX11_ring cX11_ring 3 (some .int) (zrm d) D cy α n σ [.ref (α 14)] h (some (.int (zi r))) h := by
  obtain ⟨d, rfl⟩ : ∃ e, d = e + 1 := ⟨d - 1, by omega⟩
  refine z_met (by decide +kernel) (Nat.le_of_ble_eq_true rfl) (fun κ k1 k2 k3 k4 k5 k6 k7 k8 k9 C => ?_)
  subst k1 k3 k4 k5 k6 k7
  exact J_fX11_ring C k2 hd k8 k9 hF
set_option maxRecDepth 20000 in
set_option maxHeartbeats 4000000 in
theorem J_fX11_lacks_c37b {κ : zT} (C : zC κ RX11 cX11_lacks 6 (some .int)) {d : Nat} (hR : zR κ = zrm (d + 1)) (hd : 2 ≤ d + 1) {N : Nat} {h : zH} {r : Int} (e1 : zrv κ = some (.int (zi r))) (e2 : zhf κ = h) {K27 : Int → Int → Int → Option Int} (hK27 : ∀ (l2 : Int) (l3 : Int) (l4 : Int), K27 l2 l3 l4 = some r → Z κ h 27 [(0, .ref (zα κ 14)), (2, .int (zi l2)), (3, .int (zi l3)), (4, .int (zi l4))] []) {K37 : Int → Int → Int → Int → Option Int} (hK37 : ∀ (l2 : Int) (l3 : Int) (l4 : Int) (l5 : Int), K37 l2 l3 l4 l5 = some r → Z κ h 37 [(0, .ref (zα κ 14)), (2, .int (zi l2)), (3, .int (zi l3)), (4, .int (zi l4)), (5, .int (zi l5))] []) (l2 : Int) (l3 : Int) (l4 : Int) (l5 : Int) (hF : fX11_lacks_c37b N h K27 K37 l2 l3 l4 l5 = some r) : Z κ h 37 [(0, .ref (zα κ 14)), (2, .int (zi l2)), (3, .int (zi l3)), (4, .int (zi l4)), (5, .int (zi l5))] [] := by
  unfold fX11_lacks_c37b at hF
  refine z_iload (q := 39) C dX11_lacks_37 4 rfl rfl ?_
  refine z_aload_n (q := 40) C dX11_lacks_39 0 rfl rfl rfl ?_
  refine z_getf (q := 43) C clX11 (zon C zo_14) kd_14 (k := 30) (by decide) q_1132 rfl (zfv_i kd_14 rfl) dX11_lacks_40 rfl ?_
  refine z_icmp_ge (tgt := 78) (q := 46) C dX11_lacks_43 (by decide) rfl (fun c1 => ?_) (fun c1 => ?_)
  · have hF := (if_pos c1).symm.trans hF
    refine z_iinc (q := 81) (x := l4) C dX11_lacks_78 (j := 3) rfl (by decide) rfl rfl ?_
    refine z_goto (q := 27) C dX11_lacks_81 (by decide) ?_
    exact z_sub (hK27 _ _ _ hF) [1, 2, 3, 0] rfl
  · have hF := (if_neg c1).symm.trans hF
    refine z_iload_n (q := 47) C dX11_lacks_46 2 rfl rfl rfl ?_
    refine z_iload_n (q := 48) C dX11_lacks_47 2 rfl rfl rfl ?_
    refine z_iload (q := 50) C dX11_lacks_48 4 rfl rfl ?_
    refine z_callS (q := 53) (av := [.int (zi l3), .int (zi l5)]) (rest := [.int (zi l3)]) (stk2 := [.int (zi (fX11_has l3 l5)), .int (zi l3)]) C hR (M_fX11_has (zlv hd rfl) rfl) mY_X11_has q_1294 (Nat.le_of_ble_eq_true rfl) dX11_lacks_50 rfl rfl rfl ?_
    refine z_if_eq (tgt := 69) (q := 56) C dX11_lacks_53 (by decide) rfl (fun c2 => ?_) (fun c2 => ?_)
    · have hF := (if_pos c2).symm.trans hF
      refine z_iconst (q := 70) C dX11_lacks_69 rfl ?_
      refine z_ior (q := 71) C dX11_lacks_70 rfl ?_
      refine z_istore_n (q := 72) C dX11_lacks_71 (by decide) rfl rfl rfl ?_
      refine z_iinc (q := 75) (x := l5) C dX11_lacks_72 (j := 4) rfl (by decide) rfl rfl ?_
      refine z_goto (q := 37) C dX11_lacks_75 (by decide) ?_
      exact z_sub (hK37 _ _ _ _ hF) [2, 3, 1, 4, 0] rfl
    · have hF := (if_neg c2).symm.trans hF
      refine z_aload_n (q := 57) C dX11_lacks_56 0 rfl rfl rfl ?_
      refine z_iload (q := 59) C dX11_lacks_57 4 rfl rfl ?_
      obtain ⟨v3, ev3, hF⟩ := zb_e hF
      refine z_callV (q := 62) (o := 14) (av := [.int (zi l5)]) (rest := [.int (zi l3)]) (stk2 := [.int (zi v3), .int (zi l3)]) C hR clX11 (zon C zo_14) kd_14 (M_fX11_wants (zlv hd rfl) ev3) mY_X11_wants q_1486 (Nat.le_of_ble_eq_true rfl) dX11_lacks_59 rfl rfl rfl ?_
      refine z_iload_n (q := 63) C dX11_lacks_62 1 rfl rfl rfl ?_
      refine z_iconst (q := 64) C dX11_lacks_63 rfl ?_
      refine z_ixor (q := 65) C dX11_lacks_64 rfl ?_
      refine z_iand (q := 66) C dX11_lacks_65 rfl ?_
      refine z_goto (q := 70) C dX11_lacks_66 (by decide) ?_
      refine z_ior (q := 71) C dX11_lacks_70 rfl ?_
      obtain ⟨v4, ev4, hF⟩ := zlet_e hF
      refine z_istoreE_n (q := 72) C ev4 dX11_lacks_71 (by decide) rfl rfl rfl ?_
      refine z_iinc (q := 75) (x := l5) C dX11_lacks_72 (j := 4) rfl (by decide) rfl rfl ?_
      refine z_goto (q := 37) C dX11_lacks_75 (by decide) ?_
      exact z_sub (hK37 _ _ _ _ hF) [2, 3, 1, 4, 0] rfl
set_option maxRecDepth 20000 in
set_option maxHeartbeats 4000000 in
theorem J_fX11_lacks_c37 {κ : zT} (C : zC κ RX11 cX11_lacks 6 (some .int)) {d : Nat} (hR : zR κ = zrm (d + 1)) (hd : 2 ≤ d + 1) {N : Nat} {h : zH} {r : Int} (e1 : zrv κ = some (.int (zi r))) (e2 : zhf κ = h) {K27 : Int → Int → Int → Option Int} (hK27 : ∀ (l2 : Int) (l3 : Int) (l4 : Int), K27 l2 l3 l4 = some r → Z κ h 27 [(0, .ref (zα κ 14)), (2, .int (zi l2)), (3, .int (zi l3)), (4, .int (zi l4))] []) : ∀ (k : Nat) (l2 : Int) (l3 : Int) (l4 : Int) (l5 : Int), fX11_lacks_c37 N h K27 k l2 l3 l4 l5 = some r → Z κ h 37 [(0, .ref (zα κ 14)), (2, .int (zi l2)), (3, .int (zi l3)), (4, .int (zi l4)), (5, .int (zi l5))] [] := by
  intro k
  induction k with
  | zero => intro l2 l3 l4 l5 hF; cases hF
  | succ k ih => intro l2 l3 l4 l5 hF; exact J_fX11_lacks_c37b C hR hd e1 e2 hK27 ih l2 l3 l4 l5 hF
set_option maxRecDepth 20000 in
set_option maxHeartbeats 4000000 in
theorem J_fX11_lacks_c27b {κ : zT} (C : zC κ RX11 cX11_lacks 6 (some .int)) {d : Nat} (hR : zR κ = zrm (d + 1)) (hd : 2 ≤ d + 1) {N : Nat} {h : zH} {r : Int} (e1 : zrv κ = some (.int (zi r))) (e2 : zhf κ = h) {K27 : Int → Int → Int → Option Int} (hK27 : ∀ (l2 : Int) (l3 : Int) (l4 : Int), K27 l2 l3 l4 = some r → Z κ h 27 [(0, .ref (zα κ 14)), (2, .int (zi l2)), (3, .int (zi l3)), (4, .int (zi l4))] []) (l2 : Int) (l3 : Int) (l4 : Int) (hF : fX11_lacks_c27b N h K27 l2 l3 l4 = some r) : Z κ h 27 [(0, .ref (zα κ 14)), (2, .int (zi l2)), (3, .int (zi l3)), (4, .int (zi l4))] [] := by
  unfold fX11_lacks_c27b at hF
  refine z_iload (q := 29) C dX11_lacks_27 3 rfl rfl ?_
  refine z_bipush (q := 31) C dX11_lacks_29 bp_8 rfl ?_
  refine z_icmp_ge (tgt := 84) (q := 34) C dX11_lacks_31 (by decide) rfl (fun c1 => ?_) (fun c1 => ?_)
  · have hF := (if_pos c1).symm.trans hF
    refine z_iload_n (q := 85) C dX11_lacks_84 2 rfl rfl rfl ?_
    have hF := Option.some.inj hF
    subst hF
    exact z_iret C e1 e2 dX11_lacks_85
  · have hF := (if_neg c1).symm.trans hF
    refine z_iconst (q := 35) C dX11_lacks_34 rfl ?_
    refine z_istore (q := 37) C dX11_lacks_35 (by decide) rfl rfl ?_
    exact z_sub (J_fX11_lacks_c37 C hR hd e1 e2 hK27 N _ _ _ _ hF) [1, 2, 3, 4, 0] rfl
set_option maxRecDepth 20000 in
set_option maxHeartbeats 4000000 in
theorem J_fX11_lacks_c27 {κ : zT} (C : zC κ RX11 cX11_lacks 6 (some .int)) {d : Nat} (hR : zR κ = zrm (d + 1)) (hd : 2 ≤ d + 1) {N : Nat} {h : zH} {r : Int} (e1 : zrv κ = some (.int (zi r))) (e2 : zhf κ = h) : ∀ (k : Nat) (l2 : Int) (l3 : Int) (l4 : Int), fX11_lacks_c27 N h k l2 l3 l4 = some r → Z κ h 27 [(0, .ref (zα κ 14)), (2, .int (zi l2)), (3, .int (zi l3)), (4, .int (zi l4))] [] := by
  intro k
  induction k with
  | zero => intro l2 l3 l4 hF; cases hF
  | succ k ih => intro l2 l3 l4 hF; exact J_fX11_lacks_c27b C hR hd e1 e2 ih l2 l3 l4 hF
set_option maxRecDepth 20000 in
set_option maxHeartbeats 4000000 in
theorem J_fX11_lacks {κ : zT} (C : zC κ RX11 cX11_lacks 6 (some .int)) {d : Nat} (hR : zR κ = zrm (d + 1)) (hd : 2 ≤ d + 1) {N : Nat} {h : zH} {r : Int} (e1 : zrv κ = some (.int (zi r))) (e2 : zhf κ = h) {a1 : Int} {a2 : Int} (hF : fX11_lacks N a1 a2 h = some r) : Z κ h 0 [(0, .ref (zα κ 14)), (1, .int (zi a1)), (2, .int (zi a2))] [] := by
  unfold fX11_lacks at hF
  refine z_iload_n (q := 1) C dX11_lacks_0 2 rfl rfl rfl ?_
  refine z_aload_n (q := 2) C dX11_lacks_1 0 rfl rfl rfl ?_
  refine z_iload_n (q := 3) C dX11_lacks_2 1 rfl rfl rfl ?_
  obtain ⟨v1, ev1, hF⟩ := zb_e hF
  refine z_callV (q := 6) (o := 14) (av := [.int (zi a1)]) (rest := [.int (zi a2)]) (stk2 := [.int (zi v1), .int (zi a2)]) C hR clX11 (zon C zo_14) kd_14 (M_fX11_form (zlv hd rfl) ev1) mY_X11_form q_1530 (Nat.le_of_ble_eq_true rfl) dX11_lacks_3 rfl rfl rfl ?_
  refine z_callS (q := 9) (av := [.int (zi a2), .int (zi v1)]) (rest := []) (stk2 := [.int (zi (fX11_has a2 v1))]) C hR (M_fX11_has (zlv hd rfl) rfl) mY_X11_has q_1294 (Nat.le_of_ble_eq_true rfl) dX11_lacks_6 rfl rfl rfl ?_
  refine z_if_eq (tgt := 16) (q := 12) C dX11_lacks_9 (by decide) rfl (fun c2 => ?_) (fun c2 => ?_)
  · have hF := (if_pos c2).symm.trans hF
    refine z_iconst (q := 17) C dX11_lacks_16 rfl ?_
    refine z_aload_n (q := 18) C dX11_lacks_17 0 rfl rfl rfl ?_
    refine z_iload_n (q := 19) C dX11_lacks_18 1 rfl rfl rfl ?_
    obtain ⟨v3, ev3, hF⟩ := zb_e hF
    refine z_callV (q := 22) (o := 14) (av := [.int (zi a1)]) (rest := [.int (zi 1)]) (stk2 := [.int (zi v3), .int (zi 1)]) C hR clX11 (zon C zo_14) kd_14 (M_fX11_form (zlv hd rfl) ev3) mY_X11_form q_1530 (Nat.le_of_ble_eq_true rfl) dX11_lacks_19 rfl rfl rfl ?_
    refine z_ishl (q := 23) C dX11_lacks_22 rfl ?_
    obtain ⟨v4, ev4, hF⟩ := zlet_e hF
    refine z_istoreE_n (q := 24) C ev4 dX11_lacks_23 (by decide) rfl rfl rfl ?_
    refine z_iconst (q := 25) C dX11_lacks_24 rfl ?_
    refine z_istore (q := 27) C dX11_lacks_25 (by decide) rfl rfl ?_
    exact z_sub (J_fX11_lacks_c27 C hR hd e1 e2 N _ _ _ hF) [2, 4, 1, 0] rfl
  · have hF := (if_neg c2).symm.trans hF
    refine z_iconst (q := 13) C dX11_lacks_12 rfl ?_
    refine z_goto (q := 23) C dX11_lacks_13 (by decide) ?_
    refine z_istore_n (q := 24) C dX11_lacks_23 (by decide) rfl rfl rfl ?_
    refine z_iconst (q := 25) C dX11_lacks_24 rfl ?_
    refine z_istore (q := 27) C dX11_lacks_25 (by decide) rfl rfl ?_
    exact z_sub (J_fX11_lacks_c27 C hR hd e1 e2 N _ _ _ hF) [2, 4, 1, 0] rfl
set_option maxRecDepth 20000 in
set_option maxHeartbeats 4000000 in
theorem M_fX11_lacks {l : Launch} {D : va_G} {cy : ClassId} {α : Nat → Nat} {n : Nat} {σ : zSg} {d : Nat} (hd : 2 ≤ d) {N : Nat} {a1 : Int} {a2 : Int} {h : zH} {r : Int} (hF : fX11_lacks N a1 a2 h = some r) : zMet l yX11_lacks cX11_lacks 6 (some .int) (zrm d) D cy α n σ [.ref (α 14), .int (zi a1), .int (zi a2)] h (some (.int (zi r))) h := by
  obtain ⟨d, rfl⟩ : ∃ e, d = e + 1 := ⟨d - 1, by omega⟩
  refine z_met (by decide +kernel) (Nat.le_of_ble_eq_true rfl) (fun κ k1 k2 k3 k4 k5 k6 k7 k8 k9 C => ?_)
  subst k1 k3 k4 k5 k6 k7
  exact J_fX11_lacks C k2 hd k8 k9 hF
set_option maxRecDepth 20000 in
set_option maxHeartbeats 4000000 in
theorem J_fX11_hadBy_c18b {κ : zT} (C : zC κ RX11 cX11_hadBy 5 (some .int)) {d : Nat} (hR : zR κ = zrm (d + 1)) (hd : 2 ≤ d + 1) {N : Nat} {h : zH} {r : Int} (e1 : zrv κ = some (.int (zi r))) (e2 : zhf κ = h) {K18 : Int → Int → Int → Option Int} (hK18 : ∀ (l1 : Int) (l3 : Int) (l4 : Int), K18 l1 l3 l4 = some r → Z κ h 18 [(0, .ref (zα κ 14)), (1, .int (zi l1)), (3, .int (zi l3)), (4, .int (zi l4))] []) (l1 : Int) (l3 : Int) (l4 : Int) (hF : fX11_hadBy_c18b N h K18 l1 l3 l4 = some r) : Z κ h 18 [(0, .ref (zα κ 14)), (1, .int (zi l1)), (3, .int (zi l3)), (4, .int (zi l4))] [] := by
  unfold fX11_hadBy_c18b at hF
  refine z_iload_n (q := 19) C dX11_hadBy_18 2 rfl rfl rfl ?_
  refine z_if_le (tgt := 53) (q := 22) C dX11_hadBy_19 (by decide) rfl (fun c1 => ?_) (fun c1 => ?_)
  · have hF := (if_pos c1).symm.trans hF
    refine z_iload (q := 55) C dX11_hadBy_53 3 rfl rfl ?_
    have hF := Option.some.inj hF
    subst hF
    exact z_iret C e1 e2 dX11_hadBy_55
  · have hF := (if_neg c1).symm.trans hF
    refine z_iload_n (q := 23) C dX11_hadBy_22 2 rfl rfl rfl ?_
    refine z_aload_n (q := 24) C dX11_hadBy_23 0 rfl rfl rfl ?_
    refine z_aload_n (q := 25) C dX11_hadBy_24 0 rfl rfl rfl ?_
    refine z_iload_n (q := 26) C dX11_hadBy_25 1 rfl rfl rfl ?_
    obtain ⟨v2, ev2, hF⟩ := zb_e hF
    refine z_callV (q := 29) (o := 14) (av := [.int (zi l1)]) (rest := [.ref (zα κ 14), .int (zi l3)]) (stk2 := [.int (zi v2), .ref (zα κ 14), .int (zi l3)]) C hR clX11 (zon C zo_14) kd_14 (M_fX11_deskOf (zlv hd rfl) ev2) mY_X11_deskOf q_1446 (Nat.le_of_ble_eq_true rfl) dX11_hadBy_26 rfl rfl rfl ?_
    refine z_iload (q := 31) C dX11_hadBy_29 3 rfl rfl ?_
    refine z_bipush (q := 33) C dX11_hadBy_31 bp_24 rfl ?_
    refine z_irem (q := 34) C (by decide) dX11_hadBy_33 rfl ?_
    obtain ⟨v3, ev3, hF⟩ := zb_e hF
    refine z_callV (q := 37) (o := 14) (av := [.int (zi v2), .int (zi (zrem l4 24))]) (rest := [.int (zi l3)]) (stk2 := [.int (zi v3), .int (zi l3)]) C hR clX11 (zon C zo_14) kd_14 (M_fX11_isOpen (zlv hd rfl) ev3) mY_X11_isOpen q_1458 (Nat.le_of_ble_eq_true rfl) dX11_hadBy_34 rfl rfl rfl ?_
    refine z_if_eq (tgt := 44) (q := 40) C dX11_hadBy_37 (by decide) rfl (fun c4 => ?_) (fun c4 => ?_)
    · have hF := (if_pos c4).symm.trans hF
      refine z_iconst (q := 45) C dX11_hadBy_44 rfl ?_
      refine z_isub (q := 46) C dX11_hadBy_45 rfl ?_
      refine z_istore_n (q := 47) C dX11_hadBy_46 (by decide) rfl rfl rfl ?_
      refine z_iinc (q := 50) (x := l4) C dX11_hadBy_47 (j := 3) rfl (by decide) rfl rfl ?_
      refine z_goto (q := 18) C dX11_hadBy_50 (by decide) ?_
      exact z_sub (hK18 _ _ _ hF) [2, 3, 1, 0] rfl
    · have hF := (if_neg c4).symm.trans hF
      refine z_iconst (q := 41) C dX11_hadBy_40 rfl ?_
      refine z_goto (q := 45) C dX11_hadBy_41 (by decide) ?_
      refine z_isub (q := 46) C dX11_hadBy_45 rfl ?_
      refine z_istore_n (q := 47) C dX11_hadBy_46 (by decide) rfl rfl rfl ?_
      refine z_iinc (q := 50) (x := l4) C dX11_hadBy_47 (j := 3) rfl (by decide) rfl rfl ?_
      refine z_goto (q := 18) C dX11_hadBy_50 (by decide) ?_
      exact z_sub (hK18 _ _ _ hF) [2, 3, 1, 0] rfl
set_option maxRecDepth 20000 in
set_option maxHeartbeats 4000000 in
theorem J_fX11_hadBy_c18 {κ : zT} (C : zC κ RX11 cX11_hadBy 5 (some .int)) {d : Nat} (hR : zR κ = zrm (d + 1)) (hd : 2 ≤ d + 1) {N : Nat} {h : zH} {r : Int} (e1 : zrv κ = some (.int (zi r))) (e2 : zhf κ = h) : ∀ (k : Nat) (l1 : Int) (l3 : Int) (l4 : Int), fX11_hadBy_c18 N h k l1 l3 l4 = some r → Z κ h 18 [(0, .ref (zα κ 14)), (1, .int (zi l1)), (3, .int (zi l3)), (4, .int (zi l4))] [] := by
  intro k
  induction k with
  | zero => intro l1 l3 l4 hF; cases hF
  | succ k ih => intro l1 l3 l4 hF; exact J_fX11_hadBy_c18b C hR hd e1 e2 ih l1 l3 l4 hF
set_option maxRecDepth 20000 in
set_option maxHeartbeats 4000000 in
theorem J_fX11_hadBy {κ : zT} (C : zC κ RX11 cX11_hadBy 5 (some .int)) {d : Nat} (hR : zR κ = zrm (d + 1)) (hd : 2 ≤ d + 1) {N : Nat} {h : zH} {r : Int} (e1 : zrv κ = some (.int (zi r))) (e2 : zhf κ = h) {a1 : Int} {a2 : Int} (hF : fX11_hadBy N a1 a2 h = some r) : Z κ h 0 [(0, .ref (zα κ 14)), (1, .int (zi a1)), (2, .int (zi a2))] [] := by
  unfold fX11_hadBy at hF
  refine z_aload_n (q := 1) C dX11_hadBy_0 0 rfl rfl rfl ?_
  refine z_getf (q := 4) C clX11 (zon C zo_14) kd_14 (k := 26) (by decide) q_1128 rfl (zfv_r kd_14 rfl fr_14_26) dX11_hadBy_1 rfl ?_
  refine z_iconst (q := 5) C dX11_hadBy_4 rfl ?_
  refine z_aload_n (q := 6) C dX11_hadBy_5 0 rfl rfl rfl ?_
  refine z_iload_n (q := 7) C dX11_hadBy_6 1 rfl rfl rfl ?_
  obtain ⟨v1, ev1, hF⟩ := zb_e hF
  refine z_callV (q := 10) (o := 14) (av := [.int (zi a1)]) (rest := [.int (zi 4), .ref (zα κ 65)]) (stk2 := [.int (zi v1), .int (zi 4), .ref (zα κ 65)]) C hR clX11 (zon C zo_14) kd_14 (M_fX11_deskOf (zlv hd rfl) ev1) mY_X11_deskOf q_1446 (Nat.le_of_ble_eq_true rfl) dX11_hadBy_7 rfl rfl rfl ?_
  refine z_imul (q := 11) C dX11_hadBy_10 rfl ?_
  refine z_iconst (q := 12) C dX11_hadBy_11 rfl ?_
  refine z_iadd (q := 13) C dX11_hadBy_12 rfl ?_
  obtain ⟨g2, hF⟩ := zif_none hF
  refine z_iald (q := 14) C (zon C zo_65) kd_65 g2.1 (by rw [ln_65]; exact g2.2) dX11_hadBy_13 rfl ?_
  obtain ⟨v3, ev3, hF⟩ := zlet_e hF
  refine z_istoreE_n (q := 15) C ev3 dX11_hadBy_14 (by decide) rfl rfl rfl ?_
  refine z_iload_n (q := 16) C dX11_hadBy_15 3 rfl rfl rfl ?_
  refine z_istore (q := 18) C dX11_hadBy_16 (by decide) rfl rfl ?_
  exact z_sub (J_fX11_hadBy_c18 C hR hd e1 e2 N _ _ _ hF) [2, 3, 1, 0] rfl
set_option maxRecDepth 20000 in
set_option maxHeartbeats 4000000 in
theorem M_fX11_hadBy {l : Launch} {D : va_G} {cy : ClassId} {α : Nat → Nat} {n : Nat} {σ : zSg} {d : Nat} (hd : 2 ≤ d) {N : Nat} {a1 : Int} {a2 : Int} {h : zH} {r : Int} (hF : fX11_hadBy N a1 a2 h = some r) : zMet l yX11_hadBy cX11_hadBy 5 (some .int) (zrm d) D cy α n σ [.ref (α 14), .int (zi a1), .int (zi a2)] h (some (.int (zi r))) h := by
  obtain ⟨d, rfl⟩ : ∃ e, d = e + 1 := ⟨d - 1, by omega⟩
  refine z_met (by decide +kernel) (Nat.le_of_ble_eq_true rfl) (fun κ k1 k2 k3 k4 k5 k6 k7 k8 k9 C => ?_)
  subst k1 k3 k4 k5 k6 k7
  exact J_fX11_hadBy C k2 hd k8 k9 hF
set_option maxRecDepth 20000 in
set_option maxHeartbeats 4000000 in
theorem J_fX11_tryRows_c54b {κ : zT} (C : zC κ RX11 cX11_tryRows 7 none) {d : Nat} (hR : zR κ = zrm (d + 1)) (hd : 3 ≤ d + 1) {N : Nat} {R_fX11_tryRows : Int → Int → Int → Int → Int → zH → Option zH} (hM_fX11_tryRows : ∀ {a1 : Int} {a2 : Int} {a3 : Int} {a4 : Int} {a5 : Int} {h : zH} {g : zH} (hF : R_fX11_tryRows a1 a2 a3 a4 a5 h = some g), zMet (zla κ) yX11_tryRows cX11_tryRows 7 none (zrm d) (zD κ) (zcy κ) (zα κ) (zn κ) (zσ κ) [.ref (zα κ 14), .int (zi a1), .int (zi a2), .int (zi a3), .int (zi a4), .int (zi a5)] h (none) g) {r : zH} (e1 : zrv κ = none) (e2 : zhf κ = r) {K54 : Int → Int → Int → Int → Int → Int → zH → Option zH} (hK54 : ∀ (l1 : Int) (l2 : Int) (l3 : Int) (l4 : Int) (l5 : Int) (l6 : Int) (h : zH), K54 l1 l2 l3 l4 l5 l6 h = some r → Z κ h 54 [(0, .ref (zα κ 14)), (1, .int (zi l1)), (2, .int (zi l2)), (3, .int (zi l3)), (4, .int (zi l4)), (5, .int (zi l5)), (6, .int (zi l6))] []) (l1 : Int) (l2 : Int) (l3 : Int) (l4 : Int) (l5 : Int) (l6 : Int) (h : zH) (hF : fX11_tryRows_c54b N R_fX11_tryRows K54 l1 l2 l3 l4 l5 l6 h = some r) : Z κ h 54 [(0, .ref (zα κ 14)), (1, .int (zi l1)), (2, .int (zi l2)), (3, .int (zi l3)), (4, .int (zi l4)), (5, .int (zi l5)), (6, .int (zi l6))] [] := by
  unfold fX11_tryRows_c54b at hF
  refine z_iload (q := 56) C dX11_tryRows_54 6 rfl rfl ?_
  refine z_aload_n (q := 57) C dX11_tryRows_56 0 rfl rfl rfl ?_
  refine z_getf (q := 60) C clX11 (zon C zo_14) kd_14 (k := 30) (by decide) q_1132 rfl (zfv_i kd_14 rfl) dX11_tryRows_57 rfl ?_
  refine z_icmp_ge (tgt := 142) (q := 63) C dX11_tryRows_60 (by decide) rfl (fun c1 => ?_) (fun c1 => ?_)
  · have hF := (if_pos c1).symm.trans hF
    have hF := Option.some.inj hF
    subst hF
    exact z_vret C e1 e2 dX11_tryRows_142
  · have hF := (if_neg c1).symm.trans hF
    refine z_iload_n (q := 64) C dX11_tryRows_63 1 rfl rfl rfl ?_
    refine z_iload (q := 66) C dX11_tryRows_64 6 rfl rfl ?_
    refine z_callS (q := 69) (av := [.int (zi l1), .int (zi l6)]) (rest := []) (stk2 := [.int (zi (fX11_has l1 l6))]) C hR (M_fX11_has (zlv hd rfl) rfl) mY_X11_has q_1294 (Nat.le_of_ble_eq_true rfl) dX11_tryRows_66 rfl rfl rfl ?_
    refine z_if_eq (tgt := 136) (q := 72) C dX11_tryRows_69 (by decide) rfl (fun c2 => ?_) (fun c2 => ?_)
    · have hF := (if_pos c2).symm.trans hF
      refine z_iinc (q := 139) (x := l6) C dX11_tryRows_136 (j := 6) rfl (by decide) rfl rfl ?_
      refine z_goto (q := 54) C dX11_tryRows_139 (by decide) ?_
      exact z_sub (hK54 _ _ _ _ _ _ _ hF) [1, 2, 3, 4, 5, 6, 0] rfl
    · have hF := (if_neg c2).symm.trans hF
      refine z_aload_n (q := 73) C dX11_tryRows_72 0 rfl rfl rfl ?_
      refine z_iload (q := 75) C dX11_tryRows_73 6 rfl rfl ?_
      obtain ⟨v3, ev3, hF⟩ := zb_e hF
      refine z_callV (q := 78) (o := 14) (av := [.int (zi l6)]) (rest := []) (stk2 := [.int (zi v3)]) C hR clX11 (zon C zo_14) kd_14 (M_fX11_wants (zlv hd rfl) ev3) mY_X11_wants q_1486 (Nat.le_of_ble_eq_true rfl) dX11_tryRows_75 rfl rfl rfl ?_
      refine z_iload_n (q := 79) C dX11_tryRows_78 2 rfl rfl rfl ?_
      refine z_iconst (q := 80) C dX11_tryRows_79 rfl ?_
      refine z_ixor (q := 81) C dX11_tryRows_80 rfl ?_
      refine z_iand (q := 82) C dX11_tryRows_81 rfl ?_
      refine z_if_ne (tgt := 136) (q := 85) C dX11_tryRows_82 (by decide) rfl (fun c4 => ?_) (fun c4 => ?_)
      · have hF := (if_neg c4).symm.trans hF
        refine z_iinc (q := 139) (x := l6) C dX11_tryRows_136 (j := 6) rfl (by decide) rfl rfl ?_
        refine z_goto (q := 54) C dX11_tryRows_139 (by decide) ?_
        exact z_sub (hK54 _ _ _ _ _ _ _ hF) [1, 2, 3, 4, 5, 6, 0] rfl
      · have hF := (if_pos c4).symm.trans hF
        refine z_aload_n (q := 86) C dX11_tryRows_85 0 rfl rfl rfl ?_
        refine z_iload_n (q := 87) C dX11_tryRows_86 1 rfl rfl rfl ?_
        refine z_iconst (q := 88) C dX11_tryRows_87 rfl ?_
        refine z_iload (q := 90) C dX11_tryRows_88 6 rfl rfl ?_
        refine z_ishl (q := 91) C dX11_tryRows_90 rfl ?_
        refine z_iconst (q := 92) C dX11_tryRows_91 rfl ?_
        refine z_ixor (q := 93) C dX11_tryRows_92 rfl ?_
        refine z_iand (q := 94) C dX11_tryRows_93 rfl ?_
        refine z_iload_n (q := 95) C dX11_tryRows_94 2 rfl rfl rfl ?_
        refine z_iconst (q := 96) C dX11_tryRows_95 rfl ?_
        refine z_iload (q := 98) C dX11_tryRows_96 6 rfl rfl ?_
        refine z_ishl (q := 99) C dX11_tryRows_98 rfl ?_
        refine z_ior (q := 100) C dX11_tryRows_99 rfl ?_
        refine z_aload_n (q := 101) C dX11_tryRows_100 0 rfl rfl rfl ?_
        refine z_iload (q := 103) C dX11_tryRows_101 6 rfl rfl ?_
        refine z_iload_n (q := 104) C dX11_tryRows_103 3 rfl rfl rfl ?_
        obtain ⟨v5, ev5, hF⟩ := zb_e hF
        refine z_callV (q := 107) (o := 14) (av := [.int (zi l6), .int (zi l3)]) (rest := [.int (zi (zor l2 (zshl 1 l6))), .int (zi (zand l1 (zxor (zshl 1 l6) (-1)))), .ref (zα κ 14)]) (stk2 := [.int (zi v5), .int (zi (zor l2 (zshl 1 l6))), .int (zi (zand l1 (zxor (zshl 1 l6) (-1)))), .ref (zα κ 14)]) C hR clX11 (zon C zo_14) kd_14 (M_fX11_hadBy (zlv hd rfl) ev5) mY_X11_hadBy q_1647 (Nat.le_of_ble_eq_true rfl) dX11_tryRows_104 rfl rfl rfl ?_
        refine z_bipush (q := 109) C dX11_tryRows_107 bp_10 rfl ?_
        refine z_iload (q := 111) C dX11_tryRows_109 4 rfl rfl ?_
        refine z_imul (q := 112) C dX11_tryRows_111 rfl ?_
        refine z_iload (q := 114) C dX11_tryRows_112 6 rfl rfl ?_
        refine z_iadd (q := 115) C dX11_tryRows_114 rfl ?_
        refine z_iload (q := 117) C dX11_tryRows_115 5 rfl rfl ?_
        refine z_aload_n (q := 118) C dX11_tryRows_117 0 rfl rfl rfl ?_
        refine z_getf (q := 121) C clX11 (zon C zo_14) kd_14 (k := 26) (by decide) q_1128 rfl (zfv_r kd_14 rfl fr_14_26) dX11_tryRows_118 rfl ?_
        refine z_iconst (q := 122) C dX11_tryRows_121 rfl ?_
        refine z_aload_n (q := 123) C dX11_tryRows_122 0 rfl rfl rfl ?_
        refine z_iload (q := 125) C dX11_tryRows_123 6 rfl rfl ?_
        obtain ⟨v6, ev6, hF⟩ := zb_e hF
        refine z_callV (q := 128) (o := 14) (av := [.int (zi l6)]) (rest := [.int (zi 4), .ref (zα κ 65), .int (zi l5), .int (zi ((10 * l4) + l6)), .int (zi v5), .int (zi (zor l2 (zshl 1 l6))), .int (zi (zand l1 (zxor (zshl 1 l6) (-1)))), .ref (zα κ 14)]) (stk2 := [.int (zi v6), .int (zi 4), .ref (zα κ 65), .int (zi l5), .int (zi ((10 * l4) + l6)), .int (zi v5), .int (zi (zor l2 (zshl 1 l6))), .int (zi (zand l1 (zxor (zshl 1 l6) (-1)))), .ref (zα κ 14)]) C hR clX11 (zon C zo_14) kd_14 (M_fX11_deskOf (zlv hd rfl) ev6) mY_X11_deskOf q_1446 (Nat.le_of_ble_eq_true rfl) dX11_tryRows_125 rfl rfl rfl ?_
        refine z_imul (q := 129) C dX11_tryRows_128 rfl ?_
        refine z_iconst (q := 130) C dX11_tryRows_129 rfl ?_
        refine z_iadd (q := 131) C dX11_tryRows_130 rfl ?_
        obtain ⟨g7, hF⟩ := zif_none hF
        refine z_iald (q := 132) C (zon C zo_65) kd_65 g7.1 (by rw [ln_65]; exact g7.2) dX11_tryRows_131 rfl ?_
        refine z_iadd (q := 133) C dX11_tryRows_132 rfl ?_
        obtain ⟨h8, eh8, hF⟩ := zb_e hF
        refine z_callV (q := 136) (o := 14) (av := [.int (zi (zand l1 (zxor (zshl 1 l6) (-1)))), .int (zi (zor l2 (zshl 1 l6))), .int (zi v5), .int (zi ((10 * l4) + l6)), .int (zi (l5 + (h 65 (zw ((4 * v6) + 3)).toNat)))]) (rest := []) (stk2 := []) C hR clX11 (zon C zo_14) kd_14 (hM_fX11_tryRows eh8) mY_X11_tryRows q_1643 (Nat.le_of_ble_eq_true rfl) dX11_tryRows_133 rfl rfl rfl ?_
        refine z_iinc (q := 139) (x := l6) C dX11_tryRows_136 (j := 6) rfl (by decide) rfl rfl ?_
        refine z_goto (q := 54) C dX11_tryRows_139 (by decide) ?_
        exact z_sub (hK54 _ _ _ _ _ _ _ hF) [1, 2, 3, 4, 5, 6, 0] rfl
set_option maxRecDepth 20000 in
set_option maxHeartbeats 4000000 in
theorem J_fX11_tryRows_c54 {κ : zT} (C : zC κ RX11 cX11_tryRows 7 none) {d : Nat} (hR : zR κ = zrm (d + 1)) (hd : 3 ≤ d + 1) {N : Nat} {R_fX11_tryRows : Int → Int → Int → Int → Int → zH → Option zH} (hM_fX11_tryRows : ∀ {a1 : Int} {a2 : Int} {a3 : Int} {a4 : Int} {a5 : Int} {h : zH} {g : zH} (hF : R_fX11_tryRows a1 a2 a3 a4 a5 h = some g), zMet (zla κ) yX11_tryRows cX11_tryRows 7 none (zrm d) (zD κ) (zcy κ) (zα κ) (zn κ) (zσ κ) [.ref (zα κ 14), .int (zi a1), .int (zi a2), .int (zi a3), .int (zi a4), .int (zi a5)] h (none) g) {r : zH} (e1 : zrv κ = none) (e2 : zhf κ = r) : ∀ (k : Nat) (l1 : Int) (l2 : Int) (l3 : Int) (l4 : Int) (l5 : Int) (l6 : Int) (h : zH), fX11_tryRows_c54 N R_fX11_tryRows k l1 l2 l3 l4 l5 l6 h = some r → Z κ h 54 [(0, .ref (zα κ 14)), (1, .int (zi l1)), (2, .int (zi l2)), (3, .int (zi l3)), (4, .int (zi l4)), (5, .int (zi l5)), (6, .int (zi l6))] [] := by
  intro k
  induction k with
  | zero => intro l1 l2 l3 l4 l5 l6 h hF; cases hF
  | succ k ih => intro l1 l2 l3 l4 l5 l6 h hF; exact J_fX11_tryRows_c54b C hR hd hM_fX11_tryRows e1 e2 ih l1 l2 l3 l4 l5 l6 h hF
set_option maxRecDepth 20000 in
set_option maxHeartbeats 4000000 in
theorem J_fX11_tryRows_b {κ : zT} (C : zC κ RX11 cX11_tryRows 7 none) {d : Nat} (hR : zR κ = zrm (d + 1)) (hd : 3 ≤ d + 1) {N : Nat} {R_fX11_tryRows : Int → Int → Int → Int → Int → zH → Option zH} (hM_fX11_tryRows : ∀ {a1 : Int} {a2 : Int} {a3 : Int} {a4 : Int} {a5 : Int} {h : zH} {g : zH} (hF : R_fX11_tryRows a1 a2 a3 a4 a5 h = some g), zMet (zla κ) yX11_tryRows cX11_tryRows 7 none (zrm d) (zD κ) (zcy κ) (zα κ) (zn κ) (zσ κ) [.ref (zα κ 14), .int (zi a1), .int (zi a2), .int (zi a3), .int (zi a4), .int (zi a5)] h (none) g) {r : zH} (e1 : zrv κ = none) (e2 : zhf κ = r) {a1 : Int} {a2 : Int} {a3 : Int} {a4 : Int} {a5 : Int} {h : zH} (hF : fX11_tryRows_b N R_fX11_tryRows a1 a2 a3 a4 a5 h = some r) : Z κ h 0 [(0, .ref (zα κ 14)), (1, .int (zi a1)), (2, .int (zi a2)), (3, .int (zi a3)), (4, .int (zi a4)), (5, .int (zi a5))] [] := by
  unfold fX11_tryRows_b at hF
  refine z_iload_n (q := 1) C dX11_tryRows_0 1 rfl rfl rfl ?_
  refine z_if_ne (tgt := 51) (q := 4) C dX11_tryRows_1 (by decide) rfl (fun c1 => ?_) (fun c1 => ?_)
  · have hF := (if_neg c1).symm.trans hF
    refine z_iconst (q := 52) C dX11_tryRows_51 rfl ?_
    refine z_istore (q := 54) C dX11_tryRows_52 (by decide) rfl rfl ?_
    exact z_sub (J_fX11_tryRows_c54 C hR hd hM_fX11_tryRows e1 e2 N _ _ _ _ _ _ _ hF) [1, 2, 3, 4, 5, 6, 0] rfl
  · have hF := (if_pos c1).symm.trans hF
    refine z_iload_n (q := 5) C dX11_tryRows_4 3 rfl rfl rfl ?_
    refine z_aload_n (q := 6) C dX11_tryRows_5 0 rfl rfl rfl ?_
    refine z_getf (q := 9) C clX11 (zon C zo_14) kd_14 (k := 34) (by decide) q_1136 rfl (zfv_r kd_14 rfl fr_14_34) dX11_tryRows_6 rfl ?_
    refine z_bipush (q := 11) C dX11_tryRows_9 bp_42 rfl ?_
    refine z_ialdc (q := 12) (j := 42) C (zon C zo_69) kd_69 zwk_42 (by rw [ln_69]; decide) dX11_tryRows_11 rfl ?_
    refine z_isub (q := 13) C dX11_tryRows_12 rfl ?_
    obtain ⟨v2, ev2, hF⟩ := zlet_e hF
    refine z_istoreE (q := 15) C ev2 dX11_tryRows_13 (by decide) rfl rfl ?_
    refine z_aload_n (q := 16) C dX11_tryRows_15 1 rfl rfl rfl ?_
    refine z_getf (q := 19) C clX11 (zon C zo_14) kd_14 (k := 41) (by decide) q_1143 rfl (zfv_i kd_14 rfl) dX11_tryRows_16 rfl ?_
    refine z_iconst (q := 20) C dX11_tryRows_19 rfl ?_
    refine z_icmp_eq (tgt := 32) (q := 23) C dX11_tryRows_20 (by decide) rfl (fun c3 => ?_) (fun c3 => ?_)
    · have hF := (if_pos c3).symm.trans hF
      refine z_aload_n (q := 33) C dX11_tryRows_32 1 rfl rfl rfl ?_
      refine z_iload (q := 35) C dX11_tryRows_33 0 rfl rfl ?_
      obtain ⟨h4, eh4, hF⟩ := zlet_e hF
      refine z_putf (q := 38) C clX11 (zon C zo_14) kd_14 (k := 41) (x := v2) (by decide) q_1143 rfl rfl rfl rfl (((zfv_i kd_14 rfl)).trans (by rw [if_pos rfl])) dX11_tryRows_35 rfl eh4 ?_
      refine z_aload_n (q := 39) C dX11_tryRows_38 1 rfl rfl rfl ?_
      refine z_iload (q := 41) C dX11_tryRows_39 5 rfl rfl ?_
      obtain ⟨h5, eh5, hF⟩ := zlet_e hF
      refine z_putf (q := 44) C clX11 (zon C zo_14) kd_14 (k := 40) (x := a4) (by decide) q_1142 rfl rfl rfl rfl (((zfv_i kd_14 rfl)).trans (by rw [if_pos rfl])) dX11_tryRows_41 rfl eh5 ?_
      refine z_aload_n (q := 45) C dX11_tryRows_44 1 rfl rfl rfl ?_
      refine z_iload (q := 47) C dX11_tryRows_45 6 rfl rfl ?_
      obtain ⟨h6, eh6, hF⟩ := zlet_e hF
      refine z_putf (q := 50) C clX11 (zon C zo_14) kd_14 (k := 42) (x := a5) (by decide) q_1144 rfl rfl rfl rfl (((zfv_i kd_14 rfl)).trans (by rw [if_pos rfl])) dX11_tryRows_47 rfl eh6 ?_
      have hF := Option.some.inj hF
      subst hF
      exact z_vret C e1 e2 dX11_tryRows_50
    · have hF := (if_neg c3).symm.trans hF
      refine z_iload (q := 25) C dX11_tryRows_23 0 rfl rfl ?_
      refine z_aload_n (q := 26) C dX11_tryRows_25 1 rfl rfl rfl ?_
      refine z_getf (q := 29) C clX11 (zon C zo_14) kd_14 (k := 41) (by decide) q_1143 rfl (zfv_i kd_14 rfl) dX11_tryRows_26 rfl ?_
      refine z_icmp_ge (tgt := 50) (q := 32) C dX11_tryRows_29 (by decide) rfl (fun c7 => ?_) (fun c7 => ?_)
      · have hF := (if_pos c7).symm.trans hF
        have hF := Option.some.inj hF
        subst hF
        exact z_vret C e1 e2 dX11_tryRows_50
      · have hF := (if_neg c7).symm.trans hF
        refine z_aload_n (q := 33) C dX11_tryRows_32 1 rfl rfl rfl ?_
        refine z_iload (q := 35) C dX11_tryRows_33 0 rfl rfl ?_
        obtain ⟨h8, eh8, hF⟩ := zlet_e hF
        refine z_putf (q := 38) C clX11 (zon C zo_14) kd_14 (k := 41) (x := v2) (by decide) q_1143 rfl rfl rfl rfl (((zfv_i kd_14 rfl)).trans (by rw [if_pos rfl])) dX11_tryRows_35 rfl eh8 ?_
        refine z_aload_n (q := 39) C dX11_tryRows_38 1 rfl rfl rfl ?_
        refine z_iload (q := 41) C dX11_tryRows_39 5 rfl rfl ?_
        obtain ⟨h9, eh9, hF⟩ := zlet_e hF
        refine z_putf (q := 44) C clX11 (zon C zo_14) kd_14 (k := 40) (x := a4) (by decide) q_1142 rfl rfl rfl rfl (((zfv_i kd_14 rfl)).trans (by rw [if_pos rfl])) dX11_tryRows_41 rfl eh9 ?_
        refine z_aload_n (q := 45) C dX11_tryRows_44 1 rfl rfl rfl ?_
        refine z_iload (q := 47) C dX11_tryRows_45 6 rfl rfl ?_
        obtain ⟨h10, eh10, hF⟩ := zlet_e hF
        refine z_putf (q := 50) C clX11 (zon C zo_14) kd_14 (k := 42) (x := a5) (by decide) q_1144 rfl rfl rfl rfl (((zfv_i kd_14 rfl)).trans (by rw [if_pos rfl])) dX11_tryRows_47 rfl eh10 ?_
        have hF := Option.some.inj hF
        subst hF
        exact z_vret C e1 e2 dX11_tryRows_50
set_option maxRecDepth 20000 in
set_option maxHeartbeats 4000000 in
theorem MG_fX11_tryRows {N : Nat} : ∀ (k : Nat) {l : Launch} {D : va_G} {cy : ClassId} {α : Nat → Nat} {n : Nat} {σ : zSg} {d : Nat} (hd : 2 + k ≤ d), (∀ {a1 : Int} {a2 : Int} {a3 : Int} {a4 : Int} {a5 : Int} {h : zH} {g : zH} (hF : ((fG_X11_tryRows N k)) a1 a2 a3 a4 a5 h = some g), zMet l yX11_tryRows cX11_tryRows 7 none (zrm d) D cy α n σ [.ref (α 14), .int (zi a1), .int (zi a2), .int (zi a3), .int (zi a4), .int (zi a5)] h (none) g) := by
  intro k
  induction k with
  | zero => intro l D cy α n σ d hd; exact (by intros; rename_i hF; cases hF)
  | succ k ih =>
    intro l D cy α n σ d hd
    obtain ⟨d, rfl⟩ : ∃ e, d = e + 1 := ⟨d - 1, by omega⟩
    · intro a1 a2 a3 a4 a5 h g hF
      refine z_met (by decide +kernel) (Nat.le_of_ble_eq_true rfl) (fun κ k1 k2 k3 k4 k5 k6 k7 k8 k9 C => ?_)
      subst k1 k3 k4 k5 k6 k7
      exact J_fX11_tryRows_b (N := N) C k2 (by omega) ((ih (by omega : 2 + k ≤ d))) k8 k9 hF
set_option maxRecDepth 20000 in
set_option maxHeartbeats 4000000 in
theorem M_fX11_tryRows {l : Launch} {D : va_G} {cy : ClassId} {α : Nat → Nat} {n : Nat} {σ : zSg} {d : Nat} (hd : 62 ≤ d) {N : Nat} {a1 : Int} {a2 : Int} {a3 : Int} {a4 : Int} {a5 : Int} {h : zH} {g : zH} (hF : fX11_tryRows N a1 a2 a3 a4 a5 h = some g) : zMet l yX11_tryRows cX11_tryRows 7 none (zrm d) D cy α n σ [.ref (α 14), .int (zi a1), .int (zi a2), .int (zi a3), .int (zi a4), .int (zi a5)] h (none) g :=
  (MG_fX11_tryRows 60 (by omega : 2 + 60 ≤ d)) hF
set_option maxRecDepth 20000 in
set_option maxHeartbeats 4000000 in
theorem J_fX11_laySoonest {κ : zT} (C : zC κ RX11 cX11_laySoonest 4 none) {d : Nat} (hR : zR κ = zrm (d + 1)) (hd : 63 ≤ d + 1) {N : Nat} {r : zH} (e1 : zrv κ = none) (e2 : zhf κ = r) {a1 : Int} {a2 : Int} {h : zH} (hF : fX11_laySoonest N a1 a2 h = some r) : Z κ h 0 [(0, .ref (zα κ 14)), (1, .int (zi a1)), (2, .int (zi a2))] [] := by
  unfold fX11_laySoonest at hF
  refine z_aload_n (q := 1) C dX11_laySoonest_0 0 rfl rfl rfl ?_
  refine z_iconst (q := 2) C dX11_laySoonest_1 rfl ?_
  obtain ⟨h1, eh1, hF⟩ := zlet_e hF
  refine z_putf (q := 5) C clX11 (zon C zo_14) kd_14 (k := 41) (x := (-1)) (by decide) q_1143 rfl rfl rfl rfl (((zfv_i kd_14 rfl)).trans (by rw [if_pos rfl])) dX11_laySoonest_2 rfl eh1 ?_
  refine z_aload_n (q := 6) C dX11_laySoonest_5 0 rfl rfl rfl ?_
  refine z_iconst (q := 7) C dX11_laySoonest_6 rfl ?_
  obtain ⟨h2, eh2, hF⟩ := zlet_e hF
  refine z_putf (q := 10) C clX11 (zon C zo_14) kd_14 (k := 40) (x := (-1)) (by decide) q_1142 rfl rfl rfl rfl (((zfv_i kd_14 rfl)).trans (by rw [if_pos rfl])) dX11_laySoonest_7 rfl eh2 ?_
  refine z_aload_n (q := 11) C dX11_laySoonest_10 0 rfl rfl rfl ?_
  refine z_iconst (q := 12) C dX11_laySoonest_11 rfl ?_
  obtain ⟨h3, eh3, hF⟩ := zlet_e hF
  refine z_putf (q := 15) C clX11 (zon C zo_14) kd_14 (k := 42) (x := 0) (by decide) q_1144 rfl rfl rfl rfl (((zfv_i kd_14 rfl)).trans (by rw [if_pos rfl])) dX11_laySoonest_12 rfl eh3 ?_
  refine z_aload_n (q := 16) C dX11_laySoonest_15 0 rfl rfl rfl ?_
  refine z_iload_n (q := 17) C dX11_laySoonest_16 1 rfl rfl rfl ?_
  refine z_iload_n (q := 18) C dX11_laySoonest_17 2 rfl rfl rfl ?_
  obtain ⟨v4, ev4, hF⟩ := zb_e hF
  refine z_callV (q := 21) (o := 14) (av := [.int (zi a1), .int (zi a2)]) (rest := []) (stk2 := [.int (zi v4)]) C hR clX11 (zon C zo_14) kd_14 (M_fX11_lacks (zlv hd rfl) ev4) mY_X11_lacks q_1639 (Nat.le_of_ble_eq_true rfl) dX11_laySoonest_18 rfl rfl rfl ?_
  refine z_istore_n (q := 22) C dX11_laySoonest_21 (by decide) rfl rfl rfl ?_
  refine z_aload_n (q := 23) C dX11_laySoonest_22 1 rfl rfl rfl ?_
  refine z_iload_n (q := 24) C dX11_laySoonest_23 0 rfl rfl rfl ?_
  refine z_iload_n (q := 25) C dX11_laySoonest_24 3 rfl rfl rfl ?_
  refine z_aload_n (q := 26) C dX11_laySoonest_25 1 rfl rfl rfl ?_
  refine z_getf (q := 29) C clX11 (zon C zo_14) kd_14 (k := 34) (by decide) q_1136 rfl (zfv_r kd_14 rfl fr_14_34) dX11_laySoonest_26 rfl ?_
  refine z_bipush (q := 31) C dX11_laySoonest_29 bp_42 rfl ?_
  refine z_ialdc (q := 32) (j := 42) C (zon C zo_69) kd_69 zwk_42 (by rw [ln_69]; decide) dX11_laySoonest_31 rfl ?_
  refine z_iconst (q := 33) C dX11_laySoonest_32 rfl ?_
  refine z_iconst (q := 34) C dX11_laySoonest_33 rfl ?_
  obtain ⟨h5, eh5, hF⟩ := zb_e hF
  refine z_callV (q := 37) (o := 14) (av := [.int (zi v4), .int (zi a2), .int (zi (h3 69 42)), .int (zi 0), .int (zi 0)]) (rest := []) (stk2 := []) C hR clX11 (zon C zo_14) kd_14 (M_fX11_tryRows (zlv hd rfl) eh5) mY_X11_tryRows q_1643 (Nat.le_of_ble_eq_true rfl) dX11_laySoonest_34 rfl rfl rfl ?_
  refine z_aload_n (q := 38) C dX11_laySoonest_37 1 rfl rfl rfl ?_
  refine z_iload_n (q := 39) C dX11_laySoonest_38 0 rfl rfl rfl ?_
  refine z_if_ne (tgt := 46) (q := 42) C dX11_laySoonest_39 (by decide) rfl (fun c6 => ?_) (fun c6 => ?_)
  · have hF := (if_neg c6).symm.trans hF
    refine z_aload_n (q := 47) C dX11_laySoonest_46 1 rfl rfl rfl ?_
    refine z_getf (q := 50) C clX11 (zon C zo_14) kd_14 (k := 40) (by decide) q_1142 rfl (zfv_i kd_14 rfl) dX11_laySoonest_47 rfl ?_
    obtain ⟨h8, eh8, hF⟩ := zlet_e hF
    refine z_putf (q := 53) C clX11 (zon C zo_14) kd_14 (k := 40) (x := h5 14 40) (by decide) q_1142 rfl rfl rfl rfl (((zfv_i kd_14 rfl)).trans (by rw [if_pos rfl])) dX11_laySoonest_50 rfl eh8 ?_
    have hF := Option.some.inj hF
    subst hF
    exact z_vret C e1 e2 dX11_laySoonest_53
  · have hF := (if_pos c6).symm.trans hF
    refine z_iconst (q := 43) C dX11_laySoonest_42 rfl ?_
    refine z_goto (q := 50) C dX11_laySoonest_43 (by decide) ?_
    obtain ⟨h7, eh7, hF⟩ := zlet_e hF
    refine z_putf (q := 53) C clX11 (zon C zo_14) kd_14 (k := 40) (x := (-1)) (by decide) q_1142 rfl rfl rfl rfl (((zfv_i kd_14 rfl)).trans (by rw [if_pos rfl])) dX11_laySoonest_50 rfl eh7 ?_
    have hF := Option.some.inj hF
    subst hF
    exact z_vret C e1 e2 dX11_laySoonest_53
set_option maxRecDepth 20000 in
set_option maxHeartbeats 4000000 in
theorem M_fX11_laySoonest {l : Launch} {D : va_G} {cy : ClassId} {α : Nat → Nat} {n : Nat} {σ : zSg} {d : Nat} (hd : 63 ≤ d) {N : Nat} {a1 : Int} {a2 : Int} {h : zH} {g : zH} (hF : fX11_laySoonest N a1 a2 h = some g) : zMet l yX11_laySoonest cX11_laySoonest 4 none (zrm d) D cy α n σ [.ref (α 14), .int (zi a1), .int (zi a2)] h (none) g := by
  obtain ⟨d, rfl⟩ : ∃ e, d = e + 1 := ⟨d - 1, by omega⟩
  refine z_met (by decide +kernel) (Nat.le_of_ble_eq_true rfl) (fun κ k1 k2 k3 k4 k5 k6 k7 k8 k9 C => ?_)
  subst k1 k3 k4 k5 k6 k7
  exact J_fX11_laySoonest C k2 hd k8 k9 hF
set_option maxRecDepth 20000 in
set_option maxHeartbeats 4000000 in
theorem J_fX11_soonest {κ : zT} (C : zC κ RX11 cX11_soonest 3 (some .int)) {d : Nat} (hR : zR κ = zrm (d + 1)) (hd : 64 ≤ d + 1) {N : Nat} {r : Int × zH} (e1 : zrv κ = some (.int (zi r.1))) (e2 : zhf κ = r.2) {a1 : Int} {a2 : Int} {h : zH} (hF : fX11_soonest N a1 a2 h = some r) : Z κ h 0 [(0, .ref (zα κ 14)), (1, .int (zi a1)), (2, .int (zi a2))] [] := by
  unfold fX11_soonest at hF
  refine z_aload_n (q := 1) C dX11_soonest_0 0 rfl rfl rfl ?_
  refine z_iload_n (q := 2) C dX11_soonest_1 1 rfl rfl rfl ?_
  refine z_callV (q := 5) (o := 14) (av := [.int (zi a1)]) (rest := []) (stk2 := [.int (zi (fX11_isParish a1 h))]) C hR clX11 (zon C zo_14) kd_14 (M_fX11_isParish (zlv hd rfl) rfl) mY_X11_isParish q_1426 (Nat.le_of_ble_eq_true rfl) dX11_soonest_2 rfl rfl rfl ?_
  refine z_if_eq (tgt := 17) (q := 8) C dX11_soonest_5 (by decide) rfl (fun c1 => ?_) (fun c1 => ?_)
  · have hF := (if_pos c1).symm.trans hF
    refine z_iconst (q := 18) C dX11_soonest_17 rfl ?_
    have hF := Option.some.inj hF
    subst hF
    exact z_iret C e1 e2 dX11_soonest_18
  · have hF := (if_neg c1).symm.trans hF
    refine z_iload_n (q := 9) C dX11_soonest_8 2 rfl rfl rfl ?_
    refine z_iconst (q := 10) C dX11_soonest_9 rfl ?_
    refine z_iconst (q := 11) C dX11_soonest_10 rfl ?_
    refine z_callS (q := 14) (av := [.int (zi a2), .int (zi 0), .int (zi 2)]) (rest := []) (stk2 := [.int (zi (fX11_in a2 0 2))]) C hR (M_fX11_in (zlv hd rfl) rfl) mY_X11_in q_1314 (Nat.le_of_ble_eq_true rfl) dX11_soonest_11 rfl rfl rfl ?_
    refine z_if_ne (tgt := 19) (q := 17) C dX11_soonest_14 (by decide) rfl (fun c2 => ?_) (fun c2 => ?_)
    · have hF := (if_neg c2).symm.trans hF
      refine z_aload_n (q := 20) C dX11_soonest_19 0 rfl rfl rfl ?_
      refine z_iload_n (q := 21) C dX11_soonest_20 1 rfl rfl rfl ?_
      refine z_aload_n (q := 22) C dX11_soonest_21 0 rfl rfl rfl ?_
      refine z_iload_n (q := 23) C dX11_soonest_22 1 rfl rfl rfl ?_
      refine z_iconst (q := 24) C dX11_soonest_23 rfl ?_
      obtain ⟨v3, ev3, hF⟩ := zb_e hF
      refine z_callV (q := 27) (o := 14) (av := [.int (zi a1), .int (zi 0)]) (rest := [.int (zi a1), .ref (zα κ 14)]) (stk2 := [.int (zi v3), .int (zi a1), .ref (zα κ 14)]) C hR clX11 (zon C zo_14) kd_14 (M_fX11_of (zlv hd rfl) ev3) mY_X11_of q_1430 (Nat.le_of_ble_eq_true rfl) dX11_soonest_24 rfl rfl rfl ?_
      obtain ⟨h4, eh4, hF⟩ := zb_e hF
      refine z_callV (q := 30) (o := 14) (av := [.int (zi a1), .int (zi v3)]) (rest := []) (stk2 := []) C hR clX11 (zon C zo_14) kd_14 (M_fX11_laySoonest (zlv hd rfl) eh4) mY_X11_laySoonest q_1635 (Nat.le_of_ble_eq_true rfl) dX11_soonest_27 rfl rfl rfl ?_
      refine z_aload_n (q := 31) C dX11_soonest_30 0 rfl rfl rfl ?_
      refine z_getf (q := 34) C clX11 (zon C zo_14) kd_14 (k := 41) (by decide) q_1143 rfl (zfv_i kd_14 rfl) dX11_soonest_31 rfl ?_
      refine z_iconst (q := 35) C dX11_soonest_34 rfl ?_
      refine z_icmp_ne (tgt := 42) (q := 38) C dX11_soonest_35 (by decide) rfl (fun c5 => ?_) (fun c5 => ?_)
      · have hF := (if_neg c5).symm.trans hF
        refine z_iload_n (q := 43) C dX11_soonest_42 2 rfl rfl rfl ?_
        refine z_if_ne (tgt := 53) (q := 46) C dX11_soonest_43 (by decide) rfl (fun c6 => ?_) (fun c6 => ?_)
        · have hF := (if_neg c6).symm.trans hF
          refine z_iload_n (q := 54) C dX11_soonest_53 2 rfl rfl rfl ?_
          refine z_iconst (q := 55) C dX11_soonest_54 rfl ?_
          refine z_icmp_ne (tgt := 65) (q := 58) C dX11_soonest_55 (by decide) rfl (fun c7 => ?_) (fun c7 => ?_)
          · have hF := (if_neg c7).symm.trans hF
            refine z_aload_n (q := 66) C dX11_soonest_65 0 rfl rfl rfl ?_
            refine z_getf (q := 69) C clX11 (zon C zo_14) kd_14 (k := 42) (by decide) q_1144 rfl (zfv_i kd_14 rfl) dX11_soonest_66 rfl ?_
            have hF := Option.some.inj hF
            subst hF
            exact z_iret C e1 e2 dX11_soonest_69
          · have hF := (if_pos c7).symm.trans hF
            refine z_aload_n (q := 59) C dX11_soonest_58 0 rfl rfl rfl ?_
            refine z_getf (q := 62) C clX11 (zon C zo_14) kd_14 (k := 40) (by decide) q_1142 rfl (zfv_i kd_14 rfl) dX11_soonest_59 rfl ?_
            refine z_goto (q := 69) C dX11_soonest_62 (by decide) ?_
            have hF := Option.some.inj hF
            subst hF
            exact z_iret C e1 e2 dX11_soonest_69
        · have hF := (if_pos c6).symm.trans hF
          refine z_aload_n (q := 47) C dX11_soonest_46 0 rfl rfl rfl ?_
          refine z_getf (q := 50) C clX11 (zon C zo_14) kd_14 (k := 41) (by decide) q_1143 rfl (zfv_i kd_14 rfl) dX11_soonest_47 rfl ?_
          refine z_goto (q := 69) C dX11_soonest_50 (by decide) ?_
          have hF := Option.some.inj hF
          subst hF
          exact z_iret C e1 e2 dX11_soonest_69
      · have hF := (if_pos c5).symm.trans hF
        refine z_iconst (q := 39) C dX11_soonest_38 rfl ?_
        refine z_goto (q := 69) C dX11_soonest_39 (by decide) ?_
        have hF := Option.some.inj hF
        subst hF
        exact z_iret C e1 e2 dX11_soonest_69
    · have hF := (if_pos c2).symm.trans hF
      refine z_iconst (q := 18) C dX11_soonest_17 rfl ?_
      have hF := Option.some.inj hF
      subst hF
      exact z_iret C e1 e2 dX11_soonest_18
set_option maxRecDepth 20000 in
set_option maxHeartbeats 4000000 in
theorem M_fX11_soonest {l : Launch} {D : va_G} {cy : ClassId} {α : Nat → Nat} {n : Nat} {σ : zSg} {d : Nat} (hd : 64 ≤ d) {N : Nat} {a1 : Int} {a2 : Int} {h : zH} {r : Int} {g : zH} (hF : fX11_soonest N a1 a2 h = some (r, g)) : zMet l yX11_soonest cX11_soonest 3 (some .int) (zrm d) D cy α n σ [.ref (α 14), .int (zi a1), .int (zi a2)] h (some (.int (zi r))) g := by
  obtain ⟨d, rfl⟩ : ∃ e, d = e + 1 := ⟨d - 1, by omega⟩
  refine z_met (by decide +kernel) (Nat.le_of_ble_eq_true rfl) (fun κ k1 k2 k3 k4 k5 k6 k7 k8 k9 C => ?_)
  subst k1 k3 k4 k5 k6 k7
  exact J_fX11_soonest C k2 hd k8 k9 hF
set_option maxRecDepth 20000 in
set_option maxHeartbeats 4000000 in
theorem J_fX11_hasRow_c24b {κ : zT} (C : zC κ RX11 cX11_hasRow 7 (some .boolean)) {d : Nat} (hR : zR κ = zrm (d + 1)) (hd : 3 ≤ d + 1) {N : Nat} {h : zH} {r : Int} (e1 : zrv κ = some (.int (zi r))) (e2 : zhf κ = h) {K13 : Int → Int → Int → Option Int} (hK13 : ∀ (l3 : Int) (l4 : Int) (l5 : Int), K13 l3 l4 l5 = some r → Z κ h 13 [(0, .ref (zα κ 14)), (3, .int (zi l3)), (4, .int (zi l4)), (5, .int (zi l5))] []) {K24 : Int → Int → Int → Int → Option Int} (hK24 : ∀ (l3 : Int) (l4 : Int) (l5 : Int) (l6 : Int), K24 l3 l4 l5 l6 = some r → Z κ h 24 [(0, .ref (zα κ 14)), (3, .int (zi l3)), (4, .int (zi l4)), (5, .int (zi l5)), (6, .int (zi l6))] []) (l3 : Int) (l4 : Int) (l5 : Int) (l6 : Int) (hF : fX11_hasRow_c24b N h K13 K24 l3 l4 l5 l6 = some r) : Z κ h 24 [(0, .ref (zα κ 14)), (3, .int (zi l3)), (4, .int (zi l4)), (5, .int (zi l5)), (6, .int (zi l6))] [] := by
  unfold fX11_hasRow_c24b at hF
  refine z_iload (q := 26) C dX11_hasRow_24 4 rfl rfl ?_
  refine z_aload_n (q := 27) C dX11_hasRow_26 0 rfl rfl rfl ?_
  refine z_getf (q := 30) C clX11 (zon C zo_14) kd_14 (k := 30) (by decide) q_1132 rfl (zfv_i kd_14 rfl) dX11_hasRow_27 rfl ?_
  refine z_icmp_ge (tgt := 84) (q := 33) C dX11_hasRow_30 (by decide) rfl (fun c1 => ?_) (fun c1 => ?_)
  · have hF := (if_pos c1).symm.trans hF
    refine z_goto (q := 13) C dX11_hasRow_84 (by decide) ?_
    exact z_sub (hK13 _ _ _ hF) [0, 1, 2, 3] rfl
  · have hF := (if_neg c1).symm.trans hF
    refine z_iload_n (q := 34) C dX11_hasRow_33 1 rfl rfl rfl ?_
    refine z_iload (q := 36) C dX11_hasRow_34 4 rfl rfl ?_
    refine z_callS (q := 39) (av := [.int (zi l3), .int (zi l6)]) (rest := []) (stk2 := [.int (zi (fX11_has l3 l6))]) C hR (M_fX11_has (zlv hd rfl) rfl) mY_X11_has q_1294 (Nat.le_of_ble_eq_true rfl) dX11_hasRow_36 rfl rfl rfl ?_
    refine z_if_eq (tgt := 78) (q := 42) C dX11_hasRow_39 (by decide) rfl (fun c2 => ?_) (fun c2 => ?_)
    · have hF := (if_pos c2).symm.trans hF
      refine z_iinc (q := 81) (x := l6) C dX11_hasRow_78 (j := 4) rfl (by decide) rfl rfl ?_
      refine z_goto (q := 24) C dX11_hasRow_81 (by decide) ?_
      exact z_sub (hK24 _ _ _ _ hF) [1, 2, 3, 4, 0] rfl
    · have hF := (if_neg c2).symm.trans hF
      refine z_iload (q := 44) C dX11_hasRow_42 2 rfl rfl ?_
      refine z_iload (q := 46) C dX11_hasRow_44 4 rfl rfl ?_
      refine z_callS (q := 49) (av := [.int (zi l4), .int (zi l6)]) (rest := []) (stk2 := [.int (zi (fX11_has l4 l6))]) C hR (M_fX11_has (zlv hd rfl) rfl) mY_X11_has q_1294 (Nat.le_of_ble_eq_true rfl) dX11_hasRow_46 rfl rfl rfl ?_
      refine z_if_ne (tgt := 78) (q := 52) C dX11_hasRow_49 (by decide) rfl (fun c3 => ?_) (fun c3 => ?_)
      · have hF := (if_neg c3).symm.trans hF
        refine z_iinc (q := 81) (x := l6) C dX11_hasRow_78 (j := 4) rfl (by decide) rfl rfl ?_
        refine z_goto (q := 24) C dX11_hasRow_81 (by decide) ?_
        exact z_sub (hK24 _ _ _ _ hF) [1, 2, 3, 4, 0] rfl
      · have hF := (if_pos c3).symm.trans hF
        refine z_aload_n (q := 53) C dX11_hasRow_52 0 rfl rfl rfl ?_
        refine z_iload (q := 55) C dX11_hasRow_53 4 rfl rfl ?_
        obtain ⟨v4, ev4, hF⟩ := zb_e hF
        refine z_callV (q := 58) (o := 14) (av := [.int (zi l6)]) (rest := []) (stk2 := [.int (zi v4)]) C hR clX11 (zon C zo_14) kd_14 (M_fX11_wants (zlv hd rfl) ev4) mY_X11_wants q_1486 (Nat.le_of_ble_eq_true rfl) dX11_hasRow_55 rfl rfl rfl ?_
        refine z_iload (q := 60) C dX11_hasRow_58 2 rfl rfl ?_
        refine z_iconst (q := 61) C dX11_hasRow_60 rfl ?_
        refine z_ixor (q := 62) C dX11_hasRow_61 rfl ?_
        refine z_iand (q := 63) C dX11_hasRow_62 rfl ?_
        refine z_if_ne (tgt := 78) (q := 66) C dX11_hasRow_63 (by decide) rfl (fun c5 => ?_) (fun c5 => ?_)
        · have hF := (if_neg c5).symm.trans hF
          refine z_iinc (q := 81) (x := l6) C dX11_hasRow_78 (j := 4) rfl (by decide) rfl rfl ?_
          refine z_goto (q := 24) C dX11_hasRow_81 (by decide) ?_
          exact z_sub (hK24 _ _ _ _ hF) [1, 2, 3, 4, 0] rfl
        · have hF := (if_pos c5).symm.trans hF
          refine z_iload (q := 68) C dX11_hasRow_66 2 rfl rfl ?_
          refine z_iconst (q := 69) C dX11_hasRow_68 rfl ?_
          refine z_iload (q := 71) C dX11_hasRow_69 4 rfl rfl ?_
          refine z_ishl (q := 72) C dX11_hasRow_71 rfl ?_
          refine z_ior (q := 73) C dX11_hasRow_72 rfl ?_
          obtain ⟨v6, ev6, hF⟩ := zlet_e hF
          refine z_istoreE (q := 75) C ev6 dX11_hasRow_73 (by decide) rfl rfl ?_
          refine z_iconst (q := 76) C dX11_hasRow_75 rfl ?_
          refine z_istore (q := 78) C dX11_hasRow_76 (by decide) rfl rfl ?_
          refine z_iinc (q := 81) (x := l6) C dX11_hasRow_78 (j := 4) rfl (by decide) rfl rfl ?_
          refine z_goto (q := 24) C dX11_hasRow_81 (by decide) ?_
          exact z_sub (hK24 _ _ _ _ hF) [3, 4, 2, 1, 0] rfl
set_option maxRecDepth 20000 in
set_option maxHeartbeats 4000000 in
theorem J_fX11_hasRow_c24 {κ : zT} (C : zC κ RX11 cX11_hasRow 7 (some .boolean)) {d : Nat} (hR : zR κ = zrm (d + 1)) (hd : 3 ≤ d + 1) {N : Nat} {h : zH} {r : Int} (e1 : zrv κ = some (.int (zi r))) (e2 : zhf κ = h) {K13 : Int → Int → Int → Option Int} (hK13 : ∀ (l3 : Int) (l4 : Int) (l5 : Int), K13 l3 l4 l5 = some r → Z κ h 13 [(0, .ref (zα κ 14)), (3, .int (zi l3)), (4, .int (zi l4)), (5, .int (zi l5))] []) : ∀ (k : Nat) (l3 : Int) (l4 : Int) (l5 : Int) (l6 : Int), fX11_hasRow_c24 N h K13 k l3 l4 l5 l6 = some r → Z κ h 24 [(0, .ref (zα κ 14)), (3, .int (zi l3)), (4, .int (zi l4)), (5, .int (zi l5)), (6, .int (zi l6))] [] := by
  intro k
  induction k with
  | zero => intro l3 l4 l5 l6 hF; cases hF
  | succ k ih => intro l3 l4 l5 l6 hF; exact J_fX11_hasRow_c24b C hR hd e1 e2 hK13 ih l3 l4 l5 l6 hF
set_option maxRecDepth 20000 in
set_option maxHeartbeats 4000000 in
theorem J_fX11_hasRow_c13b {κ : zT} (C : zC κ RX11 cX11_hasRow 7 (some .boolean)) {d : Nat} (hR : zR κ = zrm (d + 1)) (hd : 3 ≤ d + 1) {N : Nat} {h : zH} {r : Int} (e1 : zrv κ = some (.int (zi r))) (e2 : zhf κ = h) {K13 : Int → Int → Int → Option Int} (hK13 : ∀ (l3 : Int) (l4 : Int) (l5 : Int), K13 l3 l4 l5 = some r → Z κ h 13 [(0, .ref (zα κ 14)), (3, .int (zi l3)), (4, .int (zi l4)), (5, .int (zi l5))] []) (l3 : Int) (l4 : Int) (l5 : Int) (hF : fX11_hasRow_c13b N h K13 l3 l4 l5 = some r) : Z κ h 13 [(0, .ref (zα κ 14)), (3, .int (zi l3)), (4, .int (zi l4)), (5, .int (zi l5))] [] := by
  unfold fX11_hasRow_c13b at hF
  refine z_iload (q := 15) C dX11_hasRow_13 3 rfl rfl ?_
  refine z_if_eq (tgt := 87) (q := 18) C dX11_hasRow_15 (by decide) rfl (fun c1 => ?_) (fun c1 => ?_)
  · have hF := (if_pos c1).symm.trans hF
    refine z_iload_n (q := 88) C dX11_hasRow_87 1 rfl rfl rfl ?_
    refine z_iload (q := 90) C dX11_hasRow_88 2 rfl rfl ?_
    refine z_iconst (q := 91) C dX11_hasRow_90 rfl ?_
    refine z_ixor (q := 92) C dX11_hasRow_91 rfl ?_
    refine z_iand (q := 93) C dX11_hasRow_92 rfl ?_
    refine z_if_ne (tgt := 100) (q := 96) C dX11_hasRow_93 (by decide) rfl (fun c2 => ?_) (fun c2 => ?_)
    · have hF := (if_neg c2).symm.trans hF
      refine z_iconst (q := 101) C dX11_hasRow_100 rfl ?_
      have hF := Option.some.inj hF
      subst hF
      exact z_zret C (zb01 (Or.inl rfl)) e1 e2 dX11_hasRow_101
    · have hF := (if_pos c2).symm.trans hF
      refine z_iconst (q := 97) C dX11_hasRow_96 rfl ?_
      refine z_goto (q := 101) C dX11_hasRow_97 (by decide) ?_
      have hF := Option.some.inj hF
      subst hF
      exact z_zret C (zb01 (Or.inr rfl)) e1 e2 dX11_hasRow_101
  · have hF := (if_neg c1).symm.trans hF
    refine z_iconst (q := 19) C dX11_hasRow_18 rfl ?_
    refine z_istore (q := 21) C dX11_hasRow_19 (by decide) rfl rfl ?_
    refine z_iconst (q := 22) C dX11_hasRow_21 rfl ?_
    refine z_istore (q := 24) C dX11_hasRow_22 (by decide) rfl rfl ?_
    exact z_sub (J_fX11_hasRow_c24 C hR hd e1 e2 hK13 N _ _ _ _ hF) [2, 3, 4, 1, 0] rfl
set_option maxRecDepth 20000 in
set_option maxHeartbeats 4000000 in
theorem J_fX11_hasRow_c13 {κ : zT} (C : zC κ RX11 cX11_hasRow 7 (some .boolean)) {d : Nat} (hR : zR κ = zrm (d + 1)) (hd : 3 ≤ d + 1) {N : Nat} {h : zH} {r : Int} (e1 : zrv κ = some (.int (zi r))) (e2 : zhf κ = h) : ∀ (k : Nat) (l3 : Int) (l4 : Int) (l5 : Int), fX11_hasRow_c13 N h k l3 l4 l5 = some r → Z κ h 13 [(0, .ref (zα κ 14)), (3, .int (zi l3)), (4, .int (zi l4)), (5, .int (zi l5))] [] := by
  intro k
  induction k with
  | zero => intro l3 l4 l5 hF; cases hF
  | succ k ih => intro l3 l4 l5 hF; exact J_fX11_hasRow_c13b C hR hd e1 e2 ih l3 l4 l5 hF
set_option maxRecDepth 20000 in
set_option maxHeartbeats 4000000 in
theorem J_fX11_hasRow {κ : zT} (C : zC κ RX11 cX11_hasRow 7 (some .boolean)) {d : Nat} (hR : zR κ = zrm (d + 1)) (hd : 3 ≤ d + 1) {N : Nat} {h : zH} {r : Int} (e1 : zrv κ = some (.int (zi r))) (e2 : zhf κ = h) {a1 : Int} {a2 : Int} (hF : fX11_hasRow N a1 a2 h = some r) : Z κ h 0 [(0, .ref (zα κ 14)), (1, .int (zi a1)), (2, .int (zi a2))] [] := by
  unfold fX11_hasRow at hF
  refine z_aload_n (q := 1) C dX11_hasRow_0 0 rfl rfl rfl ?_
  refine z_iload_n (q := 2) C dX11_hasRow_1 1 rfl rfl rfl ?_
  refine z_iload_n (q := 3) C dX11_hasRow_2 2 rfl rfl rfl ?_
  obtain ⟨v1, ev1, hF⟩ := zb_e hF
  refine z_callV (q := 6) (o := 14) (av := [.int (zi a1), .int (zi a2)]) (rest := []) (stk2 := [.int (zi v1)]) C hR clX11 (zon C zo_14) kd_14 (M_fX11_lacks (zlv hd rfl) ev1) mY_X11_lacks q_1639 (Nat.le_of_ble_eq_true rfl) dX11_hasRow_3 rfl rfl rfl ?_
  refine z_istore_n (q := 7) C dX11_hasRow_6 (by decide) rfl rfl rfl ?_
  refine z_iload_n (q := 8) C dX11_hasRow_7 3 rfl rfl rfl ?_
  refine z_istore (q := 10) C dX11_hasRow_8 (by decide) rfl rfl ?_
  refine z_iconst (q := 11) C dX11_hasRow_10 rfl ?_
  refine z_istore (q := 13) C dX11_hasRow_11 (by decide) rfl rfl ?_
  exact z_sub (J_fX11_hasRow_c13 C hR hd e1 e2 N _ _ _ hF) [3, 2, 1, 0] rfl
set_option maxRecDepth 20000 in
set_option maxHeartbeats 4000000 in
theorem M_fX11_hasRow {l : Launch} {D : va_G} {cy : ClassId} {α : Nat → Nat} {n : Nat} {σ : zSg} {d : Nat} (hd : 3 ≤ d) {N : Nat} {a1 : Int} {a2 : Int} {h : zH} {r : Int} (hF : fX11_hasRow N a1 a2 h = some r) : zMet l yX11_hasRow cX11_hasRow 7 (some .boolean) (zrm d) D cy α n σ [.ref (α 14), .int (zi a1), .int (zi a2)] h (some (.int (zi r))) h := by
  obtain ⟨d, rfl⟩ : ∃ e, d = e + 1 := ⟨d - 1, by omega⟩
  refine z_met (by decide +kernel) (Nat.le_of_ble_eq_true rfl) (fun κ k1 k2 k3 k4 k5 k6 k7 k8 k9 C => ?_)
  subst k1 k3 k4 k5 k6 k7
  exact J_fX11_hasRow C k2 hd k8 k9 hF
set_option maxRecDepth 20000 in
set_option maxHeartbeats 4000000 in
theorem J_fX11_waived_c45 {κ : zT} (C : zC κ RX11 cX11_waived 5 (some .int)) {d : Nat} (hR : zR κ = zrm (d + 1)) (hd : 4 ≤ d + 1) {N : Nat} {h : zH} {r : Int} (e1 : zrv κ = some (.int (zi r))) (e2 : zhf κ = h) {K14 : Int → Int → Int → Option Int} (hK14 : ∀ (l1 : Int) (l2 : Int) (l3 : Int), K14 l1 l2 l3 = some r → Z κ h 14 [(0, .ref (zα κ 14)), (1, .int (zi l1)), (2, .int (zi l2)), (3, .int (zi l3))] []) (l1 : Int) (l2 : Int) (l3 : Int) (s0 : Int) (hF : fX11_waived_c45 N h K14 l1 l2 l3 s0 = some r) : Z κ h 45 [(0, .ref (zα κ 14)), (1, .int (zi l1)), (2, .int (zi l2)), (3, .int (zi l3))] [.int (zi s0)] := by
  unfold fX11_waived_c45 at hF
  refine z_istore (q := 47) C dX11_waived_45 (by decide) rfl rfl ?_
  refine z_iload (q := 49) C dX11_waived_47 0 rfl rfl ?_
  refine z_if_eq (tgt := 72) (q := 52) C dX11_waived_49 (by decide) rfl (fun c1 => ?_) (fun c1 => ?_)
  · have hF := (if_pos c1).symm.trans hF
    refine z_iload_n (q := 73) C dX11_waived_72 3 rfl rfl rfl ?_
    refine z_istore_n (q := 74) C dX11_waived_73 (by decide) rfl rfl rfl ?_
    refine z_iinc (q := 77) (x := l3) C dX11_waived_74 (j := 4) rfl (by decide) rfl rfl ?_
    refine z_goto (q := 14) C dX11_waived_77 (by decide) ?_
    exact z_sub (hK14 _ _ _ hF) [3, 4, 1, 0] rfl
  · have hF := (if_neg c1).symm.trans hF
    refine z_aload_n (q := 53) C dX11_waived_52 1 rfl rfl rfl ?_
    refine z_iload_n (q := 54) C dX11_waived_53 2 rfl rfl rfl ?_
    refine z_aload_n (q := 55) C dX11_waived_54 1 rfl rfl rfl ?_
    refine z_iload_n (q := 56) C dX11_waived_55 2 rfl rfl rfl ?_
    refine z_iconst (q := 57) C dX11_waived_56 rfl ?_
    obtain ⟨v2, ev2, hF⟩ := zb_e hF
    refine z_callV (q := 60) (o := 14) (av := [.int (zi l1), .int (zi 0)]) (rest := [.int (zi l1), .ref (zα κ 14)]) (stk2 := [.int (zi v2), .int (zi l1), .ref (zα κ 14)]) C hR clX11 (zon C zo_14) kd_14 (M_fX11_of (zlv hd rfl) ev2) mY_X11_of q_1430 (Nat.le_of_ble_eq_true rfl) dX11_waived_57 rfl rfl rfl ?_
    refine z_iload_n (q := 61) C dX11_waived_60 4 rfl rfl rfl ?_
    refine z_ior (q := 62) C dX11_waived_61 rfl ?_
    obtain ⟨v3, ev3, hF⟩ := zb_e hF
    refine z_callV (q := 65) (o := 14) (av := [.int (zi l1), .int (zi (zor v2 l3))]) (rest := []) (stk2 := [.int (zi v3)]) C hR clX11 (zon C zo_14) kd_14 (M_fX11_hasRow (zlv hd rfl) ev3) mY_X11_hasRow q_1655 (Nat.le_of_ble_eq_true rfl) dX11_waived_62 rfl rfl rfl ?_
    refine z_if_eq (tgt := 72) (q := 68) C dX11_waived_65 (by decide) rfl (fun c4 => ?_) (fun c4 => ?_)
    · have hF := (if_pos c4).symm.trans hF
      refine z_iload_n (q := 73) C dX11_waived_72 3 rfl rfl rfl ?_
      refine z_istore_n (q := 74) C dX11_waived_73 (by decide) rfl rfl rfl ?_
      refine z_iinc (q := 77) (x := l3) C dX11_waived_74 (j := 4) rfl (by decide) rfl rfl ?_
      refine z_goto (q := 14) C dX11_waived_77 (by decide) ?_
      exact z_sub (hK14 _ _ _ hF) [3, 4, 1, 0] rfl
    · have hF := (if_neg c4).symm.trans hF
      refine z_iload_n (q := 69) C dX11_waived_68 4 rfl rfl rfl ?_
      refine z_goto (q := 73) C dX11_waived_69 (by decide) ?_
      refine z_istore_n (q := 74) C dX11_waived_73 (by decide) rfl rfl rfl ?_
      refine z_iinc (q := 77) (x := l3) C dX11_waived_74 (j := 4) rfl (by decide) rfl rfl ?_
      refine z_goto (q := 14) C dX11_waived_77 (by decide) ?_
      exact z_sub (hK14 _ _ _ hF) [3, 4, 1, 0] rfl
set_option maxRecDepth 20000 in
set_option maxHeartbeats 4000000 in
theorem J_fX11_waived_c14b {κ : zT} (C : zC κ RX11 cX11_waived 5 (some .int)) {d : Nat} (hR : zR κ = zrm (d + 1)) (hd : 4 ≤ d + 1) {N : Nat} {h : zH} {r : Int} (e1 : zrv κ = some (.int (zi r))) (e2 : zhf κ = h) {K14 : Int → Int → Int → Option Int} (hK14 : ∀ (l1 : Int) (l2 : Int) (l3 : Int), K14 l1 l2 l3 = some r → Z κ h 14 [(0, .ref (zα κ 14)), (1, .int (zi l1)), (2, .int (zi l2)), (3, .int (zi l3))] []) (l1 : Int) (l2 : Int) (l3 : Int) (hF : fX11_waived_c14b N h K14 l1 l2 l3 = some r) : Z κ h 14 [(0, .ref (zα κ 14)), (1, .int (zi l1)), (2, .int (zi l2)), (3, .int (zi l3))] [] := by
  unfold fX11_waived_c14b at hF
  refine z_iload_n (q := 15) C dX11_waived_14 3 rfl rfl rfl ?_
  refine z_iconst (q := 16) C dX11_waived_15 rfl ?_
  refine z_aload_n (q := 17) C dX11_waived_16 0 rfl rfl rfl ?_
  refine z_getf (q := 20) C clX11 (zon C zo_14) kd_14 (k := 30) (by decide) q_1132 rfl (zfv_i kd_14 rfl) dX11_waived_17 rfl ?_
  refine z_ishl (q := 21) C dX11_waived_20 rfl ?_
  refine z_icmp_ge (tgt := 80) (q := 24) C dX11_waived_21 (by decide) rfl (fun c1 => ?_) (fun c1 => ?_)
  · have hF := (if_pos c1).symm.trans hF
    refine z_iload_n (q := 81) C dX11_waived_80 2 rfl rfl rfl ?_
    have hF := Option.some.inj hF
    subst hF
    exact z_iret C e1 e2 dX11_waived_81
  · have hF := (if_neg c1).symm.trans hF
    refine z_iload_n (q := 25) C dX11_waived_24 2 rfl rfl rfl ?_
    refine z_iconst (q := 26) C dX11_waived_25 rfl ?_
    refine z_icmp_eq (tgt := 40) (q := 29) C dX11_waived_26 (by decide) rfl (fun c2 => ?_) (fun c2 => ?_)
    · have hF := (if_pos c2).symm.trans hF
      refine z_iconst (q := 41) C dX11_waived_40 rfl ?_
      refine z_goto (q := 45) C dX11_waived_41 (by decide) ?_
      exact z_sub (J_fX11_waived_c45 C hR hd e1 e2 hK14 _ _ _ _ hF) [0, 1, 2, 3] rfl
    · have hF := (if_neg c2).symm.trans hF
      refine z_iload_n (q := 30) C dX11_waived_29 3 rfl rfl rfl ?_
      refine z_callS (q := 33) (av := [.int (zi l3)]) (rest := []) (stk2 := [.int (zi (fJ6_bitCount_0f7a4 l3))]) C hR (M_fJ6_bitCount_0f7a4 (zlv hd rfl) rfl) mY_J6_bitCount_0f7a4 q_1555 (Nat.le_of_ble_eq_true rfl) dX11_waived_30 rfl rfl rfl ?_
      refine z_iload_n (q := 34) C dX11_waived_33 2 rfl rfl rfl ?_
      refine z_callS (q := 37) (av := [.int (zi l2)]) (rest := [.int (zi (fJ6_bitCount_0f7a4 l3))]) (stk2 := [.int (zi (fJ6_bitCount_0f7a4 l2)), .int (zi (fJ6_bitCount_0f7a4 l3))]) C hR (M_fJ6_bitCount_0f7a4 (zlv hd rfl) rfl) mY_J6_bitCount_0f7a4 q_1555 (Nat.le_of_ble_eq_true rfl) dX11_waived_34 rfl rfl rfl ?_
      refine z_icmp_ge (tgt := 44) (q := 40) C dX11_waived_37 (by decide) rfl (fun c3 => ?_) (fun c3 => ?_)
      · have hF := (if_pos c3).symm.trans hF
        refine z_iconst (q := 45) C dX11_waived_44 rfl ?_
        exact z_sub (J_fX11_waived_c45 C hR hd e1 e2 hK14 _ _ _ _ hF) [0, 1, 2, 3] rfl
      · have hF := (if_neg c3).symm.trans hF
        refine z_iconst (q := 41) C dX11_waived_40 rfl ?_
        refine z_goto (q := 45) C dX11_waived_41 (by decide) ?_
        exact z_sub (J_fX11_waived_c45 C hR hd e1 e2 hK14 _ _ _ _ hF) [0, 1, 2, 3] rfl
set_option maxRecDepth 20000 in
set_option maxHeartbeats 4000000 in
theorem J_fX11_waived_c14 {κ : zT} (C : zC κ RX11 cX11_waived 5 (some .int)) {d : Nat} (hR : zR κ = zrm (d + 1)) (hd : 4 ≤ d + 1) {N : Nat} {h : zH} {r : Int} (e1 : zrv κ = some (.int (zi r))) (e2 : zhf κ = h) : ∀ (k : Nat) (l1 : Int) (l2 : Int) (l3 : Int), fX11_waived_c14 N h k l1 l2 l3 = some r → Z κ h 14 [(0, .ref (zα κ 14)), (1, .int (zi l1)), (2, .int (zi l2)), (3, .int (zi l3))] [] := by
  intro k
  induction k with
  | zero => intro l1 l2 l3 hF; cases hF
  | succ k ih => intro l1 l2 l3 hF; exact J_fX11_waived_c14b C hR hd e1 e2 ih l1 l2 l3 hF
set_option maxRecDepth 20000 in
set_option maxHeartbeats 4000000 in
theorem J_fX11_waived {κ : zT} (C : zC κ RX11 cX11_waived 5 (some .int)) {d : Nat} (hR : zR κ = zrm (d + 1)) (hd : 4 ≤ d + 1) {N : Nat} {h : zH} {r : Int} (e1 : zrv κ = some (.int (zi r))) (e2 : zhf κ = h) {a1 : Int} (hF : fX11_waived N a1 h = some r) : Z κ h 0 [(0, .ref (zα κ 14)), (1, .int (zi a1))] [] := by
  unfold fX11_waived at hF
  refine z_aload_n (q := 1) C dX11_waived_0 0 rfl rfl rfl ?_
  refine z_iload_n (q := 2) C dX11_waived_1 1 rfl rfl rfl ?_
  refine z_callV (q := 5) (o := 14) (av := [.int (zi a1)]) (rest := []) (stk2 := [.int (zi (fX11_isParish a1 h))]) C hR clX11 (zon C zo_14) kd_14 (M_fX11_isParish (zlv hd rfl) rfl) mY_X11_isParish q_1426 (Nat.le_of_ble_eq_true rfl) dX11_waived_2 rfl rfl rfl ?_
  refine z_if_ne (tgt := 10) (q := 8) C dX11_waived_5 (by decide) rfl (fun c1 => ?_) (fun c1 => ?_)
  · have hF := (if_neg c1).symm.trans hF
    refine z_iconst (q := 11) C dX11_waived_10 rfl ?_
    refine z_istore_n (q := 12) C dX11_waived_11 (by decide) rfl rfl rfl ?_
    refine z_iconst (q := 13) C dX11_waived_12 rfl ?_
    refine z_istore_n (q := 14) C dX11_waived_13 (by decide) rfl rfl rfl ?_
    exact z_sub (J_fX11_waived_c14 C hR hd e1 e2 N _ _ _ hF) [2, 3, 1, 0] rfl
  · have hF := (if_pos c1).symm.trans hF
    refine z_iconst (q := 9) C dX11_waived_8 rfl ?_
    have hF := Option.some.inj hF
    subst hF
    exact z_iret C e1 e2 dX11_waived_9
set_option maxRecDepth 20000 in
set_option maxHeartbeats 4000000 in
theorem M_fX11_waived {l : Launch} {D : va_G} {cy : ClassId} {α : Nat → Nat} {n : Nat} {σ : zSg} {d : Nat} (hd : 4 ≤ d) {N : Nat} {a1 : Int} {h : zH} {r : Int} (hF : fX11_waived N a1 h = some r) : zMet l yX11_waived cX11_waived 5 (some .int) (zrm d) D cy α n σ [.ref (α 14), .int (zi a1)] h (some (.int (zi r))) h := by
  obtain ⟨d, rfl⟩ : ∃ e, d = e + 1 := ⟨d - 1, by omega⟩
  refine z_met (by decide +kernel) (Nat.le_of_ble_eq_true rfl) (fun κ k1 k2 k3 k4 k5 k6 k7 k8 k9 C => ?_)
  subst k1 k3 k4 k5 k6 k7
  exact J_fX11_waived C k2 hd k8 k9 hF
