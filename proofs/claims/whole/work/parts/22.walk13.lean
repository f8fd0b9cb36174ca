set_option maxRecDepth 20000 in
set_option maxHeartbeats 4000000 in
theorem J_fX11_fileNow {κ : zT} (C : zC κ RX11 cX11_fileNow 3 none) {d : Nat} (hR : zR κ = zrm (d + 1)) (hd : 2 ≤ d + 1) {r : zH} (e1 : zrv κ = none) (e2 : zhf κ = r) {a1 : Int} {a2 : Int} {h : zH} (hF : fX11_fileNow a1 a2 h = some r) : Z κ h 0 [(0, .ref (zα κ 14)), (1, .int (zi a1)), (2, .int (zi a2))] [] := by
  unfold fX11_fileNow at hF
  refine z_aload_n (q := 1) C dX11_fileNow_0 0 rfl rfl rfl ?_
  refine z_iload_n (q := 2) C dX11_fileNow_1 1 rfl rfl rfl ?_
  refine z_iconst (q := 3) C dX11_fileNow_2 rfl ?_
  refine z_iload_n (q := 4) C dX11_fileNow_3 2 rfl rfl rfl ?_
  obtain ⟨h1, eh1, hF⟩ := zb_e hF
  refine z_callV (q := 7) (o := 14) (av := [.int (zi a1), .int (zi 1), .int (zi a2)]) (rest := []) (stk2 := []) C hR clX11 (zon C zo_14) kd_14 (M_fX11_put_ (zlv hd rfl) eh1) mY_X11_put_ q_1414 (Nat.le_of_ble_eq_true rfl) dX11_fileNow_4 rfl rfl rfl ?_
  refine z_aload_n (q := 8) C dX11_fileNow_7 0 rfl rfl rfl ?_
  refine z_iload_n (q := 9) C dX11_fileNow_8 1 rfl rfl rfl ?_
  refine z_iconst (q := 10) C dX11_fileNow_9 rfl ?_
  refine z_iconst (q := 11) C dX11_fileNow_10 rfl ?_
  obtain ⟨h2, eh2, hF⟩ := zb_e hF
  refine z_callV (q := 14) (o := 14) (av := [.int (zi a1), .int (zi 3), .int (zi 0)]) (rest := []) (stk2 := []) C hR clX11 (zon C zo_14) kd_14 (M_fX11_put_ (zlv hd rfl) eh2) mY_X11_put_ q_1414 (Nat.le_of_ble_eq_true rfl) dX11_fileNow_11 rfl rfl rfl ?_
  refine z_aload_n (q := 15) C dX11_fileNow_14 0 rfl rfl rfl ?_
  refine z_iload_n (q := 16) C dX11_fileNow_15 1 rfl rfl rfl ?_
  refine z_iconst (q := 17) C dX11_fileNow_16 rfl ?_
  refine z_aload_n (q := 18) C dX11_fileNow_17 0 rfl rfl rfl ?_
  refine z_getf (q := 21) C clX11 (zon C zo_14) kd_14 (k := 34) (by decide) q_1136 rfl (zfv_r kd_14 rfl fr_14_34) dX11_fileNow_18 rfl ?_
  refine z_bipush (q := 23) C dX11_fileNow_21 bp_43 rfl ?_
  refine z_ialdc (q := 24) (j := 43) C (zon C zo_69) kd_69 zwk_43 (by rw [ln_69]; decide) dX11_fileNow_23 rfl ?_
  obtain ⟨h3, eh3, hF⟩ := zb_e hF
  refine z_callV (q := 27) (o := 14) (av := [.int (zi a1), .int (zi 2), .int (zi (h2 69 43))]) (rest := []) (stk2 := []) C hR clX11 (zon C zo_14) kd_14 (M_fX11_put_ (zlv hd rfl) eh3) mY_X11_put_ q_1414 (Nat.le_of_ble_eq_true rfl) dX11_fileNow_24 rfl rfl rfl ?_
  refine z_aload_n (q := 28) C dX11_fileNow_27 0 rfl rfl rfl ?_
  refine z_getf (q := 31) C clX11 (zon C zo_14) kd_14 (k := 34) (by decide) q_1136 rfl (zfv_r kd_14 rfl fr_14_34) dX11_fileNow_28 rfl ?_
  refine z_bipush (q := 33) C dX11_fileNow_31 bp_43 rfl ?_
  refine z_dup2 (q := 34) C dX11_fileNow_33 rfl rfl rfl ?_
  refine z_ialdc (q := 35) (j := 43) C (zon C zo_69) kd_69 zwk_43 (by rw [ln_69]; decide) dX11_fileNow_34 rfl ?_
  refine z_iconst (q := 36) C dX11_fileNow_35 rfl ?_
  refine z_iadd (q := 37) C dX11_fileNow_36 rfl ?_
  obtain ⟨h4, eh4, hF⟩ := zlet_e hF
  refine z_iastc (q := 38) (j := 43) C (zon C zo_69) kd_69 zwk_43 (by rw [ln_69]; decide) dX11_fileNow_37 rfl eh4 ?_
  cases hF
  exact z_vret C e1 e2 dX11_fileNow_38
set_option maxRecDepth 20000 in
set_option maxHeartbeats 4000000 in
theorem M_fX11_fileNow {l : Launch} {D : va_G} {cy : ClassId} {α : Nat → Nat} {n : Nat} {σ : zSg} {d : Nat} (hd : 2 ≤ d) {a1 : Int} {a2 : Int} {h : zH} {g : zH} (hF : fX11_fileNow a1 a2 h = some g) : zMet l yX11_fileNow cX11_fileNow 3 none (zrm d) D cy α n σ [.ref (α 14), .int (zi a1), .int (zi a2)] h (none) g := by
  obtain ⟨d, rfl⟩ : ∃ e, d = e + 1 := ⟨d - 1, by omega⟩
  refine z_met (by decide +kernel) (Nat.le_of_ble_eq_true rfl) (fun κ k1 k2 k3 k4 k5 k6 k7 k8 k9 C => ?_)
  subst k1 k3 k4 k5 k6 k7
  exact J_fX11_fileNow C k2 hd k8 k9 hF
set_option maxRecDepth 20000 in
set_option maxHeartbeats 4000000 in
theorem J_fX11_file {κ : zT} (C : zC κ RX11 cX11_file 3 (some .int)) {d : Nat} (hR : zR κ = zrm (d + 1)) (hd : 4 ≤ d + 1) {N : Nat} {r : Int × zH} (e1 : zrv κ = some (.int (zi r.1))) (e2 : zhf κ = r.2) {a1 : Int} {a2 : Int} {h : zH} (hF : fX11_file N a1 a2 h = some r) : Z κ h 0 [(0, .ref (zα κ 14)), (1, .int (zi a1)), (2, .int (zi a2))] [] := by
  unfold fX11_file at hF
  refine z_aload_n (q := 1) C dX11_file_0 0 rfl rfl rfl ?_
  refine z_iload_n (q := 2) C dX11_file_1 1 rfl rfl rfl ?_
  refine z_iload_n (q := 3) C dX11_file_2 2 rfl rfl rfl ?_
  obtain ⟨v1, ev1, hF⟩ := zb_e hF
  refine z_callV (q := 6) (o := 14) (av := [.int (zi a1), .int (zi a2)]) (rest := []) (stk2 := [.int (zi v1)]) C hR clX11 (zon C zo_14) kd_14 (M_fX11_canFile (zlv hd rfl) ev1) mY_X11_canFile q_1482 (Nat.le_of_ble_eq_true rfl) dX11_file_3 rfl rfl rfl ?_
  refine z_if_ne (tgt := 11) (q := 9) C dX11_file_6 (by decide) rfl (fun c2 => ?_) (fun c2 => ?_)
  · have hF := (if_neg c2).symm.trans hF
    refine z_aload_n (q := 12) C dX11_file_11 0 rfl rfl rfl ?_
    obtain ⟨h3, eh3, hF⟩ := zb_e hF
    refine z_callV (q := 15) (o := 14) (av := []) (rest := []) (stk2 := []) C hR clX11 (zon C zo_14) kd_14 (M_fX11_keep (zlv hd rfl) eh3) mY_X11_keep q_1490 (Nat.le_of_ble_eq_true rfl) dX11_file_12 rfl rfl rfl ?_
    refine z_aload_n (q := 16) C dX11_file_15 0 rfl rfl rfl ?_
    refine z_iload_n (q := 17) C dX11_file_16 1 rfl rfl rfl ?_
    refine z_iload_n (q := 18) C dX11_file_17 2 rfl rfl rfl ?_
    obtain ⟨h4, eh4, hF⟩ := zb_e hF
    refine z_callV (q := 21) (o := 14) (av := [.int (zi a1), .int (zi a2)]) (rest := []) (stk2 := []) C hR clX11 (zon C zo_14) kd_14 (M_fX11_fileNow (zlv hd rfl) eh4) mY_X11_fileNow q_1494 (Nat.le_of_ble_eq_true rfl) dX11_file_18 rfl rfl rfl ?_
    refine z_aload_n (q := 22) C dX11_file_21 0 rfl rfl rfl ?_
    refine z_aload_n (q := 23) C dX11_file_22 0 rfl rfl rfl ?_
    refine z_iload_n (q := 24) C dX11_file_23 2 rfl rfl rfl ?_
    obtain ⟨v5, ev5, hF⟩ := zb_e hF
    refine z_callV (q := 27) (o := 14) (av := [.int (zi a2)]) (rest := [.ref (zα κ 14)]) (stk2 := [.int (zi v5), .ref (zα κ 14)]) C hR clX11 (zon C zo_14) kd_14 (M_fX11_deskOf (zlv hd rfl) ev5) mY_X11_deskOf q_1446 (Nat.le_of_ble_eq_true rfl) dX11_file_24 rfl rfl rfl ?_
    obtain ⟨v6, ev6, hF⟩ := zb_e hF
    refine z_callV (q := 30) (o := 14) (av := [.int (zi v5)]) (rest := []) (stk2 := [.int (zi v6)]) C hR clX11 (zon C zo_14) kd_14 (M_fX11_backlog (zlv hd rfl) ev6) mY_X11_backlog q_1438 (Nat.le_of_ble_eq_true rfl) dX11_file_27 rfl rfl rfl ?_
    cases hF
    exact z_iret C e1 e2 dX11_file_30
  · have hF := (if_pos c2).symm.trans hF
    refine z_iconst (q := 10) C dX11_file_9 rfl ?_
    cases hF
    exact z_iret C e1 e2 dX11_file_10
set_option maxRecDepth 20000 in
set_option maxHeartbeats 4000000 in
theorem M_fX11_file {l : Launch} {D : va_G} {cy : ClassId} {α : Nat → Nat} {n : Nat} {σ : zSg} {d : Nat} (hd : 4 ≤ d) {N : Nat} {a1 : Int} {a2 : Int} {h : zH} {r : Int} {g : zH} (hF : fX11_file N a1 a2 h = some (r, g)) : zMet l yX11_file cX11_file 3 (some .int) (zrm d) D cy α n σ [.ref (α 14), .int (zi a1), .int (zi a2)] h (some (.int (zi r))) g := by
  obtain ⟨d, rfl⟩ : ∃ e, d = e + 1 := ⟨d - 1, by omega⟩
  refine z_met (by decide +kernel) (Nat.le_of_ble_eq_true rfl) (fun κ k1 k2 k3 k4 k5 k6 k7 k8 k9 C => ?_)
  subst k1 k3 k4 k5 k6 k7
  exact J_fX11_file C k2 hd k8 k9 hF
set_option maxRecDepth 20000 in
set_option maxHeartbeats 4000000 in
theorem J_fX11_canWithdraw {κ : zT} (C : zC κ RX11 cX11_canWithdraw 2 (some .boolean)) {d : Nat} (hR : zR κ = zrm (d + 1)) (hd : 3 ≤ d + 1) {h : zH} {r : Int} (e1 : zrv κ = some (.int (zi r))) (e2 : zhf κ = h) {a1 : Int} (hF : fX11_canWithdraw a1 h = some r) : Z κ h 0 [(0, .ref (zα κ 14)), (1, .int (zi a1))] [] := by
  unfold fX11_canWithdraw at hF
  refine z_aload_n (q := 1) C dX11_canWithdraw_0 0 rfl rfl rfl ?_
  refine z_iload_n (q := 2) C dX11_canWithdraw_1 1 rfl rfl rfl ?_
  refine z_callV (q := 5) (o := 14) (av := [.int (zi a1)]) (rest := []) (stk2 := [.int (zi (fX11_isParish a1 h))]) C hR clX11 (zon C zo_14) kd_14 (M_fX11_isParish (zlv hd rfl) rfl) mY_X11_isParish q_1426 (Nat.le_of_ble_eq_true rfl) dX11_canWithdraw_2 rfl rfl rfl ?_
  refine z_if_eq (tgt := 22) (q := 8) C dX11_canWithdraw_5 (by decide) rfl (fun c1 => ?_) (fun c1 => ?_)
  · have hF := (if_pos c1).symm.trans hF
    refine z_iconst (q := 23) C dX11_canWithdraw_22 rfl ?_
    cases hF
    exact z_zret C (zb01 (Or.inl rfl)) e1 e2 dX11_canWithdraw_23
  · have hF := (if_neg c1).symm.trans hF
    refine z_aload_n (q := 9) C dX11_canWithdraw_8 0 rfl rfl rfl ?_
    refine z_iload_n (q := 10) C dX11_canWithdraw_9 1 rfl rfl rfl ?_
    refine z_iconst (q := 11) C dX11_canWithdraw_10 rfl ?_
    obtain ⟨v2, ev2, hF⟩ := zb_e hF
    refine z_callV (q := 14) (o := 14) (av := [.int (zi a1), .int (zi 1)]) (rest := []) (stk2 := [.int (zi v2)]) C hR clX11 (zon C zo_14) kd_14 (M_fX11_of (zlv hd rfl) ev2) mY_X11_of q_1430 (Nat.le_of_ble_eq_true rfl) dX11_canWithdraw_11 rfl rfl rfl ?_
    refine z_iconst (q := 15) C dX11_canWithdraw_14 rfl ?_
    refine z_icmp_eq (tgt := 22) (q := 18) C dX11_canWithdraw_15 (by decide) rfl (fun c3 => ?_) (fun c3 => ?_)
    · have hF := (if_pos c3).symm.trans hF
      refine z_iconst (q := 23) C dX11_canWithdraw_22 rfl ?_
      cases hF
      exact z_zret C (zb01 (Or.inl rfl)) e1 e2 dX11_canWithdraw_23
    · have hF := (if_neg c3).symm.trans hF
      refine z_iconst (q := 19) C dX11_canWithdraw_18 rfl ?_
      refine z_goto (q := 23) C dX11_canWithdraw_19 (by decide) ?_
      cases hF
      exact z_zret C (zb01 (Or.inr rfl)) e1 e2 dX11_canWithdraw_23
set_option maxRecDepth 20000 in
set_option maxHeartbeats 4000000 in
theorem M_fX11_canWithdraw {l : Launch} {D : va_G} {cy : ClassId} {α : Nat → Nat} {n : Nat} {σ : zSg} {d : Nat} (hd : 3 ≤ d) {a1 : Int} {h : zH} {r : Int} (hF : fX11_canWithdraw a1 h = some r) : zMet l yX11_canWithdraw cX11_canWithdraw 2 (some .boolean) (zrm d) D cy α n σ [.ref (α 14), .int (zi a1)] h (some (.int (zi r))) h := by
  obtain ⟨d, rfl⟩ : ∃ e, d = e + 1 := ⟨d - 1, by omega⟩
  refine z_met (by decide +kernel) (Nat.le_of_ble_eq_true rfl) (fun κ k1 k2 k3 k4 k5 k6 k7 k8 k9 C => ?_)
  subst k1 k3 k4 k5 k6 k7
  exact J_fX11_canWithdraw C k2 hd k8 k9 hF
set_option maxRecDepth 20000 in
set_option maxHeartbeats 4000000 in
theorem J_fX11_goAway {κ : zT} (C : zC κ RX11 cX11_goAway 2 none) {d : Nat} (hR : zR κ = zrm (d + 1)) (hd : 2 ≤ d + 1) {r : zH} (e1 : zrv κ = none) (e2 : zhf κ = r) {a1 : Int} {h : zH} (hF : fX11_goAway a1 h = some r) : Z κ h 0 [(0, .ref (zα κ 14)), (1, .int (zi a1))] [] := by
  unfold fX11_goAway at hF
  refine z_aload_n (q := 1) C dX11_goAway_0 0 rfl rfl rfl ?_
  refine z_iload_n (q := 2) C dX11_goAway_1 1 rfl rfl rfl ?_
  refine z_iconst (q := 3) C dX11_goAway_2 rfl ?_
  refine z_iconst (q := 4) C dX11_goAway_3 rfl ?_
  obtain ⟨h1, eh1, hF⟩ := zb_e hF
  refine z_callV (q := 7) (o := 14) (av := [.int (zi a1), .int (zi 1), .int (zi (-1))]) (rest := []) (stk2 := []) C hR clX11 (zon C zo_14) kd_14 (M_fX11_put_ (zlv hd rfl) eh1) mY_X11_put_ q_1414 (Nat.le_of_ble_eq_true rfl) dX11_goAway_4 rfl rfl rfl ?_
  refine z_aload_n (q := 8) C dX11_goAway_7 0 rfl rfl rfl ?_
  refine z_iload_n (q := 9) C dX11_goAway_8 1 rfl rfl rfl ?_
  refine z_iconst (q := 10) C dX11_goAway_9 rfl ?_
  refine z_iconst (q := 11) C dX11_goAway_10 rfl ?_
  obtain ⟨h2, eh2, hF⟩ := zb_e hF
  refine z_callV (q := 14) (o := 14) (av := [.int (zi a1), .int (zi 3), .int (zi 0)]) (rest := []) (stk2 := []) C hR clX11 (zon C zo_14) kd_14 (M_fX11_put_ (zlv hd rfl) eh2) mY_X11_put_ q_1414 (Nat.le_of_ble_eq_true rfl) dX11_goAway_11 rfl rfl rfl ?_
  refine z_aload_n (q := 15) C dX11_goAway_14 0 rfl rfl rfl ?_
  refine z_iload_n (q := 16) C dX11_goAway_15 1 rfl rfl rfl ?_
  refine z_iconst (q := 17) C dX11_goAway_16 rfl ?_
  refine z_iconst (q := 18) C dX11_goAway_17 rfl ?_
  obtain ⟨h3, eh3, hF⟩ := zb_e hF
  refine z_callV (q := 21) (o := 14) (av := [.int (zi a1), .int (zi 2), .int (zi 0)]) (rest := []) (stk2 := []) C hR clX11 (zon C zo_14) kd_14 (M_fX11_put_ (zlv hd rfl) eh3) mY_X11_put_ q_1414 (Nat.le_of_ble_eq_true rfl) dX11_goAway_18 rfl rfl rfl ?_
  cases hF
  exact z_vret C e1 e2 dX11_goAway_21
set_option maxRecDepth 20000 in
set_option maxHeartbeats 4000000 in
theorem M_fX11_goAway {l : Launch} {D : va_G} {cy : ClassId} {α : Nat → Nat} {n : Nat} {σ : zSg} {d : Nat} (hd : 2 ≤ d) {a1 : Int} {h : zH} {g : zH} (hF : fX11_goAway a1 h = some g) : zMet l yX11_goAway cX11_goAway 2 none (zrm d) D cy α n σ [.ref (α 14), .int (zi a1)] h (none) g := by
  obtain ⟨d, rfl⟩ : ∃ e, d = e + 1 := ⟨d - 1, by omega⟩
  refine z_met (by decide +kernel) (Nat.le_of_ble_eq_true rfl) (fun κ k1 k2 k3 k4 k5 k6 k7 k8 k9 C => ?_)
  subst k1 k3 k4 k5 k6 k7
  exact J_fX11_goAway C k2 hd k8 k9 hF
set_option maxRecDepth 20000 in
set_option maxHeartbeats 4000000 in
theorem J_fX11_withdraw {κ : zT} (C : zC κ RX11 cX11_withdraw 3 (some .int)) {d : Nat} (hR : zR κ = zrm (d + 1)) (hd : 4 ≤ d + 1) {N : Nat} {r : Int × zH} (e1 : zrv κ = some (.int (zi r.1))) (e2 : zhf κ = r.2) {a1 : Int} {h : zH} (hF : fX11_withdraw N a1 h = some r) : Z κ h 0 [(0, .ref (zα κ 14)), (1, .int (zi a1))] [] := by
  unfold fX11_withdraw at hF
  refine z_aload_n (q := 1) C dX11_withdraw_0 0 rfl rfl rfl ?_
  refine z_iload_n (q := 2) C dX11_withdraw_1 1 rfl rfl rfl ?_
  obtain ⟨v1, ev1, hF⟩ := zb_e hF
  refine z_callV (q := 5) (o := 14) (av := [.int (zi a1)]) (rest := []) (stk2 := [.int (zi v1)]) C hR clX11 (zon C zo_14) kd_14 (M_fX11_canWithdraw (zlv hd rfl) ev1) mY_X11_canWithdraw q_1502 (Nat.le_of_ble_eq_true rfl) dX11_withdraw_2 rfl rfl rfl ?_
  refine z_if_ne (tgt := 10) (q := 8) C dX11_withdraw_5 (by decide) rfl (fun c2 => ?_) (fun c2 => ?_)
  · have hF := (if_neg c2).symm.trans hF
    refine z_aload_n (q := 11) C dX11_withdraw_10 0 rfl rfl rfl ?_
    obtain ⟨h3, eh3, hF⟩ := zb_e hF
    refine z_callV (q := 14) (o := 14) (av := []) (rest := []) (stk2 := []) C hR clX11 (zon C zo_14) kd_14 (M_fX11_keep (zlv hd rfl) eh3) mY_X11_keep q_1490 (Nat.le_of_ble_eq_true rfl) dX11_withdraw_11 rfl rfl rfl ?_
    refine z_aload_n (q := 15) C dX11_withdraw_14 0 rfl rfl rfl ?_
    refine z_iload_n (q := 16) C dX11_withdraw_15 1 rfl rfl rfl ?_
    refine z_iconst (q := 17) C dX11_withdraw_16 rfl ?_
    obtain ⟨v4, ev4, hF⟩ := zb_e hF
    refine z_callV (q := 20) (o := 14) (av := [.int (zi a1), .int (zi 1)]) (rest := []) (stk2 := [.int (zi v4)]) C hR clX11 (zon C zo_14) kd_14 (M_fX11_of (zlv hd rfl) ev4) mY_X11_of q_1430 (Nat.le_of_ble_eq_true rfl) dX11_withdraw_17 rfl rfl rfl ?_
    refine z_istore_n (q := 21) C dX11_withdraw_20 (by decide) rfl rfl rfl ?_
    refine z_aload_n (q := 22) C dX11_withdraw_21 1 rfl rfl rfl ?_
    refine z_iload_n (q := 23) C dX11_withdraw_22 2 rfl rfl rfl ?_
    obtain ⟨h5, eh5, hF⟩ := zb_e hF
    refine z_callV (q := 26) (o := 14) (av := [.int (zi a1)]) (rest := []) (stk2 := []) C hR clX11 (zon C zo_14) kd_14 (M_fX11_goAway (zlv hd rfl) eh5) mY_X11_goAway q_1506 (Nat.le_of_ble_eq_true rfl) dX11_withdraw_23 rfl rfl rfl ?_
    refine z_iload_n (q := 27) C dX11_withdraw_26 0 rfl rfl rfl ?_
    cases hF
    exact z_iret C e1 e2 dX11_withdraw_27
  · have hF := (if_pos c2).symm.trans hF
    refine z_iconst (q := 9) C dX11_withdraw_8 rfl ?_
    cases hF
    exact z_iret C e1 e2 dX11_withdraw_9
set_option maxRecDepth 20000 in
set_option maxHeartbeats 4000000 in
theorem M_fX11_withdraw {l : Launch} {D : va_G} {cy : ClassId} {α : Nat → Nat} {n : Nat} {σ : zSg} {d : Nat} (hd : 4 ≤ d) {N : Nat} {a1 : Int} {h : zH} {r : Int} {g : zH} (hF : fX11_withdraw N a1 h = some (r, g)) : zMet l yX11_withdraw cX11_withdraw 3 (some .int) (zrm d) D cy α n σ [.ref (α 14), .int (zi a1)] h (some (.int (zi r))) g := by
  obtain ⟨d, rfl⟩ : ∃ e, d = e + 1 := ⟨d - 1, by omega⟩
  refine z_met (by decide +kernel) (Nat.le_of_ble_eq_true rfl) (fun κ k1 k2 k3 k4 k5 k6 k7 k8 k9 C => ?_)
  subst k1 k3 k4 k5 k6 k7
  exact J_fX11_withdraw C k2 hd k8 k9 hF
set_option maxRecDepth 20000 in
set_option maxHeartbeats 4000000 in
theorem J_fX11_areHours {κ : zT} (C : zC κ RX11 cX11_areHours 3 (some .boolean)) {d : Nat} (hR : zR κ = zrm (d + 1)) (hd : 2 ≤ d + 1) {h : zH} {r : Int} (e1 : zrv κ = some (.int (zi r))) (e2 : zhf κ = h) {a1 : Int} {a2 : Int} (hF : fX11_areHours a1 a2 h = r) : Z κ h 0 [(0, .ref (zα κ 14)), (1, .int (zi a1)), (2, .int (zi a2))] [] := by
  unfold fX11_areHours at hF
  refine z_aload_n (q := 1) C dX11_areHours_0 0 rfl rfl rfl ?_
  refine z_getf (q := 4) C clX11 (zon C zo_14) kd_14 (k := 28) (by decide) q_1130 rfl (zfv_i kd_14 rfl) dX11_areHours_1 rfl ?_
  refine z_if_le (tgt := 35) (q := 7) C dX11_areHours_4 (by decide) rfl (fun c1 => ?_) (fun c1 => ?_)
  · have hF := (if_pos c1).symm.trans hF
    refine z_iconst (q := 36) C dX11_areHours_35 rfl ?_
    subst hF
    exact z_zret C (zb01 (Or.inl rfl)) e1 e2 dX11_areHours_36
  · have hF := (if_neg c1).symm.trans hF
    refine z_iload_n (q := 8) C dX11_areHours_7 1 rfl rfl rfl ?_
    refine z_iconst (q := 9) C dX11_areHours_8 rfl ?_
    refine z_iload_n (q := 10) C dX11_areHours_9 2 rfl rfl rfl ?_
    refine z_callS (q := 13) (av := [.int (zi a1), .int (zi 1), .int (zi a2)]) (rest := []) (stk2 := [.int (zi (fX11_in a1 1 a2))]) C hR (M_fX11_in (zlv hd rfl) rfl) mY_X11_in q_1314 (Nat.le_of_ble_eq_true rfl) dX11_areHours_10 rfl rfl rfl ?_
    refine z_if_eq (tgt := 35) (q := 16) C dX11_areHours_13 (by decide) rfl (fun c2 => ?_) (fun c2 => ?_)
    · have hF := (if_pos c2).symm.trans hF
      refine z_iconst (q := 36) C dX11_areHours_35 rfl ?_
      subst hF
      exact z_zret C (zb01 (Or.inl rfl)) e1 e2 dX11_areHours_36
    · have hF := (if_neg c2).symm.trans hF
      refine z_aload_n (q := 17) C dX11_areHours_16 0 rfl rfl rfl ?_
      refine z_getf (q := 20) C clX11 (zon C zo_14) kd_14 (k := 34) (by decide) q_1136 rfl (zfv_r kd_14 rfl fr_14_34) dX11_areHours_17 rfl ?_
      refine z_bipush (q := 22) C dX11_areHours_20 bp_42 rfl ?_
      refine z_ialdc (q := 23) (j := 42) C (zon C zo_69) kd_69 zwk_42 (by rw [ln_69]; decide) dX11_areHours_22 rfl ?_
      refine z_iload_n (q := 24) C dX11_areHours_23 1 rfl rfl rfl ?_
      refine z_iadd (q := 25) C dX11_areHours_24 rfl ?_
      refine z_sipush (q := 28) C dX11_areHours_25 sp_9999 rfl ?_
      refine z_icmp_gt (tgt := 35) (q := 31) C dX11_areHours_28 (by decide) rfl (fun c3 => ?_) (fun c3 => ?_)
      · have hF := (if_pos c3).symm.trans hF
        refine z_iconst (q := 36) C dX11_areHours_35 rfl ?_
        subst hF
        exact z_zret C (zb01 (Or.inl rfl)) e1 e2 dX11_areHours_36
      · have hF := (if_neg c3).symm.trans hF
        refine z_iconst (q := 32) C dX11_areHours_31 rfl ?_
        refine z_goto (q := 36) C dX11_areHours_32 (by decide) ?_
        subst hF
        exact z_zret C (zb01 (Or.inr rfl)) e1 e2 dX11_areHours_36
set_option maxRecDepth 20000 in
set_option maxHeartbeats 4000000 in
theorem M_fX11_areHours {l : Launch} {D : va_G} {cy : ClassId} {α : Nat → Nat} {n : Nat} {σ : zSg} {d : Nat} (hd : 2 ≤ d) {a1 : Int} {a2 : Int} {h : zH} {r : Int} (hF : fX11_areHours a1 a2 h = r) : zMet l yX11_areHours cX11_areHours 3 (some .boolean) (zrm d) D cy α n σ [.ref (α 14), .int (zi a1), .int (zi a2)] h (some (.int (zi r))) h := by
  obtain ⟨d, rfl⟩ : ∃ e, d = e + 1 := ⟨d - 1, by omega⟩
  refine z_met (by decide +kernel) (Nat.le_of_ble_eq_true rfl) (fun κ k1 k2 k3 k4 k5 k6 k7 k8 k9 C => ?_)
  subst k1 k3 k4 k5 k6 k7
  exact J_fX11_areHours C k2 hd k8 k9 hF
theorem B_fX11_areHours {a1 : Int} {a2 : Int} {h : zH} : fX11_areHours a1 a2 h = 0 ∨ fX11_areHours a1 a2 h = 1 := by
  unfold fX11_areHours
  try simp only [zlet, zlet2]
  repeat' (first | exact Or.inl rfl | exact Or.inr rfl | exact B_fX11_in | apply zite01)
set_option maxRecDepth 20000 in
set_option maxHeartbeats 4000000 in
theorem J_fX11_isDawn {κ : zT} (C : zC κ RX11 cX11_isDawn 1 (some .boolean)) {d : Nat} (hR : zR κ = zrm (d + 1)) (hd : 2 ≤ d + 1) {h : zH} {r : Int} (e1 : zrv κ = some (.int (zi r))) (e2 : zhf κ = h) (hF : fX11_isDawn h = r) : Z κ h 0 [(0, .ref (zα κ 14))] [] := by
  unfold fX11_isDawn at hF
  refine z_aload_n (q := 1) C dX11_isDawn_0 0 rfl rfl rfl ?_
  refine z_callV (q := 4) (o := 14) (av := []) (rest := []) (stk2 := [.int (zi (fX11_time h))]) C hR clX11 (zon C zo_14) kd_14 (M_fX11_time (zlv hd rfl) rfl) mY_X11_time q_1454 (Nat.le_of_ble_eq_true rfl) dX11_isDawn_1 rfl rfl rfl ?_
  refine z_aload_n (q := 5) C dX11_isDawn_4 0 rfl rfl rfl ?_
  refine z_getf (q := 8) C clX11 (zon C zo_14) kd_14 (k := 24) (by decide) q_1126 rfl (zfv_r kd_14 rfl fr_14_24) dX11_isDawn_5 rfl ?_
  refine z_iconst (q := 9) C dX11_isDawn_8 rfl ?_
  refine z_ialdc (q := 10) (j := 0) C (zon C zo_63) kd_63 zwk_0 (by rw [ln_63]; decide) dX11_isDawn_9 rfl ?_
  refine z_icmp_ne (tgt := 17) (q := 13) C dX11_isDawn_10 (by decide) rfl (fun c1 => ?_) (fun c1 => ?_)
  · have hF := (if_neg c1).symm.trans hF
    refine z_iconst (q := 18) C dX11_isDawn_17 rfl ?_
    subst hF
    exact z_zret C (zb01 (Or.inl rfl)) e1 e2 dX11_isDawn_18
  · have hF := (if_pos c1).symm.trans hF
    refine z_iconst (q := 14) C dX11_isDawn_13 rfl ?_
    refine z_goto (q := 18) C dX11_isDawn_14 (by decide) ?_
    subst hF
    exact z_zret C (zb01 (Or.inr rfl)) e1 e2 dX11_isDawn_18
set_option maxRecDepth 20000 in
set_option maxHeartbeats 4000000 in
theorem M_fX11_isDawn {l : Launch} {D : va_G} {cy : ClassId} {α : Nat → Nat} {n : Nat} {σ : zSg} {d : Nat} (hd : 2 ≤ d) {h : zH} {r : Int} (hF : fX11_isDawn h = r) : zMet l yX11_isDawn cX11_isDawn 1 (some .boolean) (zrm d) D cy α n σ [.ref (α 14)] h (some (.int (zi r))) h := by
  obtain ⟨d, rfl⟩ : ∃ e, d = e + 1 := ⟨d - 1, by omega⟩
  refine z_met (by decide +kernel) (Nat.le_of_ble_eq_true rfl) (fun κ k1 k2 k3 k4 k5 k6 k7 k8 k9 C => ?_)
  subst k1 k3 k4 k5 k6 k7
  exact J_fX11_isDawn C k2 hd k8 k9 hF
theorem B_fX11_isDawn {h : zH} : fX11_isDawn h = 0 ∨ fX11_isDawn h = 1 := by
  unfold fX11_isDawn
  try simp only [zlet, zlet2]
  repeat' (first | exact Or.inl rfl | exact Or.inr rfl | apply zite01)
set_option maxRecDepth 20000 in
set_option maxHeartbeats 4000000 in
theorem J_fX11_form {κ : zT} (C : zC κ RX11 cX11_form 2 (some .int)) {d : Nat} (hR : zR κ = zrm (d + 1)) (hd : 1 ≤ d + 1) {h : zH} {r : Int} (e1 : zrv κ = some (.int (zi r))) (e2 : zhf κ = h) {a1 : Int} (hF : fX11_form a1 h = some r) : Z κ h 0 [(0, .ref (zα κ 14)), (1, .int (zi a1))] [] := by
  unfold fX11_form at hF
  refine z_aload_n (q := 1) C dX11_form_0 0 rfl rfl rfl ?_
  refine z_getf (q := 4) C clX11 (zon C zo_14) kd_14 (k := 25) (by decide) q_1127 rfl (zfv_r kd_14 rfl fr_14_25) dX11_form_1 rfl ?_
  refine z_iconst (q := 5) C dX11_form_4 rfl ?_
  refine z_iload_n (q := 6) C dX11_form_5 1 rfl rfl rfl ?_
  refine z_imul (q := 7) C dX11_form_6 rfl ?_
  refine z_iconst (q := 8) C dX11_form_7 rfl ?_
  refine z_iadd (q := 9) C dX11_form_8 rfl ?_
  obtain ⟨g1, hF⟩ := zif_none hF
  refine z_iald (q := 10) C (zon C zo_64) kd_64 g1.1 (by rw [ln_64]; exact g1.2) dX11_form_9 rfl ?_
  cases hF
  exact z_iret C e1 e2 dX11_form_10
set_option maxRecDepth 20000 in
set_option maxHeartbeats 4000000 in
theorem M_fX11_form {l : Launch} {D : va_G} {cy : ClassId} {α : Nat → Nat} {n : Nat} {σ : zSg} {d : Nat} (hd : 1 ≤ d) {a1 : Int} {h : zH} {r : Int} (hF : fX11_form a1 h = some r) : zMet l yX11_form cX11_form 2 (some .int) (zrm d) D cy α n σ [.ref (α 14), .int (zi a1)] h (some (.int (zi r))) h := by
  obtain ⟨d, rfl⟩ : ∃ e, d = e + 1 := ⟨d - 1, by omega⟩
  refine z_met (by decide +kernel) (Nat.le_of_ble_eq_true rfl) (fun κ k1 k2 k3 k4 k5 k6 k7 k8 k9 C => ?_)
  subst k1 k3 k4 k5 k6 k7
  exact J_fX11_form C k2 hd k8 k9 hF
set_option maxRecDepth 20000 in
set_option maxHeartbeats 4000000 in
theorem J_fX11_shareOf {κ : zT} (C : zC κ RX11 cX11_shareOf 5 (some .int)) {d : Nat} (hR : zR κ = zrm (d + 1)) (hd : 2 ≤ d + 1) {h : zH} {r : Int} (e1 : zrv κ = some (.int (zi r))) (e2 : zhf κ = h) {a1 : Int} {a2 : Int} {a3 : Int} (hF : fX11_shareOf a1 a2 a3 h = some r) : Z κ h 0 [(0, .ref (zα κ 14)), (1, .int (zi a1)), (2, .int (zi a2)), (3, .int (zi a3))] [] := by
  unfold fX11_shareOf at hF
  refine z_aload_n (q := 1) C dX11_shareOf_0 0 rfl rfl rfl ?_
  refine z_getf (q := 4) C clX11 (zon C zo_14) kd_14 (k := 24) (by decide) q_1126 rfl (zfv_r kd_14 rfl fr_14_24) dX11_shareOf_1 rfl ?_
  refine z_iconst (q := 5) C dX11_shareOf_4 rfl ?_
  refine z_ialdc (q := 6) (j := 1) C (zon C zo_63) kd_63 zwk_1 (by rw [ln_63]; decide) dX11_shareOf_5 rfl ?_
  refine z_iload_n (q := 7) C dX11_shareOf_6 2 rfl rfl rfl ?_
  obtain ⟨g1, hF⟩ := zif_none hF
  refine z_idiv (q := 8) C g1 dX11_shareOf_7 rfl ?_
  refine z_iload_n (q := 9) C dX11_shareOf_8 3 rfl rfl rfl ?_
  refine z_aload_n (q := 10) C dX11_shareOf_9 0 rfl rfl rfl ?_
  refine z_getf (q := 13) C clX11 (zon C zo_14) kd_14 (k := 24) (by decide) q_1126 rfl (zfv_r kd_14 rfl fr_14_24) dX11_shareOf_10 rfl ?_
  refine z_iconst (q := 14) C dX11_shareOf_13 rfl ?_
  refine z_ialdc (q := 15) (j := 1) C (zon C zo_63) kd_63 zwk_1 (by rw [ln_63]; decide) dX11_shareOf_14 rfl ?_
  refine z_iload_n (q := 16) C dX11_shareOf_15 2 rfl rfl rfl ?_
  obtain ⟨g2, hF⟩ := zif_none hF
  refine z_irem (q := 17) C g2 dX11_shareOf_16 rfl ?_
  refine z_icmp_ge (tgt := 24) (q := 20) C dX11_shareOf_17 (by decide) rfl (fun c3 => ?_) (fun c3 => ?_)
  · have hF := (if_pos c3).symm.trans hF
    refine z_iconst (q := 25) C dX11_shareOf_24 rfl ?_
    refine z_iadd (q := 26) C dX11_shareOf_25 rfl ?_
    obtain ⟨v4, ev4, hF⟩ := zlet_e hF
    refine z_istoreE (q := 28) C ev4 dX11_shareOf_26 (by decide) rfl rfl ?_
    refine z_iload (q := 30) C dX11_shareOf_28 0 rfl rfl ?_
    refine z_aload_n (q := 31) C dX11_shareOf_30 1 rfl rfl rfl ?_
    refine z_getf (q := 34) C clX11 (zon C zo_14) kd_14 (k := 25) (by decide) q_1127 rfl (zfv_r kd_14 rfl fr_14_25) dX11_shareOf_31 rfl ?_
    refine z_iconst (q := 35) C dX11_shareOf_34 rfl ?_
    refine z_iload_n (q := 36) C dX11_shareOf_35 2 rfl rfl rfl ?_
    refine z_imul (q := 37) C dX11_shareOf_36 rfl ?_
    refine z_iconst (q := 38) C dX11_shareOf_37 rfl ?_
    refine z_iadd (q := 39) C dX11_shareOf_38 rfl ?_
    obtain ⟨g5, hF⟩ := zif_none hF
    refine z_iald (q := 40) C (zon C zo_64) kd_64 g5.1 (by rw [ln_64]; exact g5.2) dX11_shareOf_39 rfl ?_
    obtain ⟨v6, ev6, hF⟩ := zlet_e hF
    refine z_callS (q := 43) (av := [.int (zi v4), .int (zi (h 64 (zw ((3 * a1) + 1)).toNat))]) (rest := []) (stk2 := [.int (zi v6)]) C hR (M_fJ9_min_7cf53 (zlv hd rfl) ev6.symm) mY_J9_min_7cf53 q_1542 (Nat.le_of_ble_eq_true rfl) dX11_shareOf_40 rfl rfl rfl ?_
    cases hF
    exact z_iret C e1 e2 dX11_shareOf_43
  · have hF := (if_neg c3).symm.trans hF
    refine z_iconst (q := 21) C dX11_shareOf_20 rfl ?_
    refine z_goto (q := 25) C dX11_shareOf_21 (by decide) ?_
    refine z_iadd (q := 26) C dX11_shareOf_25 rfl ?_
    obtain ⟨v7, ev7, hF⟩ := zlet_e hF
    refine z_istoreE (q := 28) C ev7 dX11_shareOf_26 (by decide) rfl rfl ?_
    refine z_iload (q := 30) C dX11_shareOf_28 0 rfl rfl ?_
    refine z_aload_n (q := 31) C dX11_shareOf_30 1 rfl rfl rfl ?_
    refine z_getf (q := 34) C clX11 (zon C zo_14) kd_14 (k := 25) (by decide) q_1127 rfl (zfv_r kd_14 rfl fr_14_25) dX11_shareOf_31 rfl ?_
    refine z_iconst (q := 35) C dX11_shareOf_34 rfl ?_
    refine z_iload_n (q := 36) C dX11_shareOf_35 2 rfl rfl rfl ?_
    refine z_imul (q := 37) C dX11_shareOf_36 rfl ?_
    refine z_iconst (q := 38) C dX11_shareOf_37 rfl ?_
    refine z_iadd (q := 39) C dX11_shareOf_38 rfl ?_
    obtain ⟨g8, hF⟩ := zif_none hF
    refine z_iald (q := 40) C (zon C zo_64) kd_64 g8.1 (by rw [ln_64]; exact g8.2) dX11_shareOf_39 rfl ?_
    obtain ⟨v9, ev9, hF⟩ := zlet_e hF
    refine z_callS (q := 43) (av := [.int (zi v7), .int (zi (h 64 (zw ((3 * a1) + 1)).toNat))]) (rest := []) (stk2 := [.int (zi v9)]) C hR (M_fJ9_min_7cf53 (zlv hd rfl) ev9.symm) mY_J9_min_7cf53 q_1542 (Nat.le_of_ble_eq_true rfl) dX11_shareOf_40 rfl rfl rfl ?_
    cases hF
    exact z_iret C e1 e2 dX11_shareOf_43
set_option maxRecDepth 20000 in
set_option maxHeartbeats 4000000 in
theorem M_fX11_shareOf {l : Launch} {D : va_G} {cy : ClassId} {α : Nat → Nat} {n : Nat} {σ : zSg} {d : Nat} (hd : 2 ≤ d) {a1 : Int} {a2 : Int} {a3 : Int} {h : zH} {r : Int} (hF : fX11_shareOf a1 a2 a3 h = some r) : zMet l yX11_shareOf cX11_shareOf 5 (some .int) (zrm d) D cy α n σ [.ref (α 14), .int (zi a1), .int (zi a2), .int (zi a3)] h (some (.int (zi r))) h := by
  obtain ⟨d, rfl⟩ : ∃ e, d = e + 1 := ⟨d - 1, by omega⟩
  refine z_met (by decide +kernel) (Nat.le_of_ble_eq_true rfl) (fun κ k1 k2 k3 k4 k5 k6 k7 k8 k9 C => ?_)
  subst k1 k3 k4 k5 k6 k7
  exact J_fX11_shareOf C k2 hd k8 k9 hF
set_option maxRecDepth 20000 in
set_option maxHeartbeats 4000000 in
theorem J_fX11_hoursBy_c68 {κ : zT} (C : zC κ RX11 cX11_hoursBy 7 (some .int)) {d : Nat} (hR : zR κ = zrm (d + 1)) (hd : 3 ≤ d + 1) {N : Nat} {h : zH} {r : Int} (e1 : zrv κ = some (.int (zi r))) (e2 : zhf κ = h) {K18 : Int → Int → Int → Int → Int → Option Int} (hK18 : ∀ (l1 : Int) (l2 : Int) (l3 : Int) (l4 : Int) (l5 : Int), K18 l1 l2 l3 l4 l5 = some r → Z κ h 18 [(0, .ref (zα κ 14)), (1, .int (zi l1)), (2, .int (zi l2)), (3, .int (zi l3)), (4, .int (zi l4)), (5, .int (zi l5))] []) (l1 : Int) (l2 : Int) (l4 : Int) (l5 : Int) (l6 : Int) (s0 : Int) (s1 : Int) (hF : fX11_hoursBy_c68 N h K18 l1 l2 l4 l5 l6 s0 s1 = some r) : Z κ h 68 [(0, .ref (zα κ 14)), (1, .int (zi l1)), (2, .int (zi l2)), (4, .int (zi l4)), (5, .int (zi l5)), (6, .int (zi l6))] [.int (zi s0), .int (zi s1)] := by
  unfold fX11_hoursBy_c68 at hF
  refine z_iadd (q := 69) C dX11_hoursBy_68 rfl ?_
  refine z_istore_n (q := 70) C dX11_hoursBy_69 (by decide) rfl rfl rfl ?_
  refine z_iload (q := 72) C dX11_hoursBy_70 4 rfl rfl ?_
  refine z_iload (q := 74) C dX11_hoursBy_72 6 rfl rfl ?_
  refine z_if_eq (tgt := 87) (q := 77) C dX11_hoursBy_74 (by decide) rfl (fun c1 => ?_) (fun c1 => ?_)
  · have hF := (if_pos c1).symm.trans hF
    refine z_iconst (q := 88) C dX11_hoursBy_87 rfl ?_
    refine z_iadd (q := 89) C dX11_hoursBy_88 rfl ?_
    refine z_istore (q := 91) C dX11_hoursBy_89 (by decide) rfl rfl ?_
    refine z_iinc (q := 94) (x := l5) C dX11_hoursBy_91 (j := 5) rfl (by decide) rfl rfl ?_
    refine z_goto (q := 18) C dX11_hoursBy_94 (by decide) ?_
    exact z_sub (hK18 _ _ _ _ _ hF) [3, 4, 5, 2, 1, 0] rfl
  · have hF := (if_neg c1).symm.trans hF
    refine z_iload (q := 79) C dX11_hoursBy_77 5 rfl rfl ?_
    refine z_iload_n (q := 80) C dX11_hoursBy_79 2 rfl rfl rfl ?_
    refine z_icmp_ge (tgt := 87) (q := 83) C dX11_hoursBy_80 (by decide) rfl (fun c2 => ?_) (fun c2 => ?_)
    · have hF := (if_pos c2).symm.trans hF
      refine z_iconst (q := 88) C dX11_hoursBy_87 rfl ?_
      refine z_iadd (q := 89) C dX11_hoursBy_88 rfl ?_
      refine z_istore (q := 91) C dX11_hoursBy_89 (by decide) rfl rfl ?_
      refine z_iinc (q := 94) (x := l5) C dX11_hoursBy_91 (j := 5) rfl (by decide) rfl rfl ?_
      refine z_goto (q := 18) C dX11_hoursBy_94 (by decide) ?_
      exact z_sub (hK18 _ _ _ _ _ hF) [3, 4, 5, 2, 1, 0] rfl
    · have hF := (if_neg c2).symm.trans hF
      refine z_iconst (q := 84) C dX11_hoursBy_83 rfl ?_
      refine z_goto (q := 88) C dX11_hoursBy_84 (by decide) ?_
      refine z_iadd (q := 89) C dX11_hoursBy_88 rfl ?_
      refine z_istore (q := 91) C dX11_hoursBy_89 (by decide) rfl rfl ?_
      refine z_iinc (q := 94) (x := l5) C dX11_hoursBy_91 (j := 5) rfl (by decide) rfl rfl ?_
      refine z_goto (q := 18) C dX11_hoursBy_94 (by decide) ?_
      exact z_sub (hK18 _ _ _ _ _ hF) [3, 4, 5, 2, 1, 0] rfl
set_option maxRecDepth 20000 in
set_option maxHeartbeats 4000000 in
theorem J_fX11_hoursBy_c18b {κ : zT} (C : zC κ RX11 cX11_hoursBy 7 (some .int)) {d : Nat} (hR : zR κ = zrm (d + 1)) (hd : 3 ≤ d + 1) {N : Nat} {h : zH} {r : Int} (e1 : zrv κ = some (.int (zi r))) (e2 : zhf κ = h) {K18 : Int → Int → Int → Int → Int → Option Int} (hK18 : ∀ (l1 : Int) (l2 : Int) (l3 : Int) (l4 : Int) (l5 : Int), K18 l1 l2 l3 l4 l5 = some r → Z κ h 18 [(0, .ref (zα κ 14)), (1, .int (zi l1)), (2, .int (zi l2)), (3, .int (zi l3)), (4, .int (zi l4)), (5, .int (zi l5))] []) (l1 : Int) (l2 : Int) (l3 : Int) (l4 : Int) (l5 : Int) (hF : fX11_hoursBy_c18b N h K18 l1 l2 l3 l4 l5 = some r) : Z κ h 18 [(0, .ref (zα κ 14)), (1, .int (zi l1)), (2, .int (zi l2)), (3, .int (zi l3)), (4, .int (zi l4)), (5, .int (zi l5))] [] := by
  unfold fX11_hoursBy_c18b at hF
  refine z_iload (q := 20) C dX11_hoursBy_18 5 rfl rfl ?_
  refine z_aload_n (q := 21) C dX11_hoursBy_20 0 rfl rfl rfl ?_
  refine z_getf (q := 24) C clX11 (zon C zo_14) kd_14 (k := 28) (by decide) q_1130 rfl (zfv_i kd_14 rfl) dX11_hoursBy_21 rfl ?_
  refine z_icmp_ge (tgt := 97) (q := 27) C dX11_hoursBy_24 (by decide) rfl (fun c1 => ?_) (fun c1 => ?_)
  · have hF := (if_pos c1).symm.trans hF
    refine z_aload_n (q := 98) C dX11_hoursBy_97 0 rfl rfl rfl ?_
    refine z_iload_n (q := 99) C dX11_hoursBy_98 1 rfl rfl rfl ?_
    refine z_iload_n (q := 100) C dX11_hoursBy_99 3 rfl rfl rfl ?_
    refine z_iload (q := 102) C dX11_hoursBy_100 4 rfl rfl ?_
    obtain ⟨v2, ev2, hF⟩ := zb_e hF
    refine z_callV (q := 105) (o := 14) (av := [.int (zi l1), .int (zi l3), .int (zi l4)]) (rest := []) (stk2 := [.int (zi v2)]) C hR clX11 (zon C zo_14) kd_14 (M_fX11_shareOf (zlv hd rfl) ev2) mY_X11_shareOf q_1538 (Nat.le_of_ble_eq_true rfl) dX11_hoursBy_102 rfl rfl rfl ?_
    cases hF
    exact z_iret C e1 e2 dX11_hoursBy_105
  · have hF := (if_neg c1).symm.trans hF
    refine z_iload_n (q := 28) C dX11_hoursBy_27 2 rfl rfl rfl ?_
    refine z_iload (q := 30) C dX11_hoursBy_28 5 rfl rfl ?_
    refine z_callS (q := 33) (av := [.int (zi l2), .int (zi l5)]) (rest := []) (stk2 := [.int (zi (fX11_has l2 l5))]) C hR (M_fX11_has (zlv hd rfl) rfl) mY_X11_has q_1294 (Nat.le_of_ble_eq_true rfl) dX11_hoursBy_30 rfl rfl rfl ?_
    refine z_if_eq (tgt := 54) (q := 36) C dX11_hoursBy_33 (by decide) rfl (fun c3 => ?_) (fun c3 => ?_)
    · have hF := (if_pos c3).symm.trans hF
      refine z_iconst (q := 55) C dX11_hoursBy_54 rfl ?_
      refine z_istore (q := 57) C dX11_hoursBy_55 (by decide) rfl rfl ?_
      refine z_iload_n (q := 58) C dX11_hoursBy_57 4 rfl rfl rfl ?_
      refine z_iload (q := 60) C dX11_hoursBy_58 0 rfl rfl ?_
      refine z_if_eq (tgt := 67) (q := 63) C dX11_hoursBy_60 (by decide) rfl (fun c4 => ?_) (fun c4 => ?_)
      · have hF := (if_pos c4).symm.trans hF
        refine z_iconst (q := 68) C dX11_hoursBy_67 rfl ?_
        exact z_sub (J_fX11_hoursBy_c68 C hR hd e1 e2 hK18 _ _ _ _ _ _ _ hF) [1, 2, 3, 5, 6, 0] rfl
      · have hF := (if_neg c4).symm.trans hF
        refine z_iconst (q := 64) C dX11_hoursBy_63 rfl ?_
        refine z_goto (q := 68) C dX11_hoursBy_64 (by decide) ?_
        exact z_sub (J_fX11_hoursBy_c68 C hR hd e1 e2 hK18 _ _ _ _ _ _ _ hF) [1, 2, 3, 5, 6, 0] rfl
    · have hF := (if_neg c3).symm.trans hF
      refine z_aload_n (q := 37) C dX11_hoursBy_36 0 rfl rfl rfl ?_
      refine z_iload (q := 39) C dX11_hoursBy_37 5 rfl rfl ?_
      obtain ⟨v5, ev5, hF⟩ := zb_e hF
      refine z_callV (q := 42) (o := 14) (av := [.int (zi l5)]) (rest := []) (stk2 := [.int (zi v5)]) C hR clX11 (zon C zo_14) kd_14 (M_fX11_form (zlv hd rfl) ev5) mY_X11_form q_1530 (Nat.le_of_ble_eq_true rfl) dX11_hoursBy_39 rfl rfl rfl ?_
      refine z_aload_n (q := 43) C dX11_hoursBy_42 0 rfl rfl rfl ?_
      refine z_iload_n (q := 44) C dX11_hoursBy_43 1 rfl rfl rfl ?_
      obtain ⟨v6, ev6, hF⟩ := zb_e hF
      refine z_callV (q := 47) (o := 14) (av := [.int (zi l1)]) (rest := [.int (zi v5)]) (stk2 := [.int (zi v6), .int (zi v5)]) C hR clX11 (zon C zo_14) kd_14 (M_fX11_form (zlv hd rfl) ev6) mY_X11_form q_1530 (Nat.le_of_ble_eq_true rfl) dX11_hoursBy_44 rfl rfl rfl ?_
      refine z_icmp_ne (tgt := 54) (q := 50) C dX11_hoursBy_47 (by decide) rfl (fun c7 => ?_) (fun c7 => ?_)
      · have hF := (if_neg c7).symm.trans hF
        refine z_iconst (q := 55) C dX11_hoursBy_54 rfl ?_
        refine z_istore (q := 57) C dX11_hoursBy_55 (by decide) rfl rfl ?_
        refine z_iload_n (q := 58) C dX11_hoursBy_57 4 rfl rfl rfl ?_
        refine z_iload (q := 60) C dX11_hoursBy_58 0 rfl rfl ?_
        refine z_if_eq (tgt := 67) (q := 63) C dX11_hoursBy_60 (by decide) rfl (fun c9 => ?_) (fun c9 => ?_)
        · have hF := (if_pos c9).symm.trans hF
          refine z_iconst (q := 68) C dX11_hoursBy_67 rfl ?_
          exact z_sub (J_fX11_hoursBy_c68 C hR hd e1 e2 hK18 _ _ _ _ _ _ _ hF) [1, 2, 3, 5, 6, 0] rfl
        · have hF := (if_neg c9).symm.trans hF
          refine z_iconst (q := 64) C dX11_hoursBy_63 rfl ?_
          refine z_goto (q := 68) C dX11_hoursBy_64 (by decide) ?_
          exact z_sub (J_fX11_hoursBy_c68 C hR hd e1 e2 hK18 _ _ _ _ _ _ _ hF) [1, 2, 3, 5, 6, 0] rfl
      · have hF := (if_pos c7).symm.trans hF
        refine z_iconst (q := 51) C dX11_hoursBy_50 rfl ?_
        refine z_goto (q := 55) C dX11_hoursBy_51 (by decide) ?_
        refine z_istore (q := 57) C dX11_hoursBy_55 (by decide) rfl rfl ?_
        refine z_iload_n (q := 58) C dX11_hoursBy_57 4 rfl rfl rfl ?_
        refine z_iload (q := 60) C dX11_hoursBy_58 0 rfl rfl ?_
        refine z_if_eq (tgt := 67) (q := 63) C dX11_hoursBy_60 (by decide) rfl (fun c8 => ?_) (fun c8 => ?_)
        · have hF := (if_pos c8).symm.trans hF
          refine z_iconst (q := 68) C dX11_hoursBy_67 rfl ?_
          exact z_sub (J_fX11_hoursBy_c68 C hR hd e1 e2 hK18 _ _ _ _ _ _ _ hF) [1, 2, 3, 5, 6, 0] rfl
        · have hF := (if_neg c8).symm.trans hF
          refine z_iconst (q := 64) C dX11_hoursBy_63 rfl ?_
          refine z_goto (q := 68) C dX11_hoursBy_64 (by decide) ?_
          exact z_sub (J_fX11_hoursBy_c68 C hR hd e1 e2 hK18 _ _ _ _ _ _ _ hF) [1, 2, 3, 5, 6, 0] rfl
set_option maxRecDepth 20000 in
set_option maxHeartbeats 4000000 in
theorem J_fX11_hoursBy_c18 {κ : zT} (C : zC κ RX11 cX11_hoursBy 7 (some .int)) {d : Nat} (hR : zR κ = zrm (d + 1)) (hd : 3 ≤ d + 1) {N : Nat} {h : zH} {r : Int} (e1 : zrv κ = some (.int (zi r))) (e2 : zhf κ = h) : ∀ (k : Nat) (l1 : Int) (l2 : Int) (l3 : Int) (l4 : Int) (l5 : Int), fX11_hoursBy_c18 N h k l1 l2 l3 l4 l5 = some r → Z κ h 18 [(0, .ref (zα κ 14)), (1, .int (zi l1)), (2, .int (zi l2)), (3, .int (zi l3)), (4, .int (zi l4)), (5, .int (zi l5))] [] := by
  intro k
  induction k with
  | zero => intro l1 l2 l3 l4 l5 hF; cases hF
  | succ k ih => intro l1 l2 l3 l4 l5 hF; exact J_fX11_hoursBy_c18b C hR hd e1 e2 ih l1 l2 l3 l4 l5 hF
set_option maxRecDepth 20000 in
set_option maxHeartbeats 4000000 in
theorem J_fX11_hoursBy {κ : zT} (C : zC κ RX11 cX11_hoursBy 7 (some .int)) {d : Nat} (hR : zR κ = zrm (d + 1)) (hd : 3 ≤ d + 1) {N : Nat} {h : zH} {r : Int} (e1 : zrv κ = some (.int (zi r))) (e2 : zhf κ = h) {a1 : Int} {a2 : Int} (hF : fX11_hoursBy N a1 a2 h = some r) : Z κ h 0 [(0, .ref (zα κ 14)), (1, .int (zi a1)), (2, .int (zi a2))] [] := by
  unfold fX11_hoursBy at hF
  refine z_iload_n (q := 1) C dX11_hoursBy_0 2 rfl rfl rfl ?_
  refine z_iload_n (q := 2) C dX11_hoursBy_1 1 rfl rfl rfl ?_
  refine z_callS (q := 5) (av := [.int (zi a2), .int (zi a1)]) (rest := []) (stk2 := [.int (zi (fX11_has a2 a1))]) C hR (M_fX11_has (zlv hd rfl) rfl) mY_X11_has q_1294 (Nat.le_of_ble_eq_true rfl) dX11_hoursBy_2 rfl rfl rfl ?_
  refine z_if_ne (tgt := 10) (q := 8) C dX11_hoursBy_5 (by decide) rfl (fun c1 => ?_) (fun c1 => ?_)
  · have hF := (if_neg c1).symm.trans hF
    refine z_iconst (q := 11) C dX11_hoursBy_10 rfl ?_
    refine z_istore_n (q := 12) C dX11_hoursBy_11 (by decide) rfl rfl rfl ?_
    refine z_iconst (q := 13) C dX11_hoursBy_12 rfl ?_
    refine z_istore (q := 15) C dX11_hoursBy_13 (by decide) rfl rfl ?_
    refine z_iconst (q := 16) C dX11_hoursBy_15 rfl ?_
    refine z_istore (q := 18) C dX11_hoursBy_16 (by decide) rfl rfl ?_
    exact z_sub (J_fX11_hoursBy_c18 C hR hd e1 e2 N _ _ _ _ _ hF) [3, 4, 5, 2, 1, 0] rfl
  · have hF := (if_pos c1).symm.trans hF
    refine z_iconst (q := 9) C dX11_hoursBy_8 rfl ?_
    cases hF
    exact z_iret C e1 e2 dX11_hoursBy_9
set_option maxRecDepth 20000 in
set_option maxHeartbeats 4000000 in
theorem M_fX11_hoursBy {l : Launch} {D : va_G} {cy : ClassId} {α : Nat → Nat} {n : Nat} {σ : zSg} {d : Nat} (hd : 3 ≤ d) {N : Nat} {a1 : Int} {a2 : Int} {h : zH} {r : Int} (hF : fX11_hoursBy N a1 a2 h = some r) : zMet l yX11_hoursBy cX11_hoursBy 7 (some .int) (zrm d) D cy α n σ [.ref (α 14), .int (zi a1), .int (zi a2)] h (some (.int (zi r))) h := by
  obtain ⟨d, rfl⟩ : ∃ e, d = e + 1 := ⟨d - 1, by omega⟩
  refine z_met (by decide +kernel) (Nat.le_of_ble_eq_true rfl) (fun κ k1 k2 k3 k4 k5 k6 k7 k8 k9 C => ?_)
  subst k1 k3 k4 k5 k6 k7
  exact J_fX11_hoursBy C k2 hd k8 k9 hF
set_option maxRecDepth 20000 in
set_option maxHeartbeats 4000000 in
theorem J_fX11_note_c57 {κ : zT} (C : zC κ RX11 cX11_note 4 none) {d : Nat} (hR : zR κ = zrm (d + 1)) (hd : 1 ≤ d + 1) {N : Nat} {r : zH} (e1 : zrv κ = none) (e2 : zhf κ = r) (l1 : Int) (l2 : Int) (h : zH) (hF : fX11_note_c57 N l1 l2 h = some r) : Z κ h 57 [(0, .ref (zα κ 14)), (1, .int (zi l1)), (2, .int (zi l2))] [] := by
  unfold fX11_note_c57 at hF
  refine z_aload_n (q := 58) C dX11_note_57 0 rfl rfl rfl ?_
  refine z_getf (q := 61) C clX11 (zon C zo_14) kd_14 (k := 34) (by decide) q_1136 rfl (zfv_r kd_14 rfl fr_14_34) dX11_note_58 rfl ?_
  refine z_bipush (q := 63) C dX11_note_61 bp_45 rfl ?_
  refine z_iconst (q := 64) C dX11_note_63 rfl ?_
  refine z_aload_n (q := 65) C dX11_note_64 0 rfl rfl rfl ?_
  refine z_getf (q := 68) C clX11 (zon C zo_14) kd_14 (k := 34) (by decide) q_1136 rfl (zfv_r kd_14 rfl fr_14_34) dX11_note_65 rfl ?_
  refine z_bipush (q := 70) C dX11_note_68 bp_44 rfl ?_
  refine z_ialdc (q := 71) (j := 44) C (zon C zo_69) kd_69 zwk_44 (by rw [ln_69]; decide) dX11_note_70 rfl ?_
  refine z_imul (q := 72) C dX11_note_71 rfl ?_
  refine z_iadd (q := 73) C dX11_note_72 rfl ?_
  refine z_iload_n (q := 74) C dX11_note_73 1 rfl rfl rfl ?_
  obtain ⟨g1, hF⟩ := zif_none hF
  obtain ⟨h2, eh2, hF⟩ := zlet_e hF
  refine z_iast (q := 75) C (zon C zo_69) kd_69 g1.1 (by rw [ln_69]; exact g1.2) dX11_note_74 rfl eh2 ?_
  refine z_aload_n (q := 76) C dX11_note_75 0 rfl rfl rfl ?_
  refine z_getf (q := 79) C clX11 (zon C zo_14) kd_14 (k := 34) (by decide) q_1136 rfl (zfv_r kd_14 rfl fr_14_34) dX11_note_76 rfl ?_
  refine z_bipush (q := 81) C dX11_note_79 bp_45 rfl ?_
  refine z_iconst (q := 82) C dX11_note_81 rfl ?_
  refine z_aload_n (q := 83) C dX11_note_82 0 rfl rfl rfl ?_
  refine z_getf (q := 86) C clX11 (zon C zo_14) kd_14 (k := 34) (by decide) q_1136 rfl (zfv_r kd_14 rfl fr_14_34) dX11_note_83 rfl ?_
  refine z_bipush (q := 88) C dX11_note_86 bp_44 rfl ?_
  refine z_ialdc (q := 89) (j := 44) C (zon C zo_69) kd_69 zwk_44 (by rw [ln_69]; decide) dX11_note_88 rfl ?_
  refine z_imul (q := 90) C dX11_note_89 rfl ?_
  refine z_iadd (q := 91) C dX11_note_90 rfl ?_
  refine z_iconst (q := 92) C dX11_note_91 rfl ?_
  refine z_iadd (q := 93) C dX11_note_92 rfl ?_
  refine z_iload_n (q := 94) C dX11_note_93 2 rfl rfl rfl ?_
  obtain ⟨g3, hF⟩ := zif_none hF
  obtain ⟨h4, eh4, hF⟩ := zlet_e hF
  refine z_iast (q := 95) C (zon C zo_69) kd_69 g3.1 (by rw [ln_69]; exact g3.2) dX11_note_94 rfl eh4 ?_
  refine z_aload_n (q := 96) C dX11_note_95 0 rfl rfl rfl ?_
  refine z_getf (q := 99) C clX11 (zon C zo_14) kd_14 (k := 34) (by decide) q_1136 rfl (zfv_r kd_14 rfl fr_14_34) dX11_note_96 rfl ?_
  refine z_bipush (q := 101) C dX11_note_99 bp_44 rfl ?_
  refine z_dup2 (q := 102) C dX11_note_101 rfl rfl rfl ?_
  refine z_ialdc (q := 103) (j := 44) C (zon C zo_69) kd_69 zwk_44 (by rw [ln_69]; decide) dX11_note_102 rfl ?_
  refine z_iconst (q := 104) C dX11_note_103 rfl ?_
  refine z_iadd (q := 105) C dX11_note_104 rfl ?_
  obtain ⟨h5, eh5, hF⟩ := zlet_e hF
  refine z_iastc (q := 106) (j := 44) C (zon C zo_69) kd_69 zwk_44 (by rw [ln_69]; decide) dX11_note_105 rfl eh5 ?_
  cases hF
  exact z_vret C e1 e2 dX11_note_106
set_option maxRecDepth 20000 in
set_option maxHeartbeats 4000000 in
theorem J_fX11_note_c14b {κ : zT} (C : zC κ RX11 cX11_note 4 none) {d : Nat} (hR : zR κ = zrm (d + 1)) (hd : 1 ≤ d + 1) {N : Nat} {r : zH} (e1 : zrv κ = none) (e2 : zhf κ = r) {K14 : Int → Int → Int → zH → Option zH} (hK14 : ∀ (l1 : Int) (l2 : Int) (l3 : Int) (h : zH), K14 l1 l2 l3 h = some r → Z κ h 14 [(0, .ref (zα κ 14)), (1, .int (zi l1)), (2, .int (zi l2)), (3, .int (zi l3))] []) (l1 : Int) (l2 : Int) (l3 : Int) (h : zH) (hF : fX11_note_c14b N K14 l1 l2 l3 h = some r) : Z κ h 14 [(0, .ref (zα κ 14)), (1, .int (zi l1)), (2, .int (zi l2)), (3, .int (zi l3))] [] := by
  unfold fX11_note_c14b at hF
  refine z_iload_n (q := 15) C dX11_note_14 3 rfl rfl rfl ?_
  refine z_bipush (q := 17) C dX11_note_15 bp_120 rfl ?_
  refine z_icmp_ge (tgt := 46) (q := 20) C dX11_note_17 (by decide) rfl (fun c1 => ?_) (fun c1 => ?_)
  · have hF := (if_pos c1).symm.trans hF
    refine z_aload_n (q := 47) C dX11_note_46 0 rfl rfl rfl ?_
    refine z_getf (q := 50) C clX11 (zon C zo_14) kd_14 (k := 34) (by decide) q_1136 rfl (zfv_r kd_14 rfl fr_14_34) dX11_note_47 rfl ?_
    refine z_bipush (q := 52) C dX11_note_50 bp_44 rfl ?_
    refine z_dup2 (q := 53) C dX11_note_52 rfl rfl rfl ?_
    refine z_ialdc (q := 54) (j := 44) C (zon C zo_69) kd_69 zwk_44 (by rw [ln_69]; decide) dX11_note_53 rfl ?_
    refine z_iconst (q := 55) C dX11_note_54 rfl ?_
    refine z_isub (q := 56) C dX11_note_55 rfl ?_
    obtain ⟨h2, eh2, hF⟩ := zlet_e hF
    refine z_iastc (q := 57) (j := 44) C (zon C zo_69) kd_69 zwk_44 (by rw [ln_69]; decide) dX11_note_56 rfl eh2 ?_
    exact z_sub (J_fX11_note_c57 C hR hd e1 e2 _ _ _ hF) [0, 1, 2] rfl
  · have hF := (if_neg c1).symm.trans hF
    refine z_aload_n (q := 21) C dX11_note_20 0 rfl rfl rfl ?_
    refine z_getf (q := 24) C clX11 (zon C zo_14) kd_14 (k := 34) (by decide) q_1136 rfl (zfv_r kd_14 rfl fr_14_34) dX11_note_21 rfl ?_
    refine z_bipush (q := 26) C dX11_note_24 bp_45 rfl ?_
    refine z_iload_n (q := 27) C dX11_note_26 3 rfl rfl rfl ?_
    refine z_iadd (q := 28) C dX11_note_27 rfl ?_
    refine z_iconst (q := 29) C dX11_note_28 rfl ?_
    refine z_isub (q := 30) C dX11_note_29 rfl ?_
    refine z_aload_n (q := 31) C dX11_note_30 0 rfl rfl rfl ?_
    refine z_getf (q := 34) C clX11 (zon C zo_14) kd_14 (k := 34) (by decide) q_1136 rfl (zfv_r kd_14 rfl fr_14_34) dX11_note_31 rfl ?_
    refine z_bipush (q := 36) C dX11_note_34 bp_45 rfl ?_
    refine z_iload_n (q := 37) C dX11_note_36 3 rfl rfl rfl ?_
    refine z_iadd (q := 38) C dX11_note_37 rfl ?_
    obtain ⟨g3, hF⟩ := zif_none hF
    refine z_iald (q := 39) C (zon C zo_69) kd_69 g3.1 (by rw [ln_69]; exact g3.2) dX11_note_38 rfl ?_
    obtain ⟨g4, hF⟩ := zif_none hF
    obtain ⟨h5, eh5, hF⟩ := zlet_e hF
    refine z_iast (q := 40) C (zon C zo_69) kd_69 g4.1 (by rw [ln_69]; exact g4.2) dX11_note_39 rfl eh5 ?_
    refine z_iinc (q := 43) (x := l3) C dX11_note_40 (j := 3) rfl (by decide) rfl rfl ?_
    refine z_goto (q := 14) C dX11_note_43 (by decide) ?_
    exact z_sub (hK14 _ _ _ _ hF) [1, 2, 3, 0] rfl
set_option maxRecDepth 20000 in
set_option maxHeartbeats 4000000 in
theorem J_fX11_note_c14 {κ : zT} (C : zC κ RX11 cX11_note 4 none) {d : Nat} (hR : zR κ = zrm (d + 1)) (hd : 1 ≤ d + 1) {N : Nat} {r : zH} (e1 : zrv κ = none) (e2 : zhf κ = r) : ∀ (k : Nat) (l1 : Int) (l2 : Int) (l3 : Int) (h : zH), fX11_note_c14 N k l1 l2 l3 h = some r → Z κ h 14 [(0, .ref (zα κ 14)), (1, .int (zi l1)), (2, .int (zi l2)), (3, .int (zi l3))] [] := by
  intro k
  induction k with
  | zero => intro l1 l2 l3 h hF; cases hF
  | succ k ih => intro l1 l2 l3 h hF; exact J_fX11_note_c14b C hR hd e1 e2 ih l1 l2 l3 h hF
set_option maxRecDepth 20000 in
set_option maxHeartbeats 4000000 in
theorem J_fX11_note {κ : zT} (C : zC κ RX11 cX11_note 4 none) {d : Nat} (hR : zR κ = zrm (d + 1)) (hd : 1 ≤ d + 1) {N : Nat} {r : zH} (e1 : zrv κ = none) (e2 : zhf κ = r) {a1 : Int} {a2 : Int} {h : zH} (hF : fX11_note N a1 a2 h = some r) : Z κ h 0 [(0, .ref (zα κ 14)), (1, .int (zi a1)), (2, .int (zi a2))] [] := by
  unfold fX11_note at hF
  refine z_aload_n (q := 1) C dX11_note_0 0 rfl rfl rfl ?_
  refine z_getf (q := 4) C clX11 (zon C zo_14) kd_14 (k := 34) (by decide) q_1136 rfl (zfv_r kd_14 rfl fr_14_34) dX11_note_1 rfl ?_
  refine z_bipush (q := 6) C dX11_note_4 bp_44 rfl ?_
  refine z_ialdc (q := 7) (j := 44) C (zon C zo_69) kd_69 zwk_44 (by rw [ln_69]; decide) dX11_note_6 rfl ?_
  refine z_bipush (q := 9) C dX11_note_7 bp_60 rfl ?_
  refine z_icmp_ne (tgt := 57) (q := 12) C dX11_note_9 (by decide) rfl (fun c1 => ?_) (fun c1 => ?_)
  · have hF := (if_neg c1).symm.trans hF
    exact z_sub (J_fX11_note_c57 C hR hd e1 e2 _ _ _ hF) [0, 1, 2] rfl
  · have hF := (if_pos c1).symm.trans hF
    refine z_iconst (q := 13) C dX11_note_12 rfl ?_
    refine z_istore_n (q := 14) C dX11_note_13 (by decide) rfl rfl rfl ?_
    exact z_sub (J_fX11_note_c14 C hR hd e1 e2 N _ _ _ _ hF) [1, 2, 3, 0] rfl
set_option maxRecDepth 20000 in
set_option maxHeartbeats 4000000 in
theorem M_fX11_note {l : Launch} {D : va_G} {cy : ClassId} {α : Nat → Nat} {n : Nat} {σ : zSg} {d : Nat} (hd : 1 ≤ d) {N : Nat} {a1 : Int} {a2 : Int} {h : zH} {g : zH} (hF : fX11_note N a1 a2 h = some g) : zMet l yX11_note cX11_note 4 none (zrm d) D cy α n σ [.ref (α 14), .int (zi a1), .int (zi a2)] h (none) g := by
  obtain ⟨d, rfl⟩ : ∃ e, d = e + 1 := ⟨d - 1, by omega⟩
  refine z_met (by decide +kernel) (Nat.le_of_ble_eq_true rfl) (fun κ k1 k2 k3 k4 k5 k6 k7 k8 k9 C => ?_)
  subst k1 k3 k4 k5 k6 k7
  exact J_fX11_note C k2 hd k8 k9 hF
set_option maxRecDepth 20000 in
set_option maxHeartbeats 4000000 in
theorem J_fX11_dawn_c96b {κ : zT} (C : zC κ RX11 cX11_dawn 5 none) {d : Nat} (hR : zR κ = zrm (d + 1)) (hd : 4 ≤ d + 1) {N : Nat} {r : zH} (e1 : zrv κ = none) (e2 : zhf κ = r) {K96 : Int → Int → Int → zH → Option zH} (hK96 : ∀ (l2 : Int) (l3 : Int) (l4 : Int) (h : zH), K96 l2 l3 l4 h = some r → Z κ h 96 [(0, .ref (zα κ 14)), (2, .int (zi l2)), (3, .int (zi l3)), (4, .int (zi l4))] []) (l2 : Int) (l3 : Int) (l4 : Int) (h : zH) (hF : fX11_dawn_c96b N K96 l2 l3 l4 h = some r) : Z κ h 96 [(0, .ref (zα κ 14)), (2, .int (zi l2)), (3, .int (zi l3)), (4, .int (zi l4))] [] := by
  unfold fX11_dawn_c96b at hF
  refine z_iload (q := 98) C dX11_dawn_96 3 rfl rfl ?_
  refine z_aload_n (q := 99) C dX11_dawn_98 0 rfl rfl rfl ?_
  refine z_getf (q := 102) C clX11 (zon C zo_14) kd_14 (k := 28) (by decide) q_1130 rfl (zfv_i kd_14 rfl) dX11_dawn_99 rfl ?_
  refine z_icmp_ge (tgt := 155) (q := 105) C dX11_dawn_102 (by decide) rfl (fun c1 => ?_) (fun c1 => ?_)
  · have hF := (if_pos c1).symm.trans hF
    refine z_aload_n (q := 156) C dX11_dawn_155 0 rfl rfl rfl ?_
    refine z_iload_n (q := 157) C dX11_dawn_156 1 rfl rfl rfl ?_
    refine z_iload_n (q := 158) C dX11_dawn_157 2 rfl rfl rfl ?_
    obtain ⟨h2, eh2, hF⟩ := zb_e hF
    refine z_callV (q := 161) (o := 14) (av := [.int (zi l2), .int (zi l3)]) (rest := []) (stk2 := []) C hR clX11 (zon C zo_14) kd_14 (M_fX11_note (zlv hd rfl) eh2) mY_X11_note q_1543 (Nat.le_of_ble_eq_true rfl) dX11_dawn_158 rfl rfl rfl ?_
    cases hF
    exact z_vret C e1 e2 dX11_dawn_161
  · have hF := (if_neg c1).symm.trans hF
    refine z_aload_n (q := 106) C dX11_dawn_105 0 rfl rfl rfl ?_
    refine z_iload (q := 108) C dX11_dawn_106 3 rfl rfl ?_
    refine z_iconst (q := 109) C dX11_dawn_108 rfl ?_
    refine z_iload_n (q := 110) C dX11_dawn_109 1 rfl rfl rfl ?_
    refine z_iload (q := 112) C dX11_dawn_110 3 rfl rfl ?_
    refine z_callS (q := 115) (av := [.int (zi l2), .int (zi l4)]) (rest := [.int (zi 0), .int (zi l4), .ref (zα κ 14)]) (stk2 := [.int (zi (fX11_has l2 l4)), .int (zi 0), .int (zi l4), .ref (zα κ 14)]) C hR (M_fX11_has (zlv hd rfl) rfl) mY_X11_has q_1294 (Nat.le_of_ble_eq_true rfl) dX11_dawn_112 rfl rfl rfl ?_
    refine z_if_eq (tgt := 139) (q := 118) C dX11_dawn_115 (by decide) rfl (fun c3 => ?_) (fun c3 => ?_)
    · have hF := (if_pos c3).symm.trans hF
      refine z_aload_n (q := 140) C dX11_dawn_139 0 rfl rfl rfl ?_
      refine z_iload (q := 142) C dX11_dawn_140 3 rfl rfl ?_
      refine z_iconst (q := 143) C dX11_dawn_142 rfl ?_
      obtain ⟨v4, ev4, hF⟩ := zb_e hF
      refine z_callV (q := 146) (o := 14) (av := [.int (zi l4), .int (zi 0)]) (rest := [.int (zi 0), .int (zi l4), .ref (zα κ 14)]) (stk2 := [.int (zi v4), .int (zi 0), .int (zi l4), .ref (zα κ 14)]) C hR clX11 (zon C zo_14) kd_14 (M_fX11_of (zlv hd rfl) ev4) mY_X11_of q_1430 (Nat.le_of_ble_eq_true rfl) dX11_dawn_143 rfl rfl rfl ?_
      obtain ⟨h5, eh5, hF⟩ := zb_e hF
      refine z_callV (q := 149) (o := 14) (av := [.int (zi l4), .int (zi 0), .int (zi v4)]) (rest := []) (stk2 := []) C hR clX11 (zon C zo_14) kd_14 (M_fX11_put_ (zlv hd rfl) eh5) mY_X11_put_ q_1414 (Nat.le_of_ble_eq_true rfl) dX11_dawn_146 rfl rfl rfl ?_
      refine z_iinc (q := 152) (x := l4) C dX11_dawn_149 (j := 3) rfl (by decide) rfl rfl ?_
      refine z_goto (q := 96) C dX11_dawn_152 (by decide) ?_
      exact z_sub (hK96 _ _ _ _ hF) [1, 2, 3, 0] rfl
    · have hF := (if_neg c3).symm.trans hF
      refine z_aload_n (q := 119) C dX11_dawn_118 0 rfl rfl rfl ?_
      refine z_iload (q := 121) C dX11_dawn_119 3 rfl rfl ?_
      refine z_iconst (q := 122) C dX11_dawn_121 rfl ?_
      obtain ⟨v6, ev6, hF⟩ := zb_e hF
      refine z_callV (q := 125) (o := 14) (av := [.int (zi l4), .int (zi 0)]) (rest := [.int (zi 0), .int (zi l4), .ref (zα κ 14)]) (stk2 := [.int (zi v6), .int (zi 0), .int (zi l4), .ref (zα κ 14)]) C hR clX11 (zon C zo_14) kd_14 (M_fX11_of (zlv hd rfl) ev6) mY_X11_of q_1430 (Nat.le_of_ble_eq_true rfl) dX11_dawn_122 rfl rfl rfl ?_
      refine z_iconst (q := 126) C dX11_dawn_125 rfl ?_
      refine z_aload_n (q := 127) C dX11_dawn_126 0 rfl rfl rfl ?_
      refine z_iload (q := 129) C dX11_dawn_127 3 rfl rfl ?_
      obtain ⟨v7, ev7, hF⟩ := zb_e hF
      refine z_callV (q := 132) (o := 14) (av := [.int (zi l4)]) (rest := [.int (zi 1), .int (zi v6), .int (zi 0), .int (zi l4), .ref (zα κ 14)]) (stk2 := [.int (zi v7), .int (zi 1), .int (zi v6), .int (zi 0), .int (zi l4), .ref (zα κ 14)]) C hR clX11 (zon C zo_14) kd_14 (M_fX11_form (zlv hd rfl) ev7) mY_X11_form q_1530 (Nat.le_of_ble_eq_true rfl) dX11_dawn_129 rfl rfl rfl ?_
      refine z_ishl (q := 133) C dX11_dawn_132 rfl ?_
      refine z_iconst (q := 134) C dX11_dawn_133 rfl ?_
      refine z_ixor (q := 135) C dX11_dawn_134 rfl ?_
      refine z_iand (q := 136) C dX11_dawn_135 rfl ?_
      refine z_goto (q := 146) C dX11_dawn_136 (by decide) ?_
      obtain ⟨h8, eh8, hF⟩ := zb_e hF
      refine z_callV (q := 149) (o := 14) (av := [.int (zi l4), .int (zi 0), .int (zi (zand v6 (zxor (zshl 1 v7) (-1))))]) (rest := []) (stk2 := []) C hR clX11 (zon C zo_14) kd_14 (M_fX11_put_ (zlv hd rfl) eh8) mY_X11_put_ q_1414 (Nat.le_of_ble_eq_true rfl) dX11_dawn_146 rfl rfl rfl ?_
      refine z_iinc (q := 152) (x := l4) C dX11_dawn_149 (j := 3) rfl (by decide) rfl rfl ?_
      refine z_goto (q := 96) C dX11_dawn_152 (by decide) ?_
      exact z_sub (hK96 _ _ _ _ hF) [1, 2, 3, 0] rfl
set_option maxRecDepth 20000 in
set_option maxHeartbeats 4000000 in
theorem J_fX11_dawn_c96 {κ : zT} (C : zC κ RX11 cX11_dawn 5 none) {d : Nat} (hR : zR κ = zrm (d + 1)) (hd : 4 ≤ d + 1) {N : Nat} {r : zH} (e1 : zrv κ = none) (e2 : zhf κ = r) : ∀ (k : Nat) (l2 : Int) (l3 : Int) (l4 : Int) (h : zH), fX11_dawn_c96 N k l2 l3 l4 h = some r → Z κ h 96 [(0, .ref (zα κ 14)), (2, .int (zi l2)), (3, .int (zi l3)), (4, .int (zi l4))] [] := by
  intro k
  induction k with
  | zero => intro l2 l3 l4 h hF; cases hF
  | succ k ih => intro l2 l3 l4 h hF; exact J_fX11_dawn_c96b C hR hd e1 e2 ih l2 l3 l4 h hF
set_option maxRecDepth 20000 in
set_option maxHeartbeats 4000000 in
theorem J_fX11_dawn_c54b {κ : zT} (C : zC κ RX11 cX11_dawn 5 none) {d : Nat} (hR : zR κ = zrm (d + 1)) (hd : 4 ≤ d + 1) {N : Nat} {r : zH} (e1 : zrv κ = none) (e2 : zhf κ = r) {K54 : Int → Int → Int → zH → Option zH} (hK54 : ∀ (l2 : Int) (l3 : Int) (l4 : Int) (h : zH), K54 l2 l3 l4 h = some r → Z κ h 54 [(0, .ref (zα κ 14)), (2, .int (zi l2)), (3, .int (zi l3)), (4, .int (zi l4))] []) (l2 : Int) (l3 : Int) (l4 : Int) (h : zH) (hF : fX11_dawn_c54b N K54 l2 l3 l4 h = some r) : Z κ h 54 [(0, .ref (zα κ 14)), (2, .int (zi l2)), (3, .int (zi l3)), (4, .int (zi l4))] [] := by
  unfold fX11_dawn_c54b at hF
  refine z_iload (q := 56) C dX11_dawn_54 3 rfl rfl ?_
  refine z_aload_n (q := 57) C dX11_dawn_56 0 rfl rfl rfl ?_
  refine z_getf (q := 60) C clX11 (zon C zo_14) kd_14 (k := 28) (by decide) q_1130 rfl (zfv_i kd_14 rfl) dX11_dawn_57 rfl ?_
  refine z_icmp_ge (tgt := 93) (q := 63) C dX11_dawn_60 (by decide) rfl (fun c1 => ?_) (fun c1 => ?_)
  · have hF := (if_pos c1).symm.trans hF
    refine z_iconst (q := 94) C dX11_dawn_93 rfl ?_
    refine z_istore (q := 96) C dX11_dawn_94 (by decide) rfl rfl ?_
    exact z_sub (J_fX11_dawn_c96 C hR hd e1 e2 N _ _ _ _ hF) [1, 2, 3, 0] rfl
  · have hF := (if_neg c1).symm.trans hF
    refine z_aload_n (q := 64) C dX11_dawn_63 0 rfl rfl rfl ?_
    refine z_iload (q := 66) C dX11_dawn_64 3 rfl rfl ?_
    refine z_iconst (q := 67) C dX11_dawn_66 rfl ?_
    refine z_aload_n (q := 68) C dX11_dawn_67 0 rfl rfl rfl ?_
    refine z_iload (q := 70) C dX11_dawn_68 3 rfl rfl ?_
    refine z_iload_n (q := 71) C dX11_dawn_70 1 rfl rfl rfl ?_
    obtain ⟨v2, ev2, hF⟩ := zb_e hF
    refine z_callV (q := 74) (o := 14) (av := [.int (zi l4), .int (zi l2)]) (rest := [.int (zi 4), .int (zi l4), .ref (zα κ 14)]) (stk2 := [.int (zi v2), .int (zi 4), .int (zi l4), .ref (zα κ 14)]) C hR clX11 (zon C zo_14) kd_14 (M_fX11_hoursBy (zlv hd rfl) ev2) mY_X11_hoursBy q_1534 (Nat.le_of_ble_eq_true rfl) dX11_dawn_71 rfl rfl rfl ?_
    obtain ⟨h3, eh3, hF⟩ := zb_e hF
    refine z_callV (q := 77) (o := 14) (av := [.int (zi l4), .int (zi 4), .int (zi v2)]) (rest := []) (stk2 := []) C hR clX11 (zon C zo_14) kd_14 (M_fX11_put_ (zlv hd rfl) eh3) mY_X11_put_ q_1414 (Nat.le_of_ble_eq_true rfl) dX11_dawn_74 rfl rfl rfl ?_
    refine z_iload_n (q := 78) C dX11_dawn_77 2 rfl rfl rfl ?_
    refine z_aload_n (q := 79) C dX11_dawn_78 0 rfl rfl rfl ?_
    refine z_iload (q := 81) C dX11_dawn_79 3 rfl rfl ?_
    refine z_iconst (q := 82) C dX11_dawn_81 rfl ?_
    obtain ⟨v4, ev4, hF⟩ := zb_e hF
    refine z_callV (q := 85) (o := 14) (av := [.int (zi l4), .int (zi 4)]) (rest := [.int (zi l3)]) (stk2 := [.int (zi v4), .int (zi l3)]) C hR clX11 (zon C zo_14) kd_14 (M_fX11_of (zlv hd rfl) ev4) mY_X11_of q_1430 (Nat.le_of_ble_eq_true rfl) dX11_dawn_82 rfl rfl rfl ?_
    refine z_iadd (q := 86) C dX11_dawn_85 rfl ?_
    refine z_istore_n (q := 87) C dX11_dawn_86 (by decide) rfl rfl rfl ?_
    refine z_iinc (q := 90) (x := l4) C dX11_dawn_87 (j := 3) rfl (by decide) rfl rfl ?_
    refine z_goto (q := 54) C dX11_dawn_90 (by decide) ?_
    exact z_sub (hK54 _ _ _ _ hF) [2, 3, 1, 0] rfl
set_option maxRecDepth 20000 in
set_option maxHeartbeats 4000000 in
theorem J_fX11_dawn_c54 {κ : zT} (C : zC κ RX11 cX11_dawn 5 none) {d : Nat} (hR : zR κ = zrm (d + 1)) (hd : 4 ≤ d + 1) {N : Nat} {r : zH} (e1 : zrv κ = none) (e2 : zhf κ = r) : ∀ (k : Nat) (l2 : Int) (l3 : Int) (l4 : Int) (h : zH), fX11_dawn_c54 N k l2 l3 l4 h = some r → Z κ h 54 [(0, .ref (zα κ 14)), (2, .int (zi l2)), (3, .int (zi l3)), (4, .int (zi l4))] [] := by
  intro k
  induction k with
  | zero => intro l2 l3 l4 h hF; cases hF
  | succ k ih => intro l2 l3 l4 h hF; exact J_fX11_dawn_c54b C hR hd e1 e2 ih l2 l3 l4 h hF
set_option maxRecDepth 20000 in
set_option maxHeartbeats 4000000 in
theorem J_fX11_dawn_c4b {κ : zT} (C : zC κ RX11 cX11_dawn 5 none) {d : Nat} (hR : zR κ = zrm (d + 1)) (hd : 4 ≤ d + 1) {N : Nat} {r : zH} (e1 : zrv κ = none) (e2 : zhf κ = r) {K4 : Int → Int → Int → zH → Option zH} (hK4 : ∀ (l1 : Int) (l2 : Int) (l3 : Int) (h : zH), K4 l1 l2 l3 h = some r → Z κ h 4 [(0, .ref (zα κ 14)), (1, .int (zi l1)), (2, .int (zi l2)), (3, .int (zi l3))] []) (l1 : Int) (l2 : Int) (l3 : Int) (h : zH) (hF : fX11_dawn_c4b N K4 l1 l2 l3 h = some r) : Z κ h 4 [(0, .ref (zα κ 14)), (1, .int (zi l1)), (2, .int (zi l2)), (3, .int (zi l3))] [] := by
  unfold fX11_dawn_c4b at hF
  refine z_iload_n (q := 5) C dX11_dawn_4 3 rfl rfl rfl ?_
  refine z_aload_n (q := 6) C dX11_dawn_5 0 rfl rfl rfl ?_
  refine z_getf (q := 9) C clX11 (zon C zo_14) kd_14 (k := 28) (by decide) q_1130 rfl (zfv_i kd_14 rfl) dX11_dawn_6 rfl ?_
  refine z_icmp_ge (tgt := 49) (q := 12) C dX11_dawn_9 (by decide) rfl (fun c1 => ?_) (fun c1 => ?_)
  · have hF := (if_pos c1).symm.trans hF
    refine z_iconst (q := 50) C dX11_dawn_49 rfl ?_
    refine z_istore_n (q := 51) C dX11_dawn_50 (by decide) rfl rfl rfl ?_
    refine z_iconst (q := 52) C dX11_dawn_51 rfl ?_
    refine z_istore (q := 54) C dX11_dawn_52 (by decide) rfl rfl ?_
    exact z_sub (J_fX11_dawn_c54 C hR hd e1 e2 N _ _ _ _ hF) [2, 4, 1, 0] rfl
  · have hF := (if_neg c1).symm.trans hF
    refine z_iload_n (q := 13) C dX11_dawn_12 2 rfl rfl rfl ?_
    refine z_iload_n (q := 14) C dX11_dawn_13 1 rfl rfl rfl ?_
    refine z_if_ne (tgt := 40) (q := 17) C dX11_dawn_14 (by decide) rfl (fun c2 => ?_) (fun c2 => ?_)
    · have hF := (if_neg c2).symm.trans hF
      refine z_iconst (q := 41) C dX11_dawn_40 rfl ?_
      refine z_ior (q := 42) C dX11_dawn_41 rfl ?_
      refine z_istore_n (q := 43) C dX11_dawn_42 (by decide) rfl rfl rfl ?_
      refine z_iinc (q := 46) (x := l3) C dX11_dawn_43 (j := 3) rfl (by decide) rfl rfl ?_
      refine z_goto (q := 4) C dX11_dawn_46 (by decide) ?_
      exact z_sub (hK4 _ _ _ _ hF) [2, 3, 1, 0] rfl
    · have hF := (if_pos c2).symm.trans hF
      refine z_aload_n (q := 18) C dX11_dawn_17 0 rfl rfl rfl ?_
      refine z_iload_n (q := 19) C dX11_dawn_18 3 rfl rfl rfl ?_
      refine z_iconst (q := 20) C dX11_dawn_19 rfl ?_
      obtain ⟨v3, ev3, hF⟩ := zb_e hF
      refine z_callV (q := 23) (o := 14) (av := [.int (zi l3), .int (zi 0)]) (rest := [.int (zi l2)]) (stk2 := [.int (zi v3), .int (zi l2)]) C hR clX11 (zon C zo_14) kd_14 (M_fX11_of (zlv hd rfl) ev3) mY_X11_of q_1430 (Nat.le_of_ble_eq_true rfl) dX11_dawn_20 rfl rfl rfl ?_
      refine z_aload_n (q := 24) C dX11_dawn_23 0 rfl rfl rfl ?_
      refine z_iload_n (q := 25) C dX11_dawn_24 3 rfl rfl rfl ?_
      obtain ⟨v4, ev4, hF⟩ := zb_e hF
      refine z_callV (q := 28) (o := 14) (av := [.int (zi l3)]) (rest := [.int (zi v3), .int (zi l2)]) (stk2 := [.int (zi v4), .int (zi v3), .int (zi l2)]) C hR clX11 (zon C zo_14) kd_14 (M_fX11_form (zlv hd rfl) ev4) mY_X11_form q_1530 (Nat.le_of_ble_eq_true rfl) dX11_dawn_25 rfl rfl rfl ?_
      refine z_callS (q := 31) (av := [.int (zi v3), .int (zi v4)]) (rest := [.int (zi l2)]) (stk2 := [.int (zi (fX11_has v3 v4)), .int (zi l2)]) C hR (M_fX11_has (zlv hd rfl) rfl) mY_X11_has q_1294 (Nat.le_of_ble_eq_true rfl) dX11_dawn_28 rfl rfl rfl ?_
      refine z_if_eq (tgt := 40) (q := 34) C dX11_dawn_31 (by decide) rfl (fun c5 => ?_) (fun c5 => ?_)
      · have hF := (if_pos c5).symm.trans hF
        refine z_iconst (q := 41) C dX11_dawn_40 rfl ?_
        refine z_ior (q := 42) C dX11_dawn_41 rfl ?_
        refine z_istore_n (q := 43) C dX11_dawn_42 (by decide) rfl rfl rfl ?_
        refine z_iinc (q := 46) (x := l3) C dX11_dawn_43 (j := 3) rfl (by decide) rfl rfl ?_
        refine z_goto (q := 4) C dX11_dawn_46 (by decide) ?_
        exact z_sub (hK4 _ _ _ _ hF) [2, 3, 1, 0] rfl
      · have hF := (if_neg c5).symm.trans hF
        refine z_iconst (q := 35) C dX11_dawn_34 rfl ?_
        refine z_iload_n (q := 36) C dX11_dawn_35 3 rfl rfl rfl ?_
        refine z_ishl (q := 37) C dX11_dawn_36 rfl ?_
        refine z_goto (q := 41) C dX11_dawn_37 (by decide) ?_
        refine z_ior (q := 42) C dX11_dawn_41 rfl ?_
        obtain ⟨v6, ev6, hF⟩ := zlet_e hF
        refine z_istoreE_n (q := 43) C ev6 dX11_dawn_42 (by decide) rfl rfl rfl ?_
        refine z_iinc (q := 46) (x := l3) C dX11_dawn_43 (j := 3) rfl (by decide) rfl rfl ?_
        refine z_goto (q := 4) C dX11_dawn_46 (by decide) ?_
        exact z_sub (hK4 _ _ _ _ hF) [2, 3, 1, 0] rfl
set_option maxRecDepth 20000 in
set_option maxHeartbeats 4000000 in
theorem J_fX11_dawn_c4 {κ : zT} (C : zC κ RX11 cX11_dawn 5 none) {d : Nat} (hR : zR κ = zrm (d + 1)) (hd : 4 ≤ d + 1) {N : Nat} {r : zH} (e1 : zrv κ = none) (e2 : zhf κ = r) : ∀ (k : Nat) (l1 : Int) (l2 : Int) (l3 : Int) (h : zH), fX11_dawn_c4 N k l1 l2 l3 h = some r → Z κ h 4 [(0, .ref (zα κ 14)), (1, .int (zi l1)), (2, .int (zi l2)), (3, .int (zi l3))] [] := by
  intro k
  induction k with
  | zero => intro l1 l2 l3 h hF; cases hF
  | succ k ih => intro l1 l2 l3 h hF; exact J_fX11_dawn_c4b C hR hd e1 e2 ih l1 l2 l3 h hF
set_option maxRecDepth 20000 in
set_option maxHeartbeats 4000000 in
theorem J_fX11_dawn {κ : zT} (C : zC κ RX11 cX11_dawn 5 none) {d : Nat} (hR : zR κ = zrm (d + 1)) (hd : 4 ≤ d + 1) {N : Nat} {r : zH} (e1 : zrv κ = none) (e2 : zhf κ = r) {a1 : Int} {h : zH} (hF : fX11_dawn N a1 h = some r) : Z κ h 0 [(0, .ref (zα κ 14)), (1, .int (zi a1))] [] := by
  unfold fX11_dawn at hF
  refine z_iconst (q := 1) C dX11_dawn_0 rfl ?_
  refine z_istore_n (q := 2) C dX11_dawn_1 (by decide) rfl rfl rfl ?_
  refine z_iconst (q := 3) C dX11_dawn_2 rfl ?_
  refine z_istore_n (q := 4) C dX11_dawn_3 (by decide) rfl rfl rfl ?_
  exact z_sub (J_fX11_dawn_c4 C hR hd e1 e2 N _ _ _ _ hF) [2, 3, 1, 0] rfl
set_option maxRecDepth 20000 in
set_option maxHeartbeats 4000000 in
theorem M_fX11_dawn {l : Launch} {D : va_G} {cy : ClassId} {α : Nat → Nat} {n : Nat} {σ : zSg} {d : Nat} (hd : 4 ≤ d) {N : Nat} {a1 : Int} {h : zH} {g : zH} (hF : fX11_dawn N a1 h = some g) : zMet l yX11_dawn cX11_dawn 5 none (zrm d) D cy α n σ [.ref (α 14), .int (zi a1)] h (none) g := by
  obtain ⟨d, rfl⟩ : ∃ e, d = e + 1 := ⟨d - 1, by omega⟩
  refine z_met (by decide +kernel) (Nat.le_of_ble_eq_true rfl) (fun κ k1 k2 k3 k4 k5 k6 k7 k8 k9 C => ?_)
  subst k1 k3 k4 k5 k6 k7
  exact J_fX11_dawn C k2 hd k8 k9 hF
set_option maxRecDepth 20000 in
set_option maxHeartbeats 4000000 in
theorem J_fX11_bounded {κ : zT} (C : zC κ RX11 cX11_bounded 2 (some .int)) {d : Nat} (hR : zR κ = zrm (d + 1)) (hd : 2 ≤ d + 1) {h : zH} {r : Int} (e1 : zrv κ = some (.int (zi r))) (e2 : zhf κ = h) {a0 : Int} (hF : fX11_bounded a0 = r) : Z κ h 0 [(0, .long (zl a0))] [] := by
  unfold fX11_bounded at hF
  refine z_ldc2 (q := 3) C kc_RX11_185 dX11_bounded_0 rfl ?_
  refine z_ldc2 (q := 6) C kc_RX11_187 dX11_bounded_3 rfl ?_
  refine z_lload_n (q := 7) C dX11_bounded_6 0 rfl rfl rfl ?_
  refine z_callS (q := 10) (av := [.long (zl 1000000), .long (zl a0)]) (rest := [.long (zl (-1000000))]) (stk2 := [.long (zl (fJ9_min_f86c9 1000000 a0)), .long (zl (-1000000))]) C hR (M_fJ9_min_f86c9 (zlv hd rfl) rfl) mY_J9_min_f86c9 q_1572 (Nat.le_of_ble_eq_true rfl) dX11_bounded_7 rfl rfl rfl ?_
  obtain ⟨v1, ev1, hF⟩ := zlet_e hF
  refine z_callS (q := 13) (av := [.long (zl (-1000000)), .long (zl (fJ9_min_f86c9 1000000 a0))]) (rest := []) (stk2 := [.long (zl v1)]) C hR (M_fJ9_max_f86c9 (zlv hd rfl) ev1.symm) mY_J9_max_f86c9 q_1573 (Nat.le_of_ble_eq_true rfl) dX11_bounded_10 rfl rfl rfl ?_
  refine z_l2i (q := 14) C dX11_bounded_13 rfl ?_
  subst hF
  exact z_iret C e1 e2 dX11_bounded_14
set_option maxRecDepth 20000 in
set_option maxHeartbeats 4000000 in
theorem M_fX11_bounded {l : Launch} {D : va_G} {cy : ClassId} {α : Nat → Nat} {n : Nat} {σ : zSg} {d : Nat} (hd : 2 ≤ d) {a0 : Int} {h : zH} {r : Int} (hF : fX11_bounded a0 = r) : zMet l yX11_bounded cX11_bounded 2 (some .int) (zrm d) D cy α n σ [.long (zl a0)] h (some (.int (zi r))) h := by
  obtain ⟨d, rfl⟩ : ∃ e, d = e + 1 := ⟨d - 1, by omega⟩
  refine z_met (by decide +kernel) (Nat.le_of_ble_eq_true rfl) (fun κ k1 k2 k3 k4 k5 k6 k7 k8 k9 C => ?_)
  subst k1 k3 k4 k5 k6 k7
  exact J_fX11_bounded C k2 hd k8 k9 hF
set_option maxRecDepth 20000 in
set_option maxHeartbeats 4000000 in
theorem J_fX11_worked {κ : zT} (C : zC κ RX11 cX11_worked 5 (some .int)) {d : Nat} (hR : zR κ = zrm (d + 1)) (hd : 3 ≤ d + 1) {h : zH} {r : Int} (e1 : zrv κ = some (.int (zi r))) (e2 : zhf κ = h) {a0 : Int} {a1 : Int} {a3 : Int} (hF : fX11_worked a0 a1 a3 = some r) : Z κ h 0 [(0, .int (zi a0)), (1, .long (zl a1)), (3, .long (zl a3))] [] := by
  unfold fX11_worked at hF
  refine z_iload_n (q := 1) C dX11_worked_0 0 rfl rfl rfl ?_
  by_cases c1 : zw a0 = 2
  · have hF := (if_pos c1).symm.trans hF
    refine z_tableIn (off := 51) (tgt := 52) C c1 dX11_worked_1 (by decide) (by decide) (by decide) (by decide) ?_
    refine z_lload_n (q := 53) C dX11_worked_52 1 rfl rfl rfl ?_
    refine z_lload_n (q := 54) C dX11_worked_53 2 rfl rfl rfl ?_
    refine z_ladd (q := 55) C dX11_worked_54 rfl ?_
    refine z_callS (q := 58) (av := [.long (zl (a1 + a3))]) (rest := []) (stk2 := [.int (zi (fX11_bounded (a1 + a3)))]) C hR (M_fX11_bounded (zlv hd rfl) rfl) mY_X11_bounded q_1567 (Nat.le_of_ble_eq_true rfl) dX11_worked_55 rfl rfl rfl ?_
    cases hF
    exact z_iret C e1 e2 dX11_worked_58
  · have hF := (if_neg c1).symm.trans hF
    by_cases c2 : zw a0 = 3
    · have hF := (if_pos c2).symm.trans hF
      refine z_tableIn (off := 58) (tgt := 59) C c2 dX11_worked_1 (by decide) (by decide) (by decide) (by decide) ?_
      refine z_lload_n (q := 60) C dX11_worked_59 1 rfl rfl rfl ?_
      refine z_lload_n (q := 61) C dX11_worked_60 2 rfl rfl rfl ?_
      refine z_lsub (q := 62) C dX11_worked_61 rfl ?_
      refine z_callS (q := 65) (av := [.long (zl (a1 - a3))]) (rest := []) (stk2 := [.int (zi (fX11_bounded (a1 - a3)))]) C hR (M_fX11_bounded (zlv hd rfl) rfl) mY_X11_bounded q_1567 (Nat.le_of_ble_eq_true rfl) dX11_worked_62 rfl rfl rfl ?_
      cases hF
      exact z_iret C e1 e2 dX11_worked_65
    · have hF := (if_neg c2).symm.trans hF
      by_cases c3 : zw a0 = 4
      · have hF := (if_pos c3).symm.trans hF
        refine z_tableIn (off := 65) (tgt := 66) C c3 dX11_worked_1 (by decide) (by decide) (by decide) (by decide) ?_
        refine z_lload_n (q := 67) C dX11_worked_66 1 rfl rfl rfl ?_
        refine z_lload_n (q := 68) C dX11_worked_67 2 rfl rfl rfl ?_
        refine z_lmul (q := 69) C dX11_worked_68 rfl ?_
        refine z_callS (q := 72) (av := [.long (zl (a1 * a3))]) (rest := []) (stk2 := [.int (zi (fX11_bounded (a1 * a3)))]) C hR (M_fX11_bounded (zlv hd rfl) rfl) mY_X11_bounded q_1567 (Nat.le_of_ble_eq_true rfl) dX11_worked_69 rfl rfl rfl ?_
        cases hF
        exact z_iret C e1 e2 dX11_worked_72
      · have hF := (if_neg c3).symm.trans hF
        by_cases c4 : zw a0 = 5
        · have hF := (if_pos c4).symm.trans hF
          refine z_tableIn (off := 72) (tgt := 73) C c4 dX11_worked_1 (by decide) (by decide) (by decide) (by decide) ?_
          refine z_lload_n (q := 74) C dX11_worked_73 2 rfl rfl rfl ?_
          refine z_lconst (q := 75) (v := 0) C dX11_worked_74 rfl rfl ?_
          refine z_lcmp (q := 76) C dX11_worked_75 rfl ?_
          refine z_if_ne (tgt := 83) (q := 79) C dX11_worked_76 (by decide) rfl (fun c5 => ?_) (fun c5 => ?_)
          · have hF := (if_neg c5).symm.trans hF
            refine z_lload_n (q := 84) C dX11_worked_83 1 rfl rfl rfl ?_
            refine z_lload_n (q := 85) C dX11_worked_84 2 rfl rfl rfl ?_
            obtain ⟨g6, hF⟩ := zif_none hF
            refine z_ldiv (q := 86) C g6 dX11_worked_85 rfl ?_
            refine z_callS (q := 89) (av := [.long (zl (zldiv a1 a3))]) (rest := []) (stk2 := [.int (zi (fX11_bounded (zldiv a1 a3)))]) C hR (M_fX11_bounded (zlv hd rfl) rfl) mY_X11_bounded q_1567 (Nat.le_of_ble_eq_true rfl) dX11_worked_86 rfl rfl rfl ?_
            cases hF
            exact z_iret C e1 e2 dX11_worked_89
          · have hF := (if_pos c5).symm.trans hF
            refine z_iconst (q := 80) C dX11_worked_79 rfl ?_
            refine z_goto (q := 89) C dX11_worked_80 (by decide) ?_
            cases hF
            exact z_iret C e1 e2 dX11_worked_89
        · have hF := (if_neg c4).symm.trans hF
          by_cases c7 : zw a0 = 6
          · have hF := (if_pos c7).symm.trans hF
            refine z_tableIn (off := 89) (tgt := 90) C c7 dX11_worked_1 (by decide) (by decide) (by decide) (by decide) ?_
            refine z_lload_n (q := 91) C dX11_worked_90 1 rfl rfl rfl ?_
            refine z_lload_n (q := 92) C dX11_worked_91 2 rfl rfl rfl ?_
            refine z_lcmp (q := 93) C dX11_worked_92 rfl ?_
            refine z_if_ne (tgt := 100) (q := 96) C dX11_worked_93 (by decide) rfl (fun c8 => ?_) (fun c8 => ?_)
            · have hF := (if_neg c8).symm.trans hF
              refine z_iconst (q := 101) C dX11_worked_100 rfl ?_
              cases hF
              exact z_iret C e1 e2 dX11_worked_101
            · have hF := (if_pos c8).symm.trans hF
              refine z_iconst (q := 97) C dX11_worked_96 rfl ?_
              refine z_goto (q := 101) C dX11_worked_97 (by decide) ?_
              cases hF
              exact z_iret C e1 e2 dX11_worked_101
          · have hF := (if_neg c7).symm.trans hF
            by_cases c9 : zw a0 = 7
            · have hF := (if_pos c9).symm.trans hF
              refine z_tableIn (off := 101) (tgt := 102) C c9 dX11_worked_1 (by decide) (by decide) (by decide) (by decide) ?_
              refine z_lload_n (q := 103) C dX11_worked_102 1 rfl rfl rfl ?_
              refine z_lload_n (q := 104) C dX11_worked_103 2 rfl rfl rfl ?_
              refine z_lcmp (q := 105) C dX11_worked_104 rfl ?_
              refine z_if_ge (tgt := 112) (q := 108) C dX11_worked_105 (by decide) rfl (fun c10 => ?_) (fun c10 => ?_)
              · have hF := (if_pos c10).symm.trans hF
                refine z_iconst (q := 113) C dX11_worked_112 rfl ?_
                cases hF
                exact z_iret C e1 e2 dX11_worked_113
              · have hF := (if_neg c10).symm.trans hF
                refine z_iconst (q := 109) C dX11_worked_108 rfl ?_
                refine z_goto (q := 113) C dX11_worked_109 (by decide) ?_
                cases hF
                exact z_iret C e1 e2 dX11_worked_113
            · have hF := (if_neg c9).symm.trans hF
              by_cases c11 : zw a0 = 8
              · have hF := (if_pos c11).symm.trans hF
                refine z_tableIn (off := 113) (tgt := 114) C c11 dX11_worked_1 (by decide) (by decide) (by decide) (by decide) ?_
                refine z_lload_n (q := 115) C dX11_worked_114 1 rfl rfl rfl ?_
                refine z_lload_n (q := 116) C dX11_worked_115 2 rfl rfl rfl ?_
                refine z_lcmp (q := 117) C dX11_worked_116 rfl ?_
                refine z_if_le (tgt := 124) (q := 120) C dX11_worked_117 (by decide) rfl (fun c12 => ?_) (fun c12 => ?_)
                · have hF := (if_pos c12).symm.trans hF
                  refine z_iconst (q := 125) C dX11_worked_124 rfl ?_
                  cases hF
                  exact z_iret C e1 e2 dX11_worked_125
                · have hF := (if_neg c12).symm.trans hF
                  refine z_iconst (q := 121) C dX11_worked_120 rfl ?_
                  refine z_goto (q := 125) C dX11_worked_121 (by decide) ?_
                  cases hF
                  exact z_iret C e1 e2 dX11_worked_125
              · have hF := (if_neg c11).symm.trans hF
                by_cases c13 : zw a0 = 9
                · have hF := (if_pos c13).symm.trans hF
                  refine z_tableIn (off := 143) (tgt := 144) C c13 dX11_worked_1 (by decide) (by decide) (by decide) (by decide) ?_
                  refine z_lload_n (q := 145) C dX11_worked_144 1 rfl rfl rfl ?_
                  refine z_lconst (q := 146) (v := 0) C dX11_worked_145 rfl rfl ?_
                  refine z_lcmp (q := 147) C dX11_worked_146 rfl ?_
                  refine z_if_ne (tgt := 156) (q := 150) C dX11_worked_147 (by decide) rfl (fun c14 => ?_) (fun c14 => ?_)
                  · have hF := (if_neg c14).symm.trans hF
                    refine z_iconst (q := 157) C dX11_worked_156 rfl ?_
                    refine z_goto (q := 161) C dX11_worked_157 (by decide) ?_
                    cases hF
                    exact z_iret C e1 e2 dX11_worked_161
                  · have hF := (if_pos c14).symm.trans hF
                    refine z_lload_n (q := 151) C dX11_worked_150 2 rfl rfl rfl ?_
                    refine z_lconst (q := 152) (v := 0) C dX11_worked_151 rfl rfl ?_
                    refine z_lcmp (q := 153) C dX11_worked_152 rfl ?_
                    refine z_if_eq (tgt := 160) (q := 156) C dX11_worked_153 (by decide) rfl (fun c15 => ?_) (fun c15 => ?_)
                    · have hF := (if_pos c15).symm.trans hF
                      refine z_iconst (q := 161) C dX11_worked_160 rfl ?_
                      cases hF
                      exact z_iret C e1 e2 dX11_worked_161
                    · have hF := (if_neg c15).symm.trans hF
                      refine z_iconst (q := 157) C dX11_worked_156 rfl ?_
                      refine z_goto (q := 161) C dX11_worked_157 (by decide) ?_
                      cases hF
                      exact z_iret C e1 e2 dX11_worked_161
                · have hF := (if_neg c13).symm.trans hF
                  by_cases c16 : zw a0 = 10
                  · have hF := (if_pos c16).symm.trans hF
                    refine z_tableIn (off := 125) (tgt := 126) C c16 dX11_worked_1 (by decide) (by decide) (by decide) (by decide) ?_
                    refine z_lload_n (q := 127) C dX11_worked_126 1 rfl rfl rfl ?_
                    refine z_lconst (q := 128) (v := 0) C dX11_worked_127 rfl rfl ?_
                    refine z_lcmp (q := 129) C dX11_worked_128 rfl ?_
                    refine z_if_eq (tgt := 142) (q := 132) C dX11_worked_129 (by decide) rfl (fun c17 => ?_) (fun c17 => ?_)
                    · have hF := (if_pos c17).symm.trans hF
                      refine z_iconst (q := 143) C dX11_worked_142 rfl ?_
                      cases hF
                      exact z_iret C e1 e2 dX11_worked_143
                    · have hF := (if_neg c17).symm.trans hF
                      refine z_lload_n (q := 133) C dX11_worked_132 2 rfl rfl rfl ?_
                      refine z_lconst (q := 134) (v := 0) C dX11_worked_133 rfl rfl ?_
                      refine z_lcmp (q := 135) C dX11_worked_134 rfl ?_
                      refine z_if_eq (tgt := 142) (q := 138) C dX11_worked_135 (by decide) rfl (fun c18 => ?_) (fun c18 => ?_)
                      · have hF := (if_pos c18).symm.trans hF
                        refine z_iconst (q := 143) C dX11_worked_142 rfl ?_
                        cases hF
                        exact z_iret C e1 e2 dX11_worked_143
                      · have hF := (if_neg c18).symm.trans hF
                        refine z_iconst (q := 139) C dX11_worked_138 rfl ?_
                        refine z_goto (q := 143) C dX11_worked_139 (by decide) ?_
                        cases hF
                        exact z_iret C e1 e2 dX11_worked_143
                  · have hF := (if_neg c16).symm.trans hF
                    refine z_tableOut (tgt := 144) C dX11_worked_1 (by omega) (by decide) ?_
                    refine z_lload_n (q := 145) C dX11_worked_144 1 rfl rfl rfl ?_
                    refine z_lconst (q := 146) (v := 0) C dX11_worked_145 rfl rfl ?_
                    refine z_lcmp (q := 147) C dX11_worked_146 rfl ?_
                    refine z_if_ne (tgt := 156) (q := 150) C dX11_worked_147 (by decide) rfl (fun c19 => ?_) (fun c19 => ?_)
                    · have hF := (if_neg c19).symm.trans hF
                      refine z_iconst (q := 157) C dX11_worked_156 rfl ?_
                      refine z_goto (q := 161) C dX11_worked_157 (by decide) ?_
                      cases hF
                      exact z_iret C e1 e2 dX11_worked_161
                    · have hF := (if_pos c19).symm.trans hF
                      refine z_lload_n (q := 151) C dX11_worked_150 2 rfl rfl rfl ?_
                      refine z_lconst (q := 152) (v := 0) C dX11_worked_151 rfl rfl ?_
                      refine z_lcmp (q := 153) C dX11_worked_152 rfl ?_
                      refine z_if_eq (tgt := 160) (q := 156) C dX11_worked_153 (by decide) rfl (fun c20 => ?_) (fun c20 => ?_)
                      · have hF := (if_pos c20).symm.trans hF
                        refine z_iconst (q := 161) C dX11_worked_160 rfl ?_
                        cases hF
                        exact z_iret C e1 e2 dX11_worked_161
                      · have hF := (if_neg c20).symm.trans hF
                        refine z_iconst (q := 157) C dX11_worked_156 rfl ?_
                        refine z_goto (q := 161) C dX11_worked_157 (by decide) ?_
                        cases hF
                        exact z_iret C e1 e2 dX11_worked_161
set_option maxRecDepth 20000 in
set_option maxHeartbeats 4000000 in
theorem M_fX11_worked {l : Launch} {D : va_G} {cy : ClassId} {α : Nat → Nat} {n : Nat} {σ : zSg} {d : Nat} (hd : 3 ≤ d) {a0 : Int} {a1 : Int} {a3 : Int} {h : zH} {r : Int} (hF : fX11_worked a0 a1 a3 = some r) : zMet l yX11_worked cX11_worked 5 (some .int) (zrm d) D cy α n σ [.int (zi a0), .long (zl a1), .long (zl a3)] h (some (.int (zi r))) h := by
  obtain ⟨d, rfl⟩ : ∃ e, d = e + 1 := ⟨d - 1, by omega⟩
  refine z_met (by decide +kernel) (Nat.le_of_ble_eq_true rfl) (fun κ k1 k2 k3 k4 k5 k6 k7 k8 k9 C => ?_)
  subst k1 k3 k4 k5 k6 k7
  exact J_fX11_worked C k2 hd k8 k9 hF
set_option maxRecDepth 20000 in
set_option maxHeartbeats 4000000 in
theorem J_fX11_workOut_c45 {κ : zT} (C : zC κ RX11 cX11_workOut 6 (some .int)) {d : Nat} (hR : zR κ = zrm (d + 1)) (hd : 4 ≤ d + 1) {N : Nat} {r : Int × zH} (e1 : zrv κ = some (.int (zi r.1))) (e2 : zhf κ = r.2) {K12 : Int → Int → Int → Int → zH → Option (Int × zH)} (hK12 : ∀ (l1 : Int) (l3 : Int) (l4 : Int) (l5 : Int) (h : zH), K12 l1 l3 l4 l5 h = some r → Z κ h 12 [(0, .ref (zα κ 14)), (1, .int (zi l1)), (3, .int (zi l3)), (4, .int (zi l4)), (5, .int (zi l5))] []) (l1 : Int) (l3 : Int) (l4 : Int) (l5 : Int) (h : zH) (hF : fX11_workOut_c45 N K12 l1 l3 l4 l5 h = some r) : Z κ h 45 [(0, .ref (zα κ 14)), (1, .int (zi l1)), (3, .int (zi l3)), (4, .int (zi l4)), (5, .int (zi l5))] [] := by
  unfold fX11_workOut_c45 at hF
  refine z_aload_n (q := 46) C dX11_workOut_45 0 rfl rfl rfl ?_
  refine z_getf (q := 49) C clX11 (zon C zo_14) kd_14 (k := 16) (by decide) q_1118 rfl (zfv_r kd_14 rfl fr_14_16) dX11_workOut_46 rfl ?_
  refine z_iload (q := 51) C dX11_workOut_49 3 rfl rfl ?_
  refine z_aload_n (q := 52) C dX11_workOut_51 0 rfl rfl rfl ?_
  refine z_getf (q := 55) C clX11 (zon C zo_14) kd_14 (k := 6) (by decide) q_1108 rfl (zfv_r kd_14 rfl fr_14_6) dX11_workOut_52 rfl ?_
  refine z_iload (q := 57) C dX11_workOut_55 4 rfl rfl ?_
  obtain ⟨g1, hF⟩ := zif_none hF
  refine z_iald (q := 58) C (zon C zo_50) kd_50 g1.1 (by rw [ln_50]; exact g1.2) dX11_workOut_57 rfl ?_
  refine z_if_ne (tgt := 71) (q := 61) C dX11_workOut_58 (by decide) rfl (fun c2 => ?_) (fun c2 => ?_)
  · have hF := (if_neg c2).symm.trans hF
    refine z_aload_n (q := 72) C dX11_workOut_71 0 rfl rfl rfl ?_
    refine z_getf (q := 75) C clX11 (zon C zo_14) kd_14 (k := 15) (by decide) q_1117 rfl (zfv_r kd_14 rfl fr_14_15) dX11_workOut_72 rfl ?_
    refine z_aload_n (q := 76) C dX11_workOut_75 0 rfl rfl rfl ?_
    refine z_getf (q := 79) C clX11 (zon C zo_14) kd_14 (k := 7) (by decide) q_1109 rfl (zfv_r kd_14 rfl fr_14_7) dX11_workOut_76 rfl ?_
    refine z_iload (q := 81) C dX11_workOut_79 4 rfl rfl ?_
    obtain ⟨g6, hF⟩ := zif_none hF
    refine z_iald (q := 82) C (zon C zo_51) kd_51 g6.1 (by rw [ln_51]; exact g6.2) dX11_workOut_81 rfl ?_
    obtain ⟨g7, hF⟩ := zif_none hF
    refine z_iald (q := 83) C (zon C zo_57) kd_57 g7.1 (by rw [ln_57]; exact g7.2) dX11_workOut_82 rfl ?_
    obtain ⟨g8, hF⟩ := zif_none hF
    obtain ⟨h9, eh9, hF⟩ := zlet_e hF
    refine z_iast (q := 84) C (zon C zo_58) kd_58 g8.1 (by rw [ln_58]; exact g8.2) dX11_workOut_83 rfl eh9 ?_
    refine z_iinc (q := 87) (x := l4) C dX11_workOut_84 (j := 3) rfl (by decide) rfl rfl ?_
    refine z_goto (q := 165) C dX11_workOut_87 (by decide) ?_
    refine z_iinc (q := 168) (x := l5) C dX11_workOut_165 (j := 4) rfl (by decide) rfl rfl ?_
    refine z_goto (q := 12) C dX11_workOut_168 (by decide) ?_
    exact z_sub (hK12 _ _ _ _ _ hF) [2, 3, 4, 1, 0] rfl
  · have hF := (if_pos c2).symm.trans hF
    refine z_aload_n (q := 62) C dX11_workOut_61 0 rfl rfl rfl ?_
    refine z_getf (q := 65) C clX11 (zon C zo_14) kd_14 (k := 7) (by decide) q_1109 rfl (zfv_r kd_14 rfl fr_14_7) dX11_workOut_62 rfl ?_
    refine z_iload (q := 67) C dX11_workOut_65 4 rfl rfl ?_
    obtain ⟨g3, hF⟩ := zif_none hF
    refine z_iald (q := 68) C (zon C zo_51) kd_51 g3.1 (by rw [ln_51]; exact g3.2) dX11_workOut_67 rfl ?_
    refine z_goto (q := 83) C dX11_workOut_68 (by decide) ?_
    obtain ⟨g4, hF⟩ := zif_none hF
    obtain ⟨h5, eh5, hF⟩ := zlet_e hF
    refine z_iast (q := 84) C (zon C zo_58) kd_58 g4.1 (by rw [ln_58]; exact g4.2) dX11_workOut_83 rfl eh5 ?_
    refine z_iinc (q := 87) (x := l4) C dX11_workOut_84 (j := 3) rfl (by decide) rfl rfl ?_
    refine z_goto (q := 165) C dX11_workOut_87 (by decide) ?_
    refine z_iinc (q := 168) (x := l5) C dX11_workOut_165 (j := 4) rfl (by decide) rfl rfl ?_
    refine z_goto (q := 12) C dX11_workOut_168 (by decide) ?_
    exact z_sub (hK12 _ _ _ _ _ hF) [2, 3, 4, 1, 0] rfl
set_option maxRecDepth 20000 in
set_option maxHeartbeats 4000000 in
theorem J_fX11_workOut_c12b {κ : zT} (C : zC κ RX11 cX11_workOut 6 (some .int)) {d : Nat} (hR : zR κ = zrm (d + 1)) (hd : 4 ≤ d + 1) {N : Nat} {r : Int × zH} (e1 : zrv κ = some (.int (zi r.1))) (e2 : zhf κ = r.2) {K12 : Int → Int → Int → Int → zH → Option (Int × zH)} (hK12 : ∀ (l1 : Int) (l3 : Int) (l4 : Int) (l5 : Int) (h : zH), K12 l1 l3 l4 l5 h = some r → Z κ h 12 [(0, .ref (zα κ 14)), (1, .int (zi l1)), (3, .int (zi l3)), (4, .int (zi l4)), (5, .int (zi l5))] []) (l1 : Int) (l3 : Int) (l4 : Int) (l5 : Int) (h : zH) (hF : fX11_workOut_c12b N K12 l1 l3 l4 l5 h = some r) : Z κ h 12 [(0, .ref (zα κ 14)), (1, .int (zi l1)), (3, .int (zi l3)), (4, .int (zi l4)), (5, .int (zi l5))] [] := by
  unfold fX11_workOut_c12b at hF
  refine z_iload (q := 14) C dX11_workOut_12 4 rfl rfl ?_
  refine z_sipush (q := 17) C dX11_workOut_14 sp_520 rfl ?_
  refine z_iload_n (q := 18) C dX11_workOut_17 1 rfl rfl rfl ?_
  refine z_imul (q := 19) C dX11_workOut_18 rfl ?_
  refine z_iload_n (q := 20) C dX11_workOut_19 2 rfl rfl rfl ?_
  refine z_iadd (q := 21) C dX11_workOut_20 rfl ?_
  refine z_icmp_ge (tgt := 171) (q := 24) C dX11_workOut_21 (by decide) rfl (fun c1 => ?_) (fun c1 => ?_)
  · have hF := (if_pos c1).symm.trans hF
    refine z_aload_n (q := 172) C dX11_workOut_171 0 rfl rfl rfl ?_
    refine z_getf (q := 175) C clX11 (zon C zo_14) kd_14 (k := 16) (by decide) q_1118 rfl (zfv_r kd_14 rfl fr_14_16) dX11_workOut_172 rfl ?_
    refine z_iconst (q := 176) C dX11_workOut_175 rfl ?_
    refine z_ialdc (q := 177) (j := 0) C (zon C zo_58) kd_58 zwk_0 (by rw [ln_58]; decide) dX11_workOut_176 rfl ?_
    cases hF
    exact z_iret C e1 e2 dX11_workOut_177
  · have hF := (if_neg c1).symm.trans hF
    refine z_aload_n (q := 25) C dX11_workOut_24 0 rfl rfl rfl ?_
    refine z_getf (q := 28) C clX11 (zon C zo_14) kd_14 (k := 6) (by decide) q_1108 rfl (zfv_r kd_14 rfl fr_14_6) dX11_workOut_25 rfl ?_
    refine z_iload (q := 30) C dX11_workOut_28 4 rfl rfl ?_
    obtain ⟨g2, hF⟩ := zif_none hF
    refine z_iald (q := 31) C (zon C zo_50) kd_50 g2.1 (by rw [ln_50]; exact g2.2) dX11_workOut_30 rfl ?_
    refine z_if_eq (tgt := 45) (q := 34) C dX11_workOut_31 (by decide) rfl (fun c3 => ?_) (fun c3 => ?_)
    · have hF := (if_pos c3).symm.trans hF
      exact z_sub (J_fX11_workOut_c45 C hR hd e1 e2 hK12 _ _ _ _ _ hF) [0, 1, 2, 3, 4] rfl
    · have hF := (if_neg c3).symm.trans hF
      refine z_aload_n (q := 35) C dX11_workOut_34 0 rfl rfl rfl ?_
      refine z_getf (q := 38) C clX11 (zon C zo_14) kd_14 (k := 6) (by decide) q_1108 rfl (zfv_r kd_14 rfl fr_14_6) dX11_workOut_35 rfl ?_
      refine z_iload (q := 40) C dX11_workOut_38 4 rfl rfl ?_
      obtain ⟨g4, hF⟩ := zif_none hF
      refine z_iald (q := 41) C (zon C zo_50) kd_50 g4.1 (by rw [ln_50]; exact g4.2) dX11_workOut_40 rfl ?_
      refine z_iconst (q := 42) C dX11_workOut_41 rfl ?_
      refine z_icmp_ne (tgt := 90) (q := 45) C dX11_workOut_42 (by decide) rfl (fun c5 => ?_) (fun c5 => ?_)
      · have hF := (if_neg c5).symm.trans hF
        refine z_aload_n (q := 91) C dX11_workOut_90 0 rfl rfl rfl ?_
        refine z_getf (q := 94) C clX11 (zon C zo_14) kd_14 (k := 6) (by decide) q_1108 rfl (zfv_r kd_14 rfl fr_14_6) dX11_workOut_91 rfl ?_
        refine z_iload (q := 96) C dX11_workOut_94 4 rfl rfl ?_
        obtain ⟨g6, hF⟩ := zif_none hF
        refine z_iald (q := 97) C (zon C zo_50) kd_50 g6.1 (by rw [ln_50]; exact g6.2) dX11_workOut_96 rfl ?_
        refine z_bipush (q := 99) C dX11_workOut_97 bp_9 rfl ?_
        refine z_icmp_ne (tgt := 125) (q := 102) C dX11_workOut_99 (by decide) rfl (fun c7 => ?_) (fun c7 => ?_)
        · have hF := (if_neg c7).symm.trans hF
          refine z_iinc (q := 128) (x := l4) C dX11_workOut_125 (j := 3) rfl (by decide) rfl rfl ?_
          refine z_aload_n (q := 129) C dX11_workOut_128 1 rfl rfl rfl ?_
          refine z_getf (q := 132) C clX11 (zon C zo_14) kd_14 (k := 16) (by decide) q_1118 rfl (zfv_r kd_14 rfl fr_14_16) dX11_workOut_129 rfl ?_
          refine z_iload (q := 134) C dX11_workOut_132 0 rfl rfl ?_
          refine z_iconst (q := 135) C dX11_workOut_134 rfl ?_
          refine z_isub (q := 136) C dX11_workOut_135 rfl ?_
          refine z_aload_n (q := 137) C dX11_workOut_136 1 rfl rfl rfl ?_
          refine z_getf (q := 140) C clX11 (zon C zo_14) kd_14 (k := 6) (by decide) q_1108 rfl (zfv_r kd_14 rfl fr_14_6) dX11_workOut_137 rfl ?_
          refine z_iload (q := 142) C dX11_workOut_140 4 rfl rfl ?_
          obtain ⟨g11, hF⟩ := zif_none hF
          refine z_iald (q := 143) C (zon C zo_50) kd_50 g11.1 (by rw [ln_50]; exact g11.2) dX11_workOut_142 rfl ?_
          refine z_aload_n (q := 144) C dX11_workOut_143 1 rfl rfl rfl ?_
          refine z_getf (q := 147) C clX11 (zon C zo_14) kd_14 (k := 16) (by decide) q_1118 rfl (zfv_r kd_14 rfl fr_14_16) dX11_workOut_144 rfl ?_
          refine z_iload (q := 149) C dX11_workOut_147 0 rfl rfl ?_
          refine z_iconst (q := 150) C dX11_workOut_149 rfl ?_
          refine z_isub (q := 151) C dX11_workOut_150 rfl ?_
          obtain ⟨g12, hF⟩ := zif_none hF
          refine z_iald (q := 152) C (zon C zo_58) kd_58 g12.1 (by rw [ln_58]; exact g12.2) dX11_workOut_151 rfl ?_
          refine z_i2l (q := 153) C dX11_workOut_152 rfl ?_
          refine z_aload_n (q := 154) C dX11_workOut_153 1 rfl rfl rfl ?_
          refine z_getf (q := 157) C clX11 (zon C zo_14) kd_14 (k := 16) (by decide) q_1118 rfl (zfv_r kd_14 rfl fr_14_16) dX11_workOut_154 rfl ?_
          refine z_iload (q := 159) C dX11_workOut_157 0 rfl rfl ?_
          obtain ⟨g13, hF⟩ := zif_none hF
          refine z_iald (q := 160) C (zon C zo_58) kd_58 g13.1 (by rw [ln_58]; exact g13.2) dX11_workOut_159 rfl ?_
          refine z_i2l (q := 161) C dX11_workOut_160 rfl ?_
          obtain ⟨v14, ev14, hF⟩ := zb_e hF
          refine z_callS (q := 164) (av := [.int (zi (h 50 (zw l5).toNat)), .long (zl (zw (h 58 (zw ((l4 + (-1)) - 1)).toNat))), .long (zl (zw (h 58 (zw (l4 + (-1))).toNat)))]) (rest := [.int (zi ((l4 + (-1)) - 1)), .ref (zα κ 58)]) (stk2 := [.int (zi v14), .int (zi ((l4 + (-1)) - 1)), .ref (zα κ 58)]) C hR (M_fX11_worked (zlv hd rfl) ev14) mY_X11_worked q_1564 (Nat.le_of_ble_eq_true rfl) dX11_workOut_161 rfl rfl rfl ?_
          obtain ⟨g15, hF⟩ := zif_none hF
          obtain ⟨h16, eh16, hF⟩ := zlet_e hF
          refine z_iast (q := 165) C (zon C zo_58) kd_58 g15.1 (by rw [ln_58]; exact g15.2) dX11_workOut_164 rfl eh16 ?_
          refine z_iinc (q := 168) (x := l5) C dX11_workOut_165 (j := 4) rfl (by decide) rfl rfl ?_
          refine z_goto (q := 12) C dX11_workOut_168 (by decide) ?_
          exact z_sub (hK12 _ _ _ _ _ hF) [2, 3, 4, 1, 0] rfl
        · have hF := (if_pos c7).symm.trans hF
          refine z_aload_n (q := 103) C dX11_workOut_102 0 rfl rfl rfl ?_
          refine z_getf (q := 106) C clX11 (zon C zo_14) kd_14 (k := 16) (by decide) q_1118 rfl (zfv_r kd_14 rfl fr_14_16) dX11_workOut_103 rfl ?_
          refine z_iload (q := 108) C dX11_workOut_106 3 rfl rfl ?_
          refine z_iconst (q := 109) C dX11_workOut_108 rfl ?_
          refine z_isub (q := 110) C dX11_workOut_109 rfl ?_
          refine z_iconst (q := 111) C dX11_workOut_110 rfl ?_
          refine z_aload_n (q := 112) C dX11_workOut_111 0 rfl rfl rfl ?_
          refine z_getf (q := 115) C clX11 (zon C zo_14) kd_14 (k := 16) (by decide) q_1118 rfl (zfv_r kd_14 rfl fr_14_16) dX11_workOut_112 rfl ?_
          refine z_iload (q := 117) C dX11_workOut_115 3 rfl rfl ?_
          refine z_iconst (q := 118) C dX11_workOut_117 rfl ?_
          refine z_isub (q := 119) C dX11_workOut_118 rfl ?_
          obtain ⟨g8, hF⟩ := zif_none hF
          refine z_iald (q := 120) C (zon C zo_58) kd_58 g8.1 (by rw [ln_58]; exact g8.2) dX11_workOut_119 rfl ?_
          refine z_isub (q := 121) C dX11_workOut_120 rfl ?_
          obtain ⟨g9, hF⟩ := zif_none hF
          obtain ⟨h10, eh10, hF⟩ := zlet_e hF
          refine z_iast (q := 122) C (zon C zo_58) kd_58 g9.1 (by rw [ln_58]; exact g9.2) dX11_workOut_121 rfl eh10 ?_
          refine z_goto (q := 165) C dX11_workOut_122 (by decide) ?_
          refine z_iinc (q := 168) (x := l5) C dX11_workOut_165 (j := 4) rfl (by decide) rfl rfl ?_
          refine z_goto (q := 12) C dX11_workOut_168 (by decide) ?_
          exact z_sub (hK12 _ _ _ _ _ hF) [1, 2, 3, 4, 0] rfl
      · have hF := (if_pos c5).symm.trans hF
        exact z_sub (J_fX11_workOut_c45 C hR hd e1 e2 hK12 _ _ _ _ _ hF) [0, 1, 2, 3, 4] rfl
set_option maxRecDepth 20000 in
set_option maxHeartbeats 4000000 in
theorem J_fX11_workOut_c12 {κ : zT} (C : zC κ RX11 cX11_workOut 6 (some .int)) {d : Nat} (hR : zR κ = zrm (d + 1)) (hd : 4 ≤ d + 1) {N : Nat} {r : Int × zH} (e1 : zrv κ = some (.int (zi r.1))) (e2 : zhf κ = r.2) : ∀ (k : Nat) (l1 : Int) (l3 : Int) (l4 : Int) (l5 : Int) (h : zH), fX11_workOut_c12 N k l1 l3 l4 l5 h = some r → Z κ h 12 [(0, .ref (zα κ 14)), (1, .int (zi l1)), (3, .int (zi l3)), (4, .int (zi l4)), (5, .int (zi l5))] [] := by
  intro k
  induction k with
  | zero => intro l1 l3 l4 l5 h hF; cases hF
  | succ k ih => intro l1 l3 l4 l5 h hF; exact J_fX11_workOut_c12b C hR hd e1 e2 ih l1 l3 l4 l5 h hF
set_option maxRecDepth 20000 in
set_option maxHeartbeats 4000000 in
theorem J_fX11_workOut {κ : zT} (C : zC κ RX11 cX11_workOut 6 (some .int)) {d : Nat} (hR : zR κ = zrm (d + 1)) (hd : 4 ≤ d + 1) {N : Nat} {r : Int × zH} (e1 : zrv κ = some (.int (zi r.1))) (e2 : zhf κ = r.2) {a1 : Int} {a2 : Int} {a3 : Int} {h : zH} (hF : fX11_workOut N a1 a2 a3 h = some r) : Z κ h 0 [(0, .ref (zα κ 14)), (1, .int (zi a1)), (2, .int (zi a2)), (3, .int (zi a3))] [] := by
  unfold fX11_workOut at hF
  refine z_iconst (q := 1) C dX11_workOut_0 rfl ?_
  refine z_istore (q := 3) C dX11_workOut_1 (by decide) rfl rfl ?_
  refine z_sipush (q := 6) C dX11_workOut_3 sp_520 rfl ?_
  refine z_iload_n (q := 7) C dX11_workOut_6 2 rfl rfl rfl ?_
  refine z_imul (q := 8) C dX11_workOut_7 rfl ?_
  refine z_iload_n (q := 9) C dX11_workOut_8 3 rfl rfl rfl ?_
  refine z_iadd (q := 10) C dX11_workOut_9 rfl ?_
  refine z_istore (q := 12) C dX11_workOut_10 (by decide) rfl rfl ?_
  exact z_sub (J_fX11_workOut_c12 C hR hd e1 e2 N _ _ _ _ _ hF) [2, 3, 5, 1, 0] rfl
set_option maxRecDepth 20000 in
set_option maxHeartbeats 4000000 in
theorem M_fX11_workOut {l : Launch} {D : va_G} {cy : ClassId} {α : Nat → Nat} {n : Nat} {σ : zSg} {d : Nat} (hd : 4 ≤ d) {N : Nat} {a1 : Int} {a2 : Int} {a3 : Int} {h : zH} {r : Int} {g : zH} (hF : fX11_workOut N a1 a2 a3 h = some (r, g)) : zMet l yX11_workOut cX11_workOut 6 (some .int) (zrm d) D cy α n σ [.ref (α 14), .int (zi a1), .int (zi a2), .int (zi a3)] h (some (.int (zi r))) g := by
  obtain ⟨d, rfl⟩ : ∃ e, d = e + 1 := ⟨d - 1, by omega⟩
  refine z_met (by decide +kernel) (Nat.le_of_ble_eq_true rfl) (fun κ k1 k2 k3 k4 k5 k6 k7 k8 k9 C => ?_)
  subst k1 k3 k4 k5 k6 k7
  exact J_fX11_workOut C k2 hd k8 k9 hF
set_option maxRecDepth 20000 in
set_option maxHeartbeats 4000000 in
theorem J_fX11_worthOf_c6b {κ : zT} (C : zC κ RX11 cX11_worthOf 3 (some .int)) {d : Nat} (hR : zR κ = zrm (d + 1)) (hd : 5 ≤ d + 1) {N : Nat} {r : Int × zH} (e1 : zrv κ = some (.int (zi r.1))) (e2 : zhf κ = r.2) {K6 : Int → Int → zH → Option (Int × zH)} (hK6 : ∀ (l1 : Int) (l2 : Int) (h : zH), K6 l1 l2 h = some r → Z κ h 6 [(0, .ref (zα κ 14)), (1, .int (zi l1)), (2, .int (zi l2))] []) (l1 : Int) (l2 : Int) (h : zH) (hF : fX11_worthOf_c6b N K6 l1 l2 h = some r) : Z κ h 6 [(0, .ref (zα κ 14)), (1, .int (zi l1)), (2, .int (zi l2))] [] := by
  unfold fX11_worthOf_c6b at hF
  refine z_iload_n (q := 7) C dX11_worthOf_6 2 rfl rfl rfl ?_
  refine z_sipush (q := 10) C dX11_worthOf_7 sp_140 rfl ?_
  refine z_iload_n (q := 11) C dX11_worthOf_10 1 rfl rfl rfl ?_
  refine z_imul (q := 12) C dX11_worthOf_11 rfl ?_
  refine z_aload_n (q := 13) C dX11_worthOf_12 0 rfl rfl rfl ?_
  refine z_getf (q := 16) C clX11 (zon C zo_14) kd_14 (k := 9) (by decide) q_1111 rfl (zfv_r kd_14 rfl fr_14_9) dX11_worthOf_13 rfl ?_
  refine z_iload_n (q := 17) C dX11_worthOf_16 1 rfl rfl rfl ?_
  obtain ⟨g1, hF⟩ := zif_none hF
  refine z_iald (q := 18) C (zon C zo_53) kd_53 g1.1 (by rw [ln_53]; exact g1.2) dX11_worthOf_17 rfl ?_
  refine z_iadd (q := 19) C dX11_worthOf_18 rfl ?_
  refine z_icmp_ge (tgt := 81) (q := 22) C dX11_worthOf_19 (by decide) rfl (fun c2 => ?_) (fun c2 => ?_)
  · have hF := (if_pos c2).symm.trans hF
    refine z_iconst (q := 82) C dX11_worthOf_81 rfl ?_
    cases hF
    exact z_iret C e1 e2 dX11_worthOf_82
  · have hF := (if_neg c2).symm.trans hF
    refine z_aload_n (q := 23) C dX11_worthOf_22 0 rfl rfl rfl ?_
    refine z_getf (q := 26) C clX11 (zon C zo_14) kd_14 (k := 10) (by decide) q_1112 rfl (zfv_r kd_14 rfl fr_14_10) dX11_worthOf_23 rfl ?_
    refine z_iload_n (q := 27) C dX11_worthOf_26 2 rfl rfl rfl ?_
    obtain ⟨g3, hF⟩ := zif_none hF
    refine z_iald (q := 28) C (zon C zo_54) kd_54 g3.1 (by rw [ln_54]; exact g3.2) dX11_worthOf_27 rfl ?_
    refine z_aload_n (q := 29) C dX11_worthOf_28 0 rfl rfl rfl ?_
    refine z_getf (q := 32) C clX11 (zon C zo_14) kd_14 (k := 11) (by decide) q_1113 rfl (zfv_r kd_14 rfl fr_14_11) dX11_worthOf_29 rfl ?_
    refine z_iload_n (q := 33) C dX11_worthOf_32 2 rfl rfl rfl ?_
    obtain ⟨g4, hF⟩ := zif_none hF
    refine z_iald (q := 34) C (zon C zo_55) kd_55 g4.1 (by rw [ln_55]; exact g4.2) dX11_worthOf_33 rfl ?_
    refine z_icmp_eq (tgt := 57) (q := 37) C dX11_worthOf_34 (by decide) rfl (fun c5 => ?_) (fun c5 => ?_)
    · have hF := (if_pos c5).symm.trans hF
      refine z_aload_n (q := 58) C dX11_worthOf_57 0 rfl rfl rfl ?_
      refine z_iload_n (q := 59) C dX11_worthOf_58 1 rfl rfl rfl ?_
      refine z_aload_n (q := 60) C dX11_worthOf_59 0 rfl rfl rfl ?_
      refine z_getf (q := 63) C clX11 (zon C zo_14) kd_14 (k := 11) (by decide) q_1113 rfl (zfv_r kd_14 rfl fr_14_11) dX11_worthOf_60 rfl ?_
      refine z_iload_n (q := 64) C dX11_worthOf_63 2 rfl rfl rfl ?_
      obtain ⟨g6, hF⟩ := zif_none hF
      refine z_iald (q := 65) C (zon C zo_55) kd_55 g6.1 (by rw [ln_55]; exact g6.2) dX11_worthOf_64 rfl ?_
      refine z_aload_n (q := 66) C dX11_worthOf_65 0 rfl rfl rfl ?_
      refine z_getf (q := 69) C clX11 (zon C zo_14) kd_14 (k := 12) (by decide) q_1114 rfl (zfv_r kd_14 rfl fr_14_12) dX11_worthOf_66 rfl ?_
      refine z_iload_n (q := 70) C dX11_worthOf_69 2 rfl rfl rfl ?_
      obtain ⟨g7, hF⟩ := zif_none hF
      refine z_iald (q := 71) C (zon C zo_56) kd_56 g7.1 (by rw [ln_56]; exact g7.2) dX11_worthOf_70 rfl ?_
      obtain ⟨v9, h8, ev9, hF⟩ := z2_e hF
      refine z_callV (q := 74) (o := 14) (av := [.int (zi l1), .int (zi (h 55 (zw l2).toNat)), .int (zi (h 56 (zw l2).toNat))]) (rest := []) (stk2 := [.int (zi v9)]) C hR clX11 (zon C zo_14) kd_14 (M_fX11_workOut (zlv hd rfl) ev9) mY_X11_workOut q_1560 (Nat.le_of_ble_eq_true rfl) dX11_worthOf_71 rfl rfl rfl ?_
      cases hF
      exact z_iret C e1 e2 dX11_worthOf_74
    · have hF := (if_neg c5).symm.trans hF
      refine z_aload_n (q := 38) C dX11_worthOf_37 0 rfl rfl rfl ?_
      refine z_iload_n (q := 39) C dX11_worthOf_38 1 rfl rfl rfl ?_
      refine z_aload_n (q := 40) C dX11_worthOf_39 0 rfl rfl rfl ?_
      refine z_getf (q := 43) C clX11 (zon C zo_14) kd_14 (k := 10) (by decide) q_1112 rfl (zfv_r kd_14 rfl fr_14_10) dX11_worthOf_40 rfl ?_
      refine z_iload_n (q := 44) C dX11_worthOf_43 2 rfl rfl rfl ?_
      obtain ⟨g10, hF⟩ := zif_none hF
      refine z_iald (q := 45) C (zon C zo_54) kd_54 g10.1 (by rw [ln_54]; exact g10.2) dX11_worthOf_44 rfl ?_
      refine z_aload_n (q := 46) C dX11_worthOf_45 0 rfl rfl rfl ?_
      refine z_getf (q := 49) C clX11 (zon C zo_14) kd_14 (k := 11) (by decide) q_1113 rfl (zfv_r kd_14 rfl fr_14_11) dX11_worthOf_46 rfl ?_
      refine z_iload_n (q := 50) C dX11_worthOf_49 2 rfl rfl rfl ?_
      obtain ⟨g11, hF⟩ := zif_none hF
      refine z_iald (q := 51) C (zon C zo_55) kd_55 g11.1 (by rw [ln_55]; exact g11.2) dX11_worthOf_50 rfl ?_
      obtain ⟨v13, h12, ev13, hF⟩ := z2_e hF
      refine z_callV (q := 54) (o := 14) (av := [.int (zi l1), .int (zi (h 54 (zw l2).toNat)), .int (zi (h 55 (zw l2).toNat))]) (rest := []) (stk2 := [.int (zi v13)]) C hR clX11 (zon C zo_14) kd_14 (M_fX11_workOut (zlv hd rfl) ev13) mY_X11_workOut q_1560 (Nat.le_of_ble_eq_true rfl) dX11_worthOf_51 rfl rfl rfl ?_
      refine z_if_eq (tgt := 75) (q := 57) C dX11_worthOf_54 (by decide) rfl (fun c14 => ?_) (fun c14 => ?_)
      · have hF := (if_pos c14).symm.trans hF
        refine z_iinc (q := 78) (x := l2) C dX11_worthOf_75 (j := 2) rfl (by decide) rfl rfl ?_
        refine z_goto (q := 6) C dX11_worthOf_78 (by decide) ?_
        exact z_sub (hK6 _ _ _ hF) [1, 2, 0] rfl
      · have hF := (if_neg c14).symm.trans hF
        refine z_aload_n (q := 58) C dX11_worthOf_57 0 rfl rfl rfl ?_
        refine z_iload_n (q := 59) C dX11_worthOf_58 1 rfl rfl rfl ?_
        refine z_aload_n (q := 60) C dX11_worthOf_59 0 rfl rfl rfl ?_
        refine z_getf (q := 63) C clX11 (zon C zo_14) kd_14 (k := 11) (by decide) q_1113 rfl (zfv_r kd_14 rfl fr_14_11) dX11_worthOf_60 rfl ?_
        refine z_iload_n (q := 64) C dX11_worthOf_63 2 rfl rfl rfl ?_
        obtain ⟨g15, hF⟩ := zif_none hF
        refine z_iald (q := 65) C (zon C zo_55) kd_55 g15.1 (by rw [ln_55]; exact g15.2) dX11_worthOf_64 rfl ?_
        refine z_aload_n (q := 66) C dX11_worthOf_65 0 rfl rfl rfl ?_
        refine z_getf (q := 69) C clX11 (zon C zo_14) kd_14 (k := 12) (by decide) q_1114 rfl (zfv_r kd_14 rfl fr_14_12) dX11_worthOf_66 rfl ?_
        refine z_iload_n (q := 70) C dX11_worthOf_69 2 rfl rfl rfl ?_
        obtain ⟨g16, hF⟩ := zif_none hF
        refine z_iald (q := 71) C (zon C zo_56) kd_56 g16.1 (by rw [ln_56]; exact g16.2) dX11_worthOf_70 rfl ?_
        obtain ⟨v18, h17, ev18, hF⟩ := z2_e hF
        refine z_callV (q := 74) (o := 14) (av := [.int (zi l1), .int (zi (h12 55 (zw l2).toNat)), .int (zi (h12 56 (zw l2).toNat))]) (rest := []) (stk2 := [.int (zi v18)]) C hR clX11 (zon C zo_14) kd_14 (M_fX11_workOut (zlv hd rfl) ev18) mY_X11_workOut q_1560 (Nat.le_of_ble_eq_true rfl) dX11_worthOf_71 rfl rfl rfl ?_
        cases hF
        exact z_iret C e1 e2 dX11_worthOf_74
set_option maxRecDepth 20000 in
set_option maxHeartbeats 4000000 in
theorem J_fX11_worthOf_c6 {κ : zT} (C : zC κ RX11 cX11_worthOf 3 (some .int)) {d : Nat} (hR : zR κ = zrm (d + 1)) (hd : 5 ≤ d + 1) {N : Nat} {r : Int × zH} (e1 : zrv κ = some (.int (zi r.1))) (e2 : zhf κ = r.2) : ∀ (k : Nat) (l1 : Int) (l2 : Int) (h : zH), fX11_worthOf_c6 N k l1 l2 h = some r → Z κ h 6 [(0, .ref (zα κ 14)), (1, .int (zi l1)), (2, .int (zi l2))] [] := by
  intro k
  induction k with
  | zero => intro l1 l2 h hF; cases hF
  | succ k ih => intro l1 l2 h hF; exact J_fX11_worthOf_c6b C hR hd e1 e2 ih l1 l2 h hF
set_option maxRecDepth 20000 in
set_option maxHeartbeats 4000000 in
theorem J_fX11_worthOf {κ : zT} (C : zC κ RX11 cX11_worthOf 3 (some .int)) {d : Nat} (hR : zR κ = zrm (d + 1)) (hd : 5 ≤ d + 1) {N : Nat} {r : Int × zH} (e1 : zrv κ = some (.int (zi r.1))) (e2 : zhf κ = r.2) {a1 : Int} {h : zH} (hF : fX11_worthOf N a1 h = some r) : Z κ h 0 [(0, .ref (zα κ 14)), (1, .int (zi a1))] [] := by
  unfold fX11_worthOf at hF
  refine z_sipush (q := 3) C dX11_worthOf_0 sp_140 rfl ?_
  refine z_iload_n (q := 4) C dX11_worthOf_3 1 rfl rfl rfl ?_
  refine z_imul (q := 5) C dX11_worthOf_4 rfl ?_
  refine z_istore_n (q := 6) C dX11_worthOf_5 (by decide) rfl rfl rfl ?_
  exact z_sub (J_fX11_worthOf_c6 C hR hd e1 e2 N _ _ _ hF) [1, 2, 0] rfl
set_option maxRecDepth 20000 in
set_option maxHeartbeats 4000000 in
theorem M_fX11_worthOf {l : Launch} {D : va_G} {cy : ClassId} {α : Nat → Nat} {n : Nat} {σ : zSg} {d : Nat} (hd : 5 ≤ d) {N : Nat} {a1 : Int} {h : zH} {r : Int} {g : zH} (hF : fX11_worthOf N a1 h = some (r, g)) : zMet l yX11_worthOf cX11_worthOf 3 (some .int) (zrm d) D cy α n σ [.ref (α 14), .int (zi a1)] h (some (.int (zi r))) g := by
  obtain ⟨d, rfl⟩ : ∃ e, d = e + 1 := ⟨d - 1, by omega⟩
  refine z_met (by decide +kernel) (Nat.le_of_ble_eq_true rfl) (fun κ k1 k2 k3 k4 k5 k6 k7 k8 k9 C => ?_)
  subst k1 k3 k4 k5 k6 k7
  exact J_fX11_worthOf C k2 hd k8 k9 hF
