set_option maxRecDepth 20000 in
set_option maxHeartbeats 4000000 in
theorem J_fX10_share {κ : zT} (C : zC κ RX10 cX10_share 3 (some .int)) {d : Nat} (hR : zR κ = zrm (d + 1)) (hd : 5 ≤ d + 1) {N : Nat} {r : Int × zH} (e1 : zrv κ = some (.int (zi r.1))) (e2 : zhf κ = r.2) {a1 : Int} {a2 : Int} {h : zH} (hF : fX10_share N a1 a2 h = some r) : Z κ h 0 [(0, .ref (zα κ 0)), (1, .int (zi a1)), (2, .int (zi a2))] [] := by
  unfold fX10_share at hF
  refine z_aload_n (q := 1) C dX10_share_0 0 rfl rfl rfl ?_
  refine z_getf (q := 4) C clX10 (zon C zo_0) kd_0 (k := 1) (by decide) q_272 rfl (zfv_r kd_0 rfl fr_0_1) dX10_share_1 rfl ?_
  refine z_iconst (q := 5) C dX10_share_4 rfl ?_
  refine z_iload_n (q := 6) C dX10_share_5 2 rfl rfl rfl ?_
  refine z_callV (q := 9) (o := 2) (av := [.int (zi 1), .int (zi a2)]) (rest := []) (stk2 := [.int (zi (fX1_has 2 1 a2 h))]) C hR clX1 (zon C zo_2) kd_2 (M_fX1_has (zlv hd rfl) zo_2 kd_2 rfl) mY_X1_has q_634 (Nat.le_of_ble_eq_true rfl) dX10_share_6 rfl rfl rfl ?_
  refine z_if_eq (tgt := 39) (q := 12) C dX10_share_9 (by decide) rfl (fun c1 => ?_) (fun c1 => ?_)
  · have hF := (if_pos c1).symm.trans hF
    refine z_ldc (q := 41) C kc_RX10_221 dX10_share_39 rfl ?_
    have hF := Option.some.inj hF
    subst hF
    exact z_iret C e1 e2 dX10_share_41
  · have hF := (if_neg c1).symm.trans hF
    refine z_aload_n (q := 13) C dX10_share_12 0 rfl rfl rfl ?_
    refine z_getf (q := 16) C clX10 (zon C zo_0) kd_0 (k := 1) (by decide) q_272 rfl (zfv_r kd_0 rfl fr_0_1) dX10_share_13 rfl ?_
    refine z_iconst (q := 17) C dX10_share_16 rfl ?_
    refine z_callV (q := 20) (o := 2) (av := [.int (zi 1)]) (rest := []) (stk2 := [.int (zi (fX1_many 2 1 h))]) C hR clX1 (zon C zo_2) kd_2 (M_fX1_many (zlv hd rfl) zo_2 kd_2 rfl) mY_X1_many q_620 (Nat.le_of_ble_eq_true rfl) dX10_share_17 rfl rfl rfl ?_
    refine z_iconst (q := 21) C dX10_share_20 rfl ?_
    refine z_icmp_gt (tgt := 39) (q := 24) C dX10_share_21 (by decide) rfl (fun c2 => ?_) (fun c2 => ?_)
    · have hF := (if_pos c2).symm.trans hF
      refine z_ldc (q := 41) C kc_RX10_221 dX10_share_39 rfl ?_
      have hF := Option.some.inj hF
      subst hF
      exact z_iret C e1 e2 dX10_share_41
    · have hF := (if_neg c2).symm.trans hF
      refine z_aload_n (q := 25) C dX10_share_24 0 rfl rfl rfl ?_
      refine z_getf (q := 28) C clX10 (zon C zo_0) kd_0 (k := 11) (by decide) q_282 rfl (zfv_r kd_0 rfl fr_0_11) dX10_share_25 rfl ?_
      refine z_aload_n (q := 29) C dX10_share_28 0 rfl rfl rfl ?_
      refine z_getf (q := 32) C clX10 (zon C zo_0) kd_0 (k := 1) (by decide) q_272 rfl (zfv_r kd_0 rfl fr_0_1) dX10_share_29 rfl ?_
      refine z_iload_n (q := 33) C dX10_share_32 1 rfl rfl rfl ?_
      obtain ⟨v4, h3, ev4, hF⟩ := z2_e hF
      refine z_callV (q := 36) (o := 12) (av := [.ref (zα κ 2), .int (zi a1)]) (rest := []) (stk2 := [.int (zi v4)]) C hR clX6 (zon C zo_12) kd_12 (M_fX6_choose (zlv hd rfl) zo_2 kd_2 ev4) mY_X6_choose q_932 (Nat.le_of_ble_eq_true rfl) dX10_share_33 rfl rfl rfl ?_
      refine z_if_ne (tgt := 42) (q := 39) C dX10_share_36 (by decide) rfl (fun c5 => ?_) (fun c5 => ?_)
      · have hF := (if_neg c5).symm.trans hF
        refine z_aload_n (q := 43) C dX10_share_42 0 rfl rfl rfl ?_
        refine z_getf (q := 46) C clX10 (zon C zo_0) kd_0 (k := 1) (by decide) q_272 rfl (zfv_r kd_0 rfl fr_0_1) dX10_share_43 rfl ?_
        refine z_aload_n (q := 47) C dX10_share_46 0 rfl rfl rfl ?_
        refine z_getf (q := 50) C clX10 (zon C zo_0) kd_0 (k := 11) (by decide) q_282 rfl (zfv_r kd_0 rfl fr_0_11) dX10_share_47 rfl ?_
        refine z_getf (q := 53) C clX6 (zon C zo_12) kd_12 (k := 0) (by decide) q_232 rfl (zfv_r kd_12 rfl fr_12_0) dX10_share_50 rfl ?_
        refine z_iload_n (q := 54) C dX10_share_53 2 rfl rfl rfl ?_
        obtain ⟨v6, ev6, hF⟩ := zb_e hF
        refine z_callV (q := 57) (o := 2) (av := [.ref (zα κ 44), .int (zi a2)]) (rest := []) (stk2 := [.int (zi v6)]) C hR clX1 (zon C zo_2) kd_2 (M_fX1_portion (zlv hd rfl) zo_2 kd_2 zo_44 kd_44 ev6) mY_X1_portion q_943 (Nat.le_of_ble_eq_true rfl) dX10_share_54 rfl rfl rfl ?_
        have hF := Option.some.inj hF
        subst hF
        exact z_iret C e1 e2 dX10_share_57
      · have hF := (if_pos c5).symm.trans hF
        refine z_ldc (q := 41) C kc_RX10_221 dX10_share_39 rfl ?_
        have hF := Option.some.inj hF
        subst hF
        exact z_iret C e1 e2 dX10_share_41
set_option maxRecDepth 20000 in
set_option maxHeartbeats 4000000 in
theorem M_fX10_share {l : Launch} {D : va_G} {cy : ClassId} {α : Nat → Nat} {n : Nat} {σ : zSg} {d : Nat} (hd : 5 ≤ d) {N : Nat} {a1 : Int} {a2 : Int} {h : zH} {r : Int} {g : zH} (hF : fX10_share N a1 a2 h = some (r, g)) : zMet l yX10_share cX10_share 3 (some .int) (zrm d) D cy α n σ [.ref (α 0), .int (zi a1), .int (zi a2)] h (some (.int (zi r))) g := by
  obtain ⟨d, rfl⟩ : ∃ e, d = e + 1 := ⟨d - 1, by omega⟩
  refine z_met (by decide +kernel) (Nat.le_of_ble_eq_true rfl) (fun κ k1 k2 k3 k4 k5 k6 k7 k8 k9 C => ?_)
  subst k1 k3 k4 k5 k6 k7
  exact J_fX10_share C k2 hd k8 k9 hF
set_option maxRecDepth 20000 in
set_option maxHeartbeats 4000000 in
theorem J_fX6_listForms_c12b {κ : zT} (C : zC κ RX6 cX6_listForms 4 none) {d : Nat} (hR : zR κ = zrm (d + 1)) (hd : 4 ≤ d + 1) {N : Nat} {o1 : Nat} (ho1 : o1 < zN) (hd1 : zkd o1 = 1) {r : zH} (e1 : zrv κ = none) (e2 : zhf κ = r) {K12 : Int → Int → zH → Option zH} (hK12 : ∀ (l2 : Int) (l3 : Int) (h : zH), K12 l2 l3 h = some r → Z κ h 12 [(0, .ref (zα κ 12)), (2, .int (zi l2)), (3, .int (zi l3))] []) (l2 : Int) (l3 : Int) (h : zH) (hF : fX6_listForms_c12b N o1 K12 l2 l3 h = some r) : Z κ h 12 [(0, .ref (zα κ 12)), (2, .int (zi l2)), (3, .int (zi l3))] [] := by
  unfold fX6_listForms_c12b at hF
  refine z_iload_n (q := 13) C dX6_listForms_12 2 rfl rfl rfl ?_
  refine z_bipush (q := 15) C dX6_listForms_13 bp_8 rfl ?_
  refine z_icmp_ge (tgt := 54) (q := 18) C dX6_listForms_15 (by decide) rfl (fun c1 => ?_) (fun c1 => ?_)
  · have hF := (if_pos c1).symm.trans hF
    have hF := Option.some.inj hF
    subst hF
    exact z_vret C e1 e2 dX6_listForms_54
  · have hF := (if_neg c1).symm.trans hF
    refine z_iload_n (q := 19) C dX6_listForms_18 1 rfl rfl rfl ?_
    refine z_iload_n (q := 20) C dX6_listForms_19 2 rfl rfl rfl ?_
    refine z_callSN (q := 23) (av := [.int (zi l2), .int (zi l3)]) (rest := []) (stk2 := [.int (zi (fX10_isIn l2 l3))]) C hR (M_fX10_isIn (zlv hd rfl) rfl) mY_X10_isIn q_941 (Nat.le_of_ble_eq_true rfl) dX6_listForms_20 rfl rfl rfl ?_
    refine z_if_eq (tgt := 48) (q := 26) C dX6_listForms_23 (by decide) rfl (fun c2 => ?_) (fun c2 => ?_)
    · have hF := (if_pos c2).symm.trans hF
      refine z_iinc (q := 51) (x := l3) C dX6_listForms_48 (j := 2) rfl (by decide) rfl rfl ?_
      refine z_goto (q := 12) C dX6_listForms_51 (by decide) ?_
      exact z_sub (hK12 _ _ _ hF) [1, 2, 0] rfl
    · have hF := (if_neg c2).symm.trans hF
      refine z_aload_n (q := 27) C dX6_listForms_26 0 rfl rfl rfl ?_
      refine z_getf (q := 30) C clX6 (zon C zo_12) kd_12 (k := 1) (by decide) q_233 rfl (zfv_r kd_12 rfl fr_12_1) dX6_listForms_27 rfl ?_
      refine z_aload_n (q := 31) C dX6_listForms_30 0 rfl rfl rfl ?_
      refine z_getf (q := 34) C clX6 (zon C zo_12) kd_12 (k := 2) (by decide) q_234 rfl (zfv_i kd_12 rfl) dX6_listForms_31 rfl ?_
      refine z_iload_n (q := 35) C dX6_listForms_34 2 rfl rfl rfl ?_
      obtain ⟨h3, eh3, hF⟩ := zlet_e hF
      refine z_callSN (q := 38) (av := [.ref (zα κ 45), .int (zi (h 12 2)), .int (zi l3)]) (rest := []) (stk2 := []) C hR (M_fX10_put (zlv hd rfl) zo_45 kd_45 eh3.symm) mY_X10_put q_942 (Nat.le_of_ble_eq_true rfl) dX6_listForms_35 rfl rfl rfl ?_
      refine z_aload_n (q := 39) C dX6_listForms_38 0 rfl rfl rfl ?_
      refine z_dup (q := 40) C dX6_listForms_39 rfl rfl ?_
      refine z_getf (q := 43) C clX6 (zon C zo_12) kd_12 (k := 2) (by decide) q_234 rfl (zfv_i kd_12 rfl) dX6_listForms_40 rfl ?_
      refine z_iconst (q := 44) C dX6_listForms_43 rfl ?_
      refine z_iadd (q := 45) C dX6_listForms_44 rfl ?_
      obtain ⟨h4, eh4, hF⟩ := zlet_e hF
      refine z_putf (q := 48) C clX6 (zon C zo_12) kd_12 (k := 2) (x := (h3 12 2) + 1) (by decide) q_234 rfl rfl rfl rfl (((zfv_i kd_12 rfl)).trans (by rw [if_pos rfl])) dX6_listForms_45 rfl eh4 ?_
      refine z_iinc (q := 51) (x := l3) C dX6_listForms_48 (j := 2) rfl (by decide) rfl rfl ?_
      refine z_goto (q := 12) C dX6_listForms_51 (by decide) ?_
      exact z_sub (hK12 _ _ _ hF) [1, 2, 0] rfl
set_option maxRecDepth 20000 in
set_option maxHeartbeats 4000000 in
theorem J_fX6_listForms_c12 {κ : zT} (C : zC κ RX6 cX6_listForms 4 none) {d : Nat} (hR : zR κ = zrm (d + 1)) (hd : 4 ≤ d + 1) {N : Nat} {o1 : Nat} (ho1 : o1 < zN) (hd1 : zkd o1 = 1) {r : zH} (e1 : zrv κ = none) (e2 : zhf κ = r) : ∀ (k : Nat) (l2 : Int) (l3 : Int) (h : zH), fX6_listForms_c12 N o1 k l2 l3 h = some r → Z κ h 12 [(0, .ref (zα κ 12)), (2, .int (zi l2)), (3, .int (zi l3))] [] := by
  intro k
  induction k with
  | zero => intro l2 l3 h hF; cases hF
  | succ k ih => intro l2 l3 h hF; exact J_fX6_listForms_c12b C hR hd ho1 hd1 e1 e2 ih l2 l3 h hF
set_option maxRecDepth 20000 in
set_option maxHeartbeats 4000000 in
theorem J_fX6_listForms {κ : zT} (C : zC κ RX6 cX6_listForms 4 none) {d : Nat} (hR : zR κ = zrm (d + 1)) (hd : 4 ≤ d + 1) {N : Nat} {o1 : Nat} (ho1 : o1 < zN) (hd1 : zkd o1 = 1) {r : zH} (e1 : zrv κ = none) (e2 : zhf κ = r) {h : zH} (hF : fX6_listForms N o1 h = some r) : Z κ h 0 [(0, .ref (zα κ 12)), (1, .ref (zα κ o1))] [] := by
  unfold fX6_listForms at hF
  refine z_aload_n (q := 1) C dX6_listForms_0 1 rfl rfl rfl ?_
  obtain ⟨v1, ev1, hF⟩ := zb_e hF
  refine z_callS (q := 4) (av := [.ref (zα κ o1)]) (rest := []) (stk2 := [.int (zi v1)]) C hR (M_fX6_formsOf (zlv hd rfl) ho1 hd1 ev1) mY_X6_formsOf q_936 (Nat.le_of_ble_eq_true rfl) dX6_listForms_1 rfl rfl rfl ?_
  refine z_istore_n (q := 5) C dX6_listForms_4 (by decide) rfl rfl rfl ?_
  refine z_aload_n (q := 6) C dX6_listForms_5 1 rfl rfl rfl ?_
  refine z_iconst (q := 7) C dX6_listForms_6 rfl ?_
  obtain ⟨h2, eh2, hF⟩ := zlet_e hF
  refine z_putf (q := 10) C clX6 (zon C zo_12) kd_12 (k := 2) (x := 0) (by decide) q_234 rfl rfl rfl rfl (((zfv_i kd_12 rfl)).trans (by rw [if_pos rfl])) dX6_listForms_7 rfl eh2 ?_
  refine z_iconst (q := 11) C dX6_listForms_10 rfl ?_
  refine z_istore_n (q := 12) C dX6_listForms_11 (by decide) rfl rfl rfl ?_
  exact z_sub (J_fX6_listForms_c12 C hR hd ho1 hd1 e1 e2 N _ _ _ hF) [2, 1, 0] rfl
set_option maxRecDepth 20000 in
set_option maxHeartbeats 4000000 in
theorem M_fX6_listForms {l : Launch} {D : va_G} {cy : ClassId} {α : Nat → Nat} {n : Nat} {σ : zSg} {d : Nat} (hd : 4 ≤ d) {N : Nat} {o1 : Nat} (ho1 : o1 < zN) (hd1 : zkd o1 = 1) {h : zH} {g : zH} (hF : fX6_listForms N o1 h = some g) : zMet l yX6_listForms cX6_listForms 4 none (zrm d) D cy α n σ [.ref (α 12), .ref (α o1)] h (none) g := by
  obtain ⟨d, rfl⟩ : ∃ e, d = e + 1 := ⟨d - 1, by omega⟩
  refine z_met (by decide +kernel) (Nat.le_of_ble_eq_true rfl) (fun κ k1 k2 k3 k4 k5 k6 k7 k8 k9 C => ?_)
  subst k1 k3 k4 k5 k6 k7
  exact J_fX6_listForms C k2 hd ho1 hd1 k8 k9 hF
set_option maxRecDepth 20000 in
set_option maxHeartbeats 4000000 in
theorem J_fX6_chooseNth_c17b {κ : zT} (C : zC κ RX6 cX6_chooseNth 7 (some .int)) {d : Nat} (hR : zR κ = zrm (d + 1)) (hd : 3 ≤ d + 1) {N : Nat} {o1 : Nat} (ho1 : o1 < zN) (hd1 : zkd o1 = 1) {r : Int × zH} (e1 : zrv κ = some (.int (zi r.1))) (e2 : zhf κ = r.2) {K17 : Int → Int → Int → Int → zH → Option (Int × zH)} (hK17 : ∀ (l3 : Int) (l4 : Int) (l5 : Int) (l6 : Int) (h : zH), K17 l3 l4 l5 l6 h = some r → Z κ h 17 [(0, .ref (zα κ 12)), (3, .int (zi l3)), (4, .int (zi l4)), (5, .int (zi l5)), (6, .int (zi l6))] []) (l3 : Int) (l4 : Int) (l5 : Int) (l6 : Int) (h : zH) (hF : fX6_chooseNth_c17b N o1 K17 l3 l4 l5 l6 h = some r) : Z κ h 17 [(0, .ref (zα κ 12)), (3, .int (zi l3)), (4, .int (zi l4)), (5, .int (zi l5)), (6, .int (zi l6))] [] := by
  unfold fX6_chooseNth_c17b at hF
  refine z_iload (q := 19) C dX6_chooseNth_17 4 rfl rfl ?_
  refine z_if_lt (tgt := 89) (q := 22) C dX6_chooseNth_19 (by decide) rfl (fun c1 => ?_) (fun c1 => ?_)
  · have hF := (if_pos c1).symm.trans hF
    refine z_iload_n (q := 90) C dX6_chooseNth_89 1 rfl rfl rfl ?_
    have hF := Option.some.inj hF
    subst hF
    exact z_iret C e1 e2 dX6_chooseNth_90
  · have hF := (if_neg c1).symm.trans hF
    refine z_aload_n (q := 23) C dX6_chooseNth_22 0 rfl rfl rfl ?_
    refine z_getf (q := 26) C clX6 (zon C zo_12) kd_12 (k := 2) (by decide) q_234 rfl (zfv_i kd_12 rfl) dX6_chooseNth_23 rfl ?_
    refine z_if_le (tgt := 89) (q := 29) C dX6_chooseNth_26 (by decide) rfl (fun c2 => ?_) (fun c2 => ?_)
    · have hF := (if_pos c2).symm.trans hF
      refine z_iload_n (q := 90) C dX6_chooseNth_89 1 rfl rfl rfl ?_
      have hF := Option.some.inj hF
      subst hF
      exact z_iret C e1 e2 dX6_chooseNth_90
    · have hF := (if_neg c2).symm.trans hF
      refine z_aload_n (q := 30) C dX6_chooseNth_29 0 rfl rfl rfl ?_
      refine z_getf (q := 33) C clX6 (zon C zo_12) kd_12 (k := 0) (by decide) q_231 rfl (zfv_r kd_12 rfl fr_12_0) dX6_chooseNth_30 rfl ?_
      refine z_iload (q := 35) C dX6_chooseNth_33 4 rfl rfl ?_
      refine z_aload_n (q := 36) C dX6_chooseNth_35 0 rfl rfl rfl ?_
      refine z_getf (q := 39) C clX6 (zon C zo_12) kd_12 (k := 1) (by decide) q_233 rfl (zfv_r kd_12 rfl fr_12_1) dX6_chooseNth_36 rfl ?_
      refine z_iload (q := 41) C dX6_chooseNth_39 3 rfl rfl ?_
      refine z_aload_n (q := 42) C dX6_chooseNth_41 0 rfl rfl rfl ?_
      refine z_getf (q := 45) C clX6 (zon C zo_12) kd_12 (k := 2) (by decide) q_234 rfl (zfv_i kd_12 rfl) dX6_chooseNth_42 rfl ?_
      obtain ⟨g3, hF⟩ := zif_none hF
      refine z_irem (q := 46) C g3 dX6_chooseNth_45 rfl ?_
      refine z_callSN (q := 49) (av := [.ref (zα κ 45), .int (zi (zrem l5 (h 12 2)))]) (rest := [.int (zi l6), .ref (zα κ 44)]) (stk2 := [.int (zi (fX10_at 45 (zrem l5 (h 12 2)) h)), .int (zi l6), .ref (zα κ 44)]) C hR (M_fX10_at (zlv hd rfl) zo_45 kd_45 rfl) mY_X10_at q_960 (Nat.le_of_ble_eq_true rfl) dX6_chooseNth_46 rfl rfl rfl ?_
      obtain ⟨h4, eh4, hF⟩ := zlet_e hF
      refine z_callSN (q := 52) (av := [.ref (zα κ 44), .int (zi l6), .int (zi (fX10_at 45 (zrem l5 (h 12 2)) h))]) (rest := []) (stk2 := []) C hR (M_fX10_put (zlv hd rfl) zo_44 kd_44 eh4.symm) mY_X10_put q_942 (Nat.le_of_ble_eq_true rfl) dX6_chooseNth_49 rfl rfl rfl ?_
      refine z_iload_n (q := 53) C dX6_chooseNth_52 1 rfl rfl rfl ?_
      refine z_aload_n (q := 54) C dX6_chooseNth_53 0 rfl rfl rfl ?_
      refine z_getf (q := 57) C clX6 (zon C zo_12) kd_12 (k := 0) (by decide) q_231 rfl (zfv_r kd_12 rfl fr_12_0) dX6_chooseNth_54 rfl ?_
      refine z_iload (q := 59) C dX6_chooseNth_57 4 rfl rfl ?_
      refine z_callSN (q := 62) (av := [.ref (zα κ 44), .int (zi l6)]) (rest := [.int (zi l3)]) (stk2 := [.int (zi (fX10_at 44 l6 h4)), .int (zi l3)]) C hR (M_fX10_at (zlv hd rfl) zo_44 kd_44 rfl) mY_X10_at q_960 (Nat.le_of_ble_eq_true rfl) dX6_chooseNth_59 rfl rfl rfl ?_
      refine z_iload (q := 64) C dX6_chooseNth_62 2 rfl rfl ?_
      refine z_imul (q := 65) C dX6_chooseNth_64 rfl ?_
      refine z_iadd (q := 66) C dX6_chooseNth_65 rfl ?_
      obtain ⟨v5, ev5, hF⟩ := zlet_e hF
      refine z_istoreE_n (q := 67) C ev5 dX6_chooseNth_66 (by decide) rfl rfl rfl ?_
      refine z_iload (q := 69) C dX6_chooseNth_67 2 rfl rfl ?_
      refine z_bipush (q := 71) C dX6_chooseNth_69 bp_10 rfl ?_
      refine z_imul (q := 72) C dX6_chooseNth_71 rfl ?_
      refine z_istore (q := 74) C dX6_chooseNth_72 (by decide) rfl rfl ?_
      refine z_iload (q := 76) C dX6_chooseNth_74 3 rfl rfl ?_
      refine z_aload_n (q := 77) C dX6_chooseNth_76 2 rfl rfl rfl ?_
      refine z_getf (q := 80) C clX6 (zon C zo_12) kd_12 (k := 2) (by decide) q_234 rfl (zfv_i kd_12 rfl) dX6_chooseNth_77 rfl ?_
      obtain ⟨g6, hF⟩ := zif_none hF
      refine z_idiv (q := 81) C g6 dX6_chooseNth_80 rfl ?_
      obtain ⟨v7, ev7, hF⟩ := zlet_e hF
      refine z_istoreE (q := 83) C ev7 dX6_chooseNth_81 (by decide) rfl rfl ?_
      refine z_iinc (q := 86) (x := l6) C dX6_chooseNth_83 (j := 4) rfl (by decide) rfl rfl ?_
      refine z_goto (q := 17) C dX6_chooseNth_86 (by decide) ?_
      exact z_sub (hK17 _ _ _ _ _ hF) [4, 3, 2, 1, 0] rfl
set_option maxRecDepth 20000 in
set_option maxHeartbeats 4000000 in
theorem J_fX6_chooseNth_c17 {κ : zT} (C : zC κ RX6 cX6_chooseNth 7 (some .int)) {d : Nat} (hR : zR κ = zrm (d + 1)) (hd : 3 ≤ d + 1) {N : Nat} {o1 : Nat} (ho1 : o1 < zN) (hd1 : zkd o1 = 1) {r : Int × zH} (e1 : zrv κ = some (.int (zi r.1))) (e2 : zhf κ = r.2) : ∀ (k : Nat) (l3 : Int) (l4 : Int) (l5 : Int) (l6 : Int) (h : zH), fX6_chooseNth_c17 N o1 k l3 l4 l5 l6 h = some r → Z κ h 17 [(0, .ref (zα κ 12)), (3, .int (zi l3)), (4, .int (zi l4)), (5, .int (zi l5)), (6, .int (zi l6))] [] := by
  intro k
  induction k with
  | zero => intro l3 l4 l5 l6 h hF; cases hF
  | succ k ih => intro l3 l4 l5 l6 h hF; exact J_fX6_chooseNth_c17b C hR hd ho1 hd1 e1 e2 ih l3 l4 l5 l6 h hF
set_option maxRecDepth 20000 in
set_option maxHeartbeats 4000000 in
theorem J_fX6_chooseNth {κ : zT} (C : zC κ RX6 cX6_chooseNth 7 (some .int)) {d : Nat} (hR : zR κ = zrm (d + 1)) (hd : 3 ≤ d + 1) {N : Nat} {o1 : Nat} (ho1 : o1 < zN) (hd1 : zkd o1 = 1) {r : Int × zH} (e1 : zrv κ = some (.int (zi r.1))) (e2 : zhf κ = r.2) {a2 : Int} {h : zH} (hF : fX6_chooseNth N o1 a2 h = some r) : Z κ h 0 [(0, .ref (zα κ 12)), (1, .ref (zα κ o1)), (2, .int (zi a2))] [] := by
  unfold fX6_chooseNth at hF
  refine z_iconst (q := 1) C dX6_chooseNth_0 rfl ?_
  refine z_istore_n (q := 2) C dX6_chooseNth_1 (by decide) rfl rfl rfl ?_
  refine z_iconst (q := 3) C dX6_chooseNth_2 rfl ?_
  refine z_istore (q := 5) C dX6_chooseNth_3 (by decide) rfl rfl ?_
  refine z_iload_n (q := 6) C dX6_chooseNth_5 4 rfl rfl rfl ?_
  refine z_istore (q := 8) C dX6_chooseNth_6 (by decide) rfl rfl ?_
  refine z_aload_n (q := 9) C dX6_chooseNth_8 4 rfl rfl rfl ?_
  refine z_iconst (q := 10) C dX6_chooseNth_9 rfl ?_
  refine z_callV (q := 13) (o := o1) (av := [.int (zi 1)]) (rest := []) (stk2 := [.int (zi (fX1_many o1 1 h))]) C hR clX1 (zon C ho1) hd1 (M_fX1_many (zlv hd rfl) ho1 hd1 rfl) mY_X1_many q_939 (Nat.le_of_ble_eq_true rfl) dX6_chooseNth_10 rfl rfl rfl ?_
  refine z_iconst (q := 14) C dX6_chooseNth_13 rfl ?_
  refine z_isub (q := 15) C dX6_chooseNth_14 rfl ?_
  obtain ⟨v1, ev1, hF⟩ := zlet_e hF
  refine z_istoreE (q := 17) C ev1 dX6_chooseNth_15 (by decide) rfl rfl ?_
  exact z_sub (J_fX6_chooseNth_c17 C hR hd ho1 hd1 e1 e2 N _ _ _ _ _ hF) [4, 3, 2, 1, 0] rfl
set_option maxRecDepth 20000 in
set_option maxHeartbeats 4000000 in
theorem M_fX6_chooseNth {l : Launch} {D : va_G} {cy : ClassId} {α : Nat → Nat} {n : Nat} {σ : zSg} {d : Nat} (hd : 3 ≤ d) {N : Nat} {o1 : Nat} (ho1 : o1 < zN) (hd1 : zkd o1 = 1) {a2 : Int} {h : zH} {r : Int} {g : zH} (hF : fX6_chooseNth N o1 a2 h = some (r, g)) : zMet l yX6_chooseNth cX6_chooseNth 7 (some .int) (zrm d) D cy α n σ [.ref (α 12), .ref (α o1), .int (zi a2)] h (some (.int (zi r))) g := by
  obtain ⟨d, rfl⟩ : ∃ e, d = e + 1 := ⟨d - 1, by omega⟩
  refine z_met (by decide +kernel) (Nat.le_of_ble_eq_true rfl) (fun κ k1 k2 k3 k4 k5 k6 k7 k8 k9 C => ?_)
  subst k1 k3 k4 k5 k6 k7
  exact J_fX6_chooseNth C k2 hd ho1 hd1 k8 k9 hF
set_option maxRecDepth 20000 in
set_option maxHeartbeats 4000000 in
theorem J_fX6_isAtRest_c37b {κ : zT} (C : zC κ RX6 cX6_isAtRest 7 (some .boolean)) {d : Nat} (hR : zR κ = zrm (d + 1)) (hd : 4 ≤ d + 1) {N : Nat} {o1 : Nat} (ho1 : o1 < zN) (hd1 : zkd o1 = 1) {r : Int × zH} (e1 : zrv κ = some (.int (zi r.1))) (e2 : zhf κ = r.2) {K2 : Int → zH → Option (Int × zH)} (hK2 : ∀ (l2 : Int) (h : zH), K2 l2 h = some r → Z κ h 2 [(0, .ref (zα κ 12)), (1, .ref (zα κ o1)), (2, .int (zi l2))] []) {K37 : Int → Int → Int → Int → Int → zH → Option (Int × zH)} (hK37 : ∀ (l2 : Int) (l3 : Int) (l4 : Int) (l5 : Int) (l6 : Int) (h : zH), K37 l2 l3 l4 l5 l6 h = some r → Z κ h 37 [(0, .ref (zα κ 12)), (1, .ref (zα κ o1)), (2, .int (zi l2)), (3, .int (zi l3)), (4, .int (zi l4)), (5, .int (zi l5)), (6, .int (zi l6))] []) (l2 : Int) (l3 : Int) (l4 : Int) (l5 : Int) (l6 : Int) (h : zH) (hF : fX6_isAtRest_c37b N o1 K2 K37 l2 l3 l4 l5 l6 h = some r) : Z κ h 37 [(0, .ref (zα κ 12)), (1, .ref (zα κ o1)), (2, .int (zi l2)), (3, .int (zi l3)), (4, .int (zi l4)), (5, .int (zi l5)), (6, .int (zi l6))] [] := by
  unfold fX6_isAtRest_c37b at hF
  refine z_iload (q := 39) C dX6_isAtRest_37 6 rfl rfl ?_
  refine z_aload_n (q := 40) C dX6_isAtRest_39 0 rfl rfl rfl ?_
  refine z_getf (q := 43) C clX6 (zon C zo_12) kd_12 (k := 2) (by decide) q_234 rfl (zfv_i kd_12 rfl) dX6_isAtRest_40 rfl ?_
  refine z_icmp_ge (tgt := 95) (q := 46) C dX6_isAtRest_43 (by decide) rfl (fun c1 => ?_) (fun c1 => ?_)
  · have hF := (if_pos c1).symm.trans hF
    refine z_aload_n (q := 96) C dX6_isAtRest_95 0 rfl rfl rfl ?_
    refine z_getf (q := 99) C clX6 (zon C zo_12) kd_12 (k := 0) (by decide) q_231 rfl (zfv_r kd_12 rfl fr_12_0) dX6_isAtRest_96 rfl ?_
    refine z_iload_n (q := 100) C dX6_isAtRest_99 2 rfl rfl rfl ?_
    refine z_iload_n (q := 101) C dX6_isAtRest_100 3 rfl rfl rfl ?_
    obtain ⟨h2, eh2, hF⟩ := zlet_e hF
    refine z_callSN (q := 104) (av := [.ref (zα κ 44), .int (zi l2), .int (zi l3)]) (rest := []) (stk2 := []) C hR (M_fX10_put (zlv hd rfl) zo_44 kd_44 eh2.symm) mY_X10_put q_942 (Nat.le_of_ble_eq_true rfl) dX6_isAtRest_101 rfl rfl rfl ?_
    refine z_iload (q := 106) C dX6_isAtRest_104 5 rfl rfl ?_
    refine z_if_eq (tgt := 111) (q := 109) C dX6_isAtRest_106 (by decide) rfl (fun c3 => ?_) (fun c3 => ?_)
    · have hF := (if_pos c3).symm.trans hF
      refine z_iinc (q := 114) (x := l2) C dX6_isAtRest_111 (j := 2) rfl (by decide) rfl rfl ?_
      refine z_goto (q := 2) C dX6_isAtRest_114 (by decide) ?_
      exact z_sub (hK2 _ _ hF) [1, 2, 0] rfl
    · have hF := (if_neg c3).symm.trans hF
      refine z_iconst (q := 110) C dX6_isAtRest_109 rfl ?_
      have hF := Option.some.inj hF
      subst hF
      exact z_zret C (zb01 (Or.inl rfl)) e1 e2 dX6_isAtRest_110
  · have hF := (if_neg c1).symm.trans hF
    refine z_iload (q := 48) C dX6_isAtRest_46 5 rfl rfl ?_
    refine z_if_ne (tgt := 95) (q := 51) C dX6_isAtRest_48 (by decide) rfl (fun c4 => ?_) (fun c4 => ?_)
    · have hF := (if_neg c4).symm.trans hF
      refine z_aload_n (q := 96) C dX6_isAtRest_95 0 rfl rfl rfl ?_
      refine z_getf (q := 99) C clX6 (zon C zo_12) kd_12 (k := 0) (by decide) q_231 rfl (zfv_r kd_12 rfl fr_12_0) dX6_isAtRest_96 rfl ?_
      refine z_iload_n (q := 100) C dX6_isAtRest_99 2 rfl rfl rfl ?_
      refine z_iload_n (q := 101) C dX6_isAtRest_100 3 rfl rfl rfl ?_
      obtain ⟨h8, eh8, hF⟩ := zlet_e hF
      refine z_callSN (q := 104) (av := [.ref (zα κ 44), .int (zi l2), .int (zi l3)]) (rest := []) (stk2 := []) C hR (M_fX10_put (zlv hd rfl) zo_44 kd_44 eh8.symm) mY_X10_put q_942 (Nat.le_of_ble_eq_true rfl) dX6_isAtRest_101 rfl rfl rfl ?_
      refine z_iload (q := 106) C dX6_isAtRest_104 5 rfl rfl ?_
      refine z_if_eq (tgt := 111) (q := 109) C dX6_isAtRest_106 (by decide) rfl (fun c9 => ?_) (fun c9 => ?_)
      · have hF := (if_pos c9).symm.trans hF
        refine z_iinc (q := 114) (x := l2) C dX6_isAtRest_111 (j := 2) rfl (by decide) rfl rfl ?_
        refine z_goto (q := 2) C dX6_isAtRest_114 (by decide) ?_
        exact z_sub (hK2 _ _ hF) [1, 2, 0] rfl
      · have hF := (if_neg c9).symm.trans hF
        refine z_iconst (q := 110) C dX6_isAtRest_109 rfl ?_
        have hF := Option.some.inj hF
        subst hF
        exact z_zret C (zb01 (Or.inl rfl)) e1 e2 dX6_isAtRest_110
    · have hF := (if_pos c4).symm.trans hF
      refine z_aload_n (q := 52) C dX6_isAtRest_51 0 rfl rfl rfl ?_
      refine z_getf (q := 55) C clX6 (zon C zo_12) kd_12 (k := 0) (by decide) q_231 rfl (zfv_r kd_12 rfl fr_12_0) dX6_isAtRest_52 rfl ?_
      refine z_iload_n (q := 56) C dX6_isAtRest_55 2 rfl rfl rfl ?_
      refine z_aload_n (q := 57) C dX6_isAtRest_56 0 rfl rfl rfl ?_
      refine z_getf (q := 60) C clX6 (zon C zo_12) kd_12 (k := 1) (by decide) q_233 rfl (zfv_r kd_12 rfl fr_12_1) dX6_isAtRest_57 rfl ?_
      refine z_iload (q := 62) C dX6_isAtRest_60 6 rfl rfl ?_
      refine z_callSN (q := 65) (av := [.ref (zα κ 45), .int (zi l6)]) (rest := [.int (zi l2), .ref (zα κ 44)]) (stk2 := [.int (zi (fX10_at 45 l6 h)), .int (zi l2), .ref (zα κ 44)]) C hR (M_fX10_at (zlv hd rfl) zo_45 kd_45 rfl) mY_X10_at q_960 (Nat.le_of_ble_eq_true rfl) dX6_isAtRest_62 rfl rfl rfl ?_
      obtain ⟨h5, eh5, hF⟩ := zlet_e hF
      refine z_callSN (q := 68) (av := [.ref (zα κ 44), .int (zi l2), .int (zi (fX10_at 45 l6 h))]) (rest := []) (stk2 := []) C hR (M_fX10_put (zlv hd rfl) zo_44 kd_44 eh5.symm) mY_X10_put q_942 (Nat.le_of_ble_eq_true rfl) dX6_isAtRest_65 rfl rfl rfl ?_
      refine z_aload_n (q := 69) C dX6_isAtRest_68 1 rfl rfl rfl ?_
      refine z_aload_n (q := 70) C dX6_isAtRest_69 0 rfl rfl rfl ?_
      refine z_getf (q := 73) C clX6 (zon C zo_12) kd_12 (k := 0) (by decide) q_231 rfl (zfv_r kd_12 rfl fr_12_0) dX6_isAtRest_70 rfl ?_
      refine z_iload_n (q := 74) C dX6_isAtRest_73 2 rfl rfl rfl ?_
      obtain ⟨v6, ev6, hF⟩ := zb_e hF
      refine z_callV (q := 77) (o := o1) (av := [.ref (zα κ 44), .int (zi l2)]) (rest := []) (stk2 := [.int (zi v6)]) C hR clX1 (zon C ho1) hd1 (M_fX1_portion (zlv hd rfl) ho1 hd1 zo_44 kd_44 ev6) mY_X1_portion q_965 (Nat.le_of_ble_eq_true rfl) dX6_isAtRest_74 rfl rfl rfl ?_
      refine z_iload (q := 79) C dX6_isAtRest_77 4 rfl rfl ?_
      refine z_icmp_le (tgt := 86) (q := 82) C dX6_isAtRest_79 (by decide) rfl (fun c7 => ?_) (fun c7 => ?_)
      · have hF := (if_pos c7).symm.trans hF
        refine z_iconst (q := 87) C dX6_isAtRest_86 rfl ?_
        refine z_istore (q := 89) C dX6_isAtRest_87 (by decide) rfl rfl ?_
        refine z_iinc (q := 92) (x := l6) C dX6_isAtRest_89 (j := 6) rfl (by decide) rfl rfl ?_
        refine z_goto (q := 37) C dX6_isAtRest_92 (by decide) ?_
        exact z_sub (hK37 _ _ _ _ _ _ hF) [2, 3, 4, 5, 6, 1, 0] rfl
      · have hF := (if_neg c7).symm.trans hF
        refine z_iconst (q := 83) C dX6_isAtRest_82 rfl ?_
        refine z_goto (q := 87) C dX6_isAtRest_83 (by decide) ?_
        refine z_istore (q := 89) C dX6_isAtRest_87 (by decide) rfl rfl ?_
        refine z_iinc (q := 92) (x := l6) C dX6_isAtRest_89 (j := 6) rfl (by decide) rfl rfl ?_
        refine z_goto (q := 37) C dX6_isAtRest_92 (by decide) ?_
        exact z_sub (hK37 _ _ _ _ _ _ hF) [2, 3, 4, 5, 6, 1, 0] rfl
set_option maxRecDepth 20000 in
set_option maxHeartbeats 4000000 in
theorem J_fX6_isAtRest_c37 {κ : zT} (C : zC κ RX6 cX6_isAtRest 7 (some .boolean)) {d : Nat} (hR : zR κ = zrm (d + 1)) (hd : 4 ≤ d + 1) {N : Nat} {o1 : Nat} (ho1 : o1 < zN) (hd1 : zkd o1 = 1) {r : Int × zH} (e1 : zrv κ = some (.int (zi r.1))) (e2 : zhf κ = r.2) {K2 : Int → zH → Option (Int × zH)} (hK2 : ∀ (l2 : Int) (h : zH), K2 l2 h = some r → Z κ h 2 [(0, .ref (zα κ 12)), (1, .ref (zα κ o1)), (2, .int (zi l2))] []) : ∀ (k : Nat) (l2 : Int) (l3 : Int) (l4 : Int) (l5 : Int) (l6 : Int) (h : zH), fX6_isAtRest_c37 N o1 K2 k l2 l3 l4 l5 l6 h = some r → Z κ h 37 [(0, .ref (zα κ 12)), (1, .ref (zα κ o1)), (2, .int (zi l2)), (3, .int (zi l3)), (4, .int (zi l4)), (5, .int (zi l5)), (6, .int (zi l6))] [] := by
  intro k
  induction k with
  | zero => intro l2 l3 l4 l5 l6 h hF; cases hF
  | succ k ih => intro l2 l3 l4 l5 l6 h hF; exact J_fX6_isAtRest_c37b C hR hd ho1 hd1 e1 e2 hK2 ih l2 l3 l4 l5 l6 h hF
set_option maxRecDepth 20000 in
set_option maxHeartbeats 4000000 in
theorem J_fX6_isAtRest_c2b {κ : zT} (C : zC κ RX6 cX6_isAtRest 7 (some .boolean)) {d : Nat} (hR : zR κ = zrm (d + 1)) (hd : 4 ≤ d + 1) {N : Nat} {o1 : Nat} (ho1 : o1 < zN) (hd1 : zkd o1 = 1) {r : Int × zH} (e1 : zrv κ = some (.int (zi r.1))) (e2 : zhf κ = r.2) {K2 : Int → zH → Option (Int × zH)} (hK2 : ∀ (l2 : Int) (h : zH), K2 l2 h = some r → Z κ h 2 [(0, .ref (zα κ 12)), (1, .ref (zα κ o1)), (2, .int (zi l2))] []) (l2 : Int) (h : zH) (hF : fX6_isAtRest_c2b N o1 K2 l2 h = some r) : Z κ h 2 [(0, .ref (zα κ 12)), (1, .ref (zα κ o1)), (2, .int (zi l2))] [] := by
  unfold fX6_isAtRest_c2b at hF
  refine z_iload_n (q := 3) C dX6_isAtRest_2 2 rfl rfl rfl ?_
  refine z_aload_n (q := 4) C dX6_isAtRest_3 1 rfl rfl rfl ?_
  refine z_iconst (q := 5) C dX6_isAtRest_4 rfl ?_
  refine z_callV (q := 8) (o := o1) (av := [.int (zi 1)]) (rest := [.int (zi l2)]) (stk2 := [.int (zi (fX1_many o1 1 h)), .int (zi l2)]) C hR clX1 (zon C ho1) hd1 (M_fX1_many (zlv hd rfl) ho1 hd1 rfl) mY_X1_many q_939 (Nat.le_of_ble_eq_true rfl) dX6_isAtRest_5 rfl rfl rfl ?_
  refine z_icmp_ge (tgt := 117) (q := 11) C dX6_isAtRest_8 (by decide) rfl (fun c1 => ?_) (fun c1 => ?_)
  · have hF := (if_pos c1).symm.trans hF
    refine z_iconst (q := 118) C dX6_isAtRest_117 rfl ?_
    have hF := Option.some.inj hF
    subst hF
    exact z_zret C (zb01 (Or.inr rfl)) e1 e2 dX6_isAtRest_118
  · have hF := (if_neg c1).symm.trans hF
    refine z_aload_n (q := 12) C dX6_isAtRest_11 0 rfl rfl rfl ?_
    refine z_getf (q := 15) C clX6 (zon C zo_12) kd_12 (k := 0) (by decide) q_231 rfl (zfv_r kd_12 rfl fr_12_0) dX6_isAtRest_12 rfl ?_
    refine z_iload_n (q := 16) C dX6_isAtRest_15 2 rfl rfl rfl ?_
    refine z_callSN (q := 19) (av := [.ref (zα κ 44), .int (zi l2)]) (rest := []) (stk2 := [.int (zi (fX10_at 44 l2 h))]) C hR (M_fX10_at (zlv hd rfl) zo_44 kd_44 rfl) mY_X10_at q_960 (Nat.le_of_ble_eq_true rfl) dX6_isAtRest_16 rfl rfl rfl ?_
    obtain ⟨v2, ev2, hF⟩ := zlet_e hF
    refine z_istoreE_n (q := 20) C ev2 dX6_isAtRest_19 (by decide) rfl rfl rfl ?_
    refine z_aload_n (q := 21) C dX6_isAtRest_20 2 rfl rfl rfl ?_
    refine z_aload_n (q := 22) C dX6_isAtRest_21 1 rfl rfl rfl ?_
    refine z_getf (q := 25) C clX6 (zon C zo_12) kd_12 (k := 0) (by decide) q_231 rfl (zfv_r kd_12 rfl fr_12_0) dX6_isAtRest_22 rfl ?_
    refine z_iload_n (q := 26) C dX6_isAtRest_25 3 rfl rfl rfl ?_
    obtain ⟨v3, ev3, hF⟩ := zb_e hF
    refine z_callV (q := 29) (o := o1) (av := [.ref (zα κ 44), .int (zi l2)]) (rest := []) (stk2 := [.int (zi v3)]) C hR clX1 (zon C ho1) hd1 (M_fX1_portion (zlv hd rfl) ho1 hd1 zo_44 kd_44 ev3) mY_X1_portion q_965 (Nat.le_of_ble_eq_true rfl) dX6_isAtRest_26 rfl rfl rfl ?_
    refine z_istore (q := 31) C dX6_isAtRest_29 (by decide) rfl rfl ?_
    refine z_iconst (q := 32) C dX6_isAtRest_31 rfl ?_
    refine z_istore (q := 34) C dX6_isAtRest_32 (by decide) rfl rfl ?_
    refine z_iconst (q := 35) C dX6_isAtRest_34 rfl ?_
    refine z_istore (q := 37) C dX6_isAtRest_35 (by decide) rfl rfl ?_
    exact z_sub (J_fX6_isAtRest_c37 C hR hd ho1 hd1 e1 e2 hK2 N _ _ _ _ _ _ hF) [4, 5, 6, 3, 2, 1, 0] rfl
set_option maxRecDepth 20000 in
set_option maxHeartbeats 4000000 in
theorem J_fX6_isAtRest_c2 {κ : zT} (C : zC κ RX6 cX6_isAtRest 7 (some .boolean)) {d : Nat} (hR : zR κ = zrm (d + 1)) (hd : 4 ≤ d + 1) {N : Nat} {o1 : Nat} (ho1 : o1 < zN) (hd1 : zkd o1 = 1) {r : Int × zH} (e1 : zrv κ = some (.int (zi r.1))) (e2 : zhf κ = r.2) : ∀ (k : Nat) (l2 : Int) (h : zH), fX6_isAtRest_c2 N o1 k l2 h = some r → Z κ h 2 [(0, .ref (zα κ 12)), (1, .ref (zα κ o1)), (2, .int (zi l2))] [] := by
  intro k
  induction k with
  | zero => intro l2 h hF; cases hF
  | succ k ih => intro l2 h hF; exact J_fX6_isAtRest_c2b C hR hd ho1 hd1 e1 e2 ih l2 h hF
set_option maxRecDepth 20000 in
set_option maxHeartbeats 4000000 in
theorem J_fX6_isAtRest {κ : zT} (C : zC κ RX6 cX6_isAtRest 7 (some .boolean)) {d : Nat} (hR : zR κ = zrm (d + 1)) (hd : 4 ≤ d + 1) {N : Nat} {o1 : Nat} (ho1 : o1 < zN) (hd1 : zkd o1 = 1) {r : Int × zH} (e1 : zrv κ = some (.int (zi r.1))) (e2 : zhf κ = r.2) {h : zH} (hF : fX6_isAtRest N o1 h = some r) : Z κ h 0 [(0, .ref (zα κ 12)), (1, .ref (zα κ o1))] [] := by
  unfold fX6_isAtRest at hF
  refine z_iconst (q := 1) C dX6_isAtRest_0 rfl ?_
  refine z_istore_n (q := 2) C dX6_isAtRest_1 (by decide) rfl rfl rfl ?_
  exact z_sub (J_fX6_isAtRest_c2 C hR hd ho1 hd1 e1 e2 N _ _ hF) [1, 2, 0] rfl
set_option maxRecDepth 20000 in
set_option maxHeartbeats 4000000 in
theorem M_fX6_isAtRest {l : Launch} {D : va_G} {cy : ClassId} {α : Nat → Nat} {n : Nat} {σ : zSg} {d : Nat} (hd : 4 ≤ d) {N : Nat} {o1 : Nat} (ho1 : o1 < zN) (hd1 : zkd o1 = 1) {h : zH} {r : Int} {g : zH} (hF : fX6_isAtRest N o1 h = some (r, g)) : zMet l yX6_isAtRest cX6_isAtRest 7 (some .boolean) (zrm d) D cy α n σ [.ref (α 12), .ref (α o1)] h (some (.int (zi r))) g := by
  obtain ⟨d, rfl⟩ : ∃ e, d = e + 1 := ⟨d - 1, by omega⟩
  refine z_met (by decide +kernel) (Nat.le_of_ble_eq_true rfl) (fun κ k1 k2 k3 k4 k5 k6 k7 k8 k9 C => ?_)
  subst k1 k3 k4 k5 k6 k7
  exact J_fX6_isAtRest C k2 hd ho1 hd1 k8 k9 hF
set_option maxRecDepth 20000 in
set_option maxHeartbeats 4000000 in
theorem J_fX10_isStake {κ : zT} (C : zC κ RX10 cX10_isStake 1 (some .boolean)) {d : Nat} (hR : zR κ = zrm (d + 1)) (hd : 1 ≤ d + 1) {h : zH} {r : Int} (e1 : zrv κ = some (.int (zi r))) (e2 : zhf κ = h) {a0 : Int} (hF : fX10_isStake a0 = r) : Z κ h 0 [(0, .int (zi a0))] [] := by
  unfold fX10_isStake at hF
  refine z_iload_n (q := 1) C dX10_isStake_0 0 rfl rfl rfl ?_
  refine z_iconst (q := 2) C dX10_isStake_1 rfl ?_
  refine z_icmp_lt (tgt := 15) (q := 5) C dX10_isStake_2 (by decide) rfl (fun c1 => ?_) (fun c1 => ?_)
  · have hF := (if_pos c1).symm.trans hF
    refine z_iconst (q := 16) C dX10_isStake_15 rfl ?_
    subst hF
    exact z_zret C (zb01 (Or.inl rfl)) e1 e2 dX10_isStake_16
  · have hF := (if_neg c1).symm.trans hF
    refine z_iload_n (q := 6) C dX10_isStake_5 0 rfl rfl rfl ?_
    refine z_bipush (q := 8) C dX10_isStake_6 bp_99 rfl ?_
    refine z_icmp_gt (tgt := 15) (q := 11) C dX10_isStake_8 (by decide) rfl (fun c2 => ?_) (fun c2 => ?_)
    · have hF := (if_pos c2).symm.trans hF
      refine z_iconst (q := 16) C dX10_isStake_15 rfl ?_
      subst hF
      exact z_zret C (zb01 (Or.inl rfl)) e1 e2 dX10_isStake_16
    · have hF := (if_neg c2).symm.trans hF
      refine z_iconst (q := 12) C dX10_isStake_11 rfl ?_
      refine z_goto (q := 16) C dX10_isStake_12 (by decide) ?_
      subst hF
      exact z_zret C (zb01 (Or.inr rfl)) e1 e2 dX10_isStake_16
set_option maxRecDepth 20000 in
set_option maxHeartbeats 4000000 in
theorem M_fX10_isStake {l : Launch} {D : va_G} {cy : ClassId} {α : Nat → Nat} {n : Nat} {σ : zSg} {d : Nat} (hd : 1 ≤ d) {a0 : Int} {h : zH} {r : Int} (hF : fX10_isStake a0 = r) : zMet l yX10_isStake cX10_isStake 1 (some .boolean) (zrm d) D cy α n σ [.int (zi a0)] h (some (.int (zi r))) h := by
  obtain ⟨d, rfl⟩ : ∃ e, d = e + 1 := ⟨d - 1, by omega⟩
  refine z_met (by decide +kernel) (Nat.le_of_ble_eq_true rfl) (fun κ k1 k2 k3 k4 k5 k6 k7 k8 k9 C => ?_)
  subst k1 k3 k4 k5 k6 k7
  exact J_fX10_isStake C k2 hd k8 k9 hF
theorem B_fX10_isStake {a0 : Int} : fX10_isStake a0 = 0 ∨ fX10_isStake a0 = 1 := by
  unfold fX10_isStake
  try simp only [zlet, zlet2]
  repeat' (first | exact Or.inl rfl | exact Or.inr rfl | apply zite01)
set_option maxRecDepth 20000 in
set_option maxHeartbeats 4000000 in
theorem J_fX10_divisor_c7b {κ : zT} (C : zC κ RX10 cX10_divisor 6 (some .int)) {d : Nat} (hR : zR κ = zrm (d + 1)) (hd : 1 ≤ d + 1) {N : Nat} {h : zH} {r : Int} (e1 : zrv κ = some (.int (zi r))) (e2 : zhf κ = h) {K7 : Int → Int → Int → Option Int} (hK7 : ∀ (l2 : Int) (l3 : Int) (l4 : Int), K7 l2 l3 l4 = some r → Z κ h 7 [(2, .int (zi l2)), (3, .int (zi l3)), (4, .int (zi l4))] []) (l2 : Int) (l3 : Int) (l4 : Int) (hF : fX10_divisor_c7b N K7 l2 l3 l4 = some r) : Z κ h 7 [(2, .int (zi l2)), (3, .int (zi l3)), (4, .int (zi l4))] [] := by
  unfold fX10_divisor_c7b at hF
  refine z_iload (q := 9) C dX10_divisor_7 2 rfl rfl ?_
  refine z_sipush (q := 12) C dX10_divisor_9 sp_198 rfl ?_
  refine z_icmp_ge (tgt := 35) (q := 15) C dX10_divisor_12 (by decide) rfl (fun c1 => ?_) (fun c1 => ?_)
  · have hF := (if_pos c1).symm.trans hF
    refine z_iload_n (q := 36) C dX10_divisor_35 0 rfl rfl rfl ?_
    have hF := Option.some.inj hF
    subst hF
    exact z_iret C e1 e2 dX10_divisor_36
  · have hF := (if_neg c1).symm.trans hF
    refine z_iload_n (q := 16) C dX10_divisor_15 1 rfl rfl rfl ?_
    refine z_if_le (tgt := 35) (q := 19) C dX10_divisor_16 (by decide) rfl (fun c2 => ?_) (fun c2 => ?_)
    · have hF := (if_pos c2).symm.trans hF
      refine z_iload_n (q := 36) C dX10_divisor_35 0 rfl rfl rfl ?_
      have hF := Option.some.inj hF
      subst hF
      exact z_iret C e1 e2 dX10_divisor_36
    · have hF := (if_neg c2).symm.trans hF
      refine z_iload_n (q := 20) C dX10_divisor_19 0 rfl rfl rfl ?_
      refine z_iload_n (q := 21) C dX10_divisor_20 1 rfl rfl rfl ?_
      obtain ⟨g3, hF⟩ := zif_none hF
      refine z_irem (q := 22) C g3 dX10_divisor_21 rfl ?_
      refine z_istore (q := 24) C dX10_divisor_22 (by decide) rfl rfl ?_
      refine z_iload_n (q := 25) C dX10_divisor_24 2 rfl rfl rfl ?_
      refine z_istore_n (q := 26) C dX10_divisor_25 (by decide) rfl rfl rfl ?_
      refine z_iload (q := 28) C dX10_divisor_26 1 rfl rfl ?_
      refine z_istore_n (q := 29) C dX10_divisor_28 (by decide) rfl rfl rfl ?_
      refine z_iinc (q := 32) (x := l4) C dX10_divisor_29 (j := 3) rfl (by decide) rfl rfl ?_
      refine z_goto (q := 7) C dX10_divisor_32 (by decide) ?_
      exact z_sub (hK7 _ _ _ hF) [2, 1, 0] rfl
set_option maxRecDepth 20000 in
set_option maxHeartbeats 4000000 in
theorem J_fX10_divisor_c7 {κ : zT} (C : zC κ RX10 cX10_divisor 6 (some .int)) {d : Nat} (hR : zR κ = zrm (d + 1)) (hd : 1 ≤ d + 1) {N : Nat} {h : zH} {r : Int} (e1 : zrv κ = some (.int (zi r))) (e2 : zhf κ = h) : ∀ (k : Nat) (l2 : Int) (l3 : Int) (l4 : Int), fX10_divisor_c7 N k l2 l3 l4 = some r → Z κ h 7 [(2, .int (zi l2)), (3, .int (zi l3)), (4, .int (zi l4))] [] := by
  intro k
  induction k with
  | zero => intro l2 l3 l4 hF; cases hF
  | succ k ih => intro l2 l3 l4 hF; exact J_fX10_divisor_c7b C hR hd e1 e2 ih l2 l3 l4 hF
set_option maxRecDepth 20000 in
set_option maxHeartbeats 4000000 in
theorem J_fX10_divisor {κ : zT} (C : zC κ RX10 cX10_divisor 6 (some .int)) {d : Nat} (hR : zR κ = zrm (d + 1)) (hd : 1 ≤ d + 1) {N : Nat} {h : zH} {r : Int} (e1 : zrv κ = some (.int (zi r))) (e2 : zhf κ = h) {a0 : Int} {a1 : Int} (hF : fX10_divisor N a0 a1 = some r) : Z κ h 0 [(0, .int (zi a0)), (1, .int (zi a1))] [] := by
  unfold fX10_divisor at hF
  refine z_iload_n (q := 1) C dX10_divisor_0 0 rfl rfl rfl ?_
  refine z_istore_n (q := 2) C dX10_divisor_1 (by decide) rfl rfl rfl ?_
  refine z_iload_n (q := 3) C dX10_divisor_2 2 rfl rfl rfl ?_
  refine z_istore_n (q := 4) C dX10_divisor_3 (by decide) rfl rfl rfl ?_
  refine z_iconst (q := 5) C dX10_divisor_4 rfl ?_
  refine z_istore (q := 7) C dX10_divisor_5 (by decide) rfl rfl ?_
  exact z_sub (J_fX10_divisor_c7 C hR hd e1 e2 N _ _ _ hF) [2, 1, 0] rfl
set_option maxRecDepth 20000 in
set_option maxHeartbeats 4000000 in
theorem M_fX10_divisor {l : Launch} {D : va_G} {cy : ClassId} {α : Nat → Nat} {n : Nat} {σ : zSg} {d : Nat} (hd : 1 ≤ d) {N : Nat} {a0 : Int} {a1 : Int} {h : zH} {r : Int} (hF : fX10_divisor N a0 a1 = some r) : zMet l yX10_divisor cX10_divisor 6 (some .int) (zrm d) D cy α n σ [.int (zi a0), .int (zi a1)] h (some (.int (zi r))) h := by
  obtain ⟨d, rfl⟩ : ∃ e, d = e + 1 := ⟨d - 1, by omega⟩
  refine z_met (by decide +kernel) (Nat.le_of_ble_eq_true rfl) (fun κ k1 k2 k3 k4 k5 k6 k7 k8 k9 C => ?_)
  subst k1 k3 k4 k5 k6 k7
  exact J_fX10_divisor C k2 hd k8 k9 hF
set_option maxRecDepth 20000 in
set_option maxHeartbeats 4000000 in
theorem J_fX10_bribes_c108 {κ : zT} (C : zC κ RX10 cX10_bribes 9 (some .int)) {d : Nat} (hR : zR κ = zrm (d + 1)) (hd : 2 ≤ d + 1) {N : Nat} {h : zH} {r : Int} (e1 : zrv κ = some (.int (zi r))) (e2 : zhf κ = h) (l4 : Int) (l6 : Int) (s0 : Int) (hF : fX10_bribes_c108 N l4 l6 s0 = some r) : Z κ h 108 [(4, .int (zi l4)), (6, .int (zi l6))] [.int (zi s0)] := by
  unfold fX10_bribes_c108 at hF
  refine z_istore (q := 110) C dX10_bribes_108 (by decide) rfl rfl ?_
  refine z_iload (q := 112) C dX10_bribes_110 2 rfl rfl ?_
  refine z_iload (q := 114) C dX10_bribes_112 0 rfl rfl ?_
  obtain ⟨v1, ev1, hF⟩ := zb_e hF
  refine z_callS (q := 117) (av := [.int (zi l6), .int (zi s0)]) (rest := []) (stk2 := [.int (zi v1)]) C hR (M_fX10_divisor (zlv hd rfl) ev1) mY_X10_divisor q_977 (Nat.le_of_ble_eq_true rfl) dX10_bribes_114 rfl rfl rfl ?_
  refine z_istore (q := 119) C dX10_bribes_117 (by decide) rfl rfl ?_
  refine z_iload (q := 121) C dX10_bribes_119 0 rfl rfl ?_
  refine z_iconst (q := 122) C dX10_bribes_121 rfl ?_
  refine z_icmp_ge (tgt := 129) (q := 125) C dX10_bribes_122 (by decide) rfl (fun c2 => ?_) (fun c2 => ?_)
  · have hF := (if_pos c2).symm.trans hF
    refine z_iload (q := 131) C dX10_bribes_129 2 rfl rfl ?_
    refine z_if_eq (tgt := 140) (q := 134) C dX10_bribes_131 (by decide) rfl (fun c3 => ?_) (fun c3 => ?_)
    · have hF := (if_pos c3).symm.trans hF
      refine z_iload (q := 142) C dX10_bribes_140 3 rfl rfl ?_
      refine z_goto (q := 147) C dX10_bribes_142 (by decide) ?_
      refine z_iload (q := 149) C dX10_bribes_147 0 rfl rfl ?_
      obtain ⟨g4, hF⟩ := zif_none hF
      refine z_idiv (q := 150) C g4 dX10_bribes_149 rfl ?_
      have hF := Option.some.inj hF
      subst hF
      exact z_iret C e1 e2 dX10_bribes_150
    · have hF := (if_neg c3).symm.trans hF
      refine z_iload (q := 136) C dX10_bribes_134 2 rfl rfl ?_
      refine z_iconst (q := 137) C dX10_bribes_136 rfl ?_
      refine z_icmp_ne (tgt := 145) (q := 140) C dX10_bribes_137 (by decide) rfl (fun c5 => ?_) (fun c5 => ?_)
      · have hF := (if_neg c5).symm.trans hF
        refine z_iload (q := 147) C dX10_bribes_145 1 rfl rfl ?_
        refine z_iload (q := 149) C dX10_bribes_147 0 rfl rfl ?_
        obtain ⟨g7, hF⟩ := zif_none hF
        refine z_idiv (q := 150) C g7 dX10_bribes_149 rfl ?_
        have hF := Option.some.inj hF
        subst hF
        exact z_iret C e1 e2 dX10_bribes_150
      · have hF := (if_pos c5).symm.trans hF
        refine z_iload (q := 142) C dX10_bribes_140 3 rfl rfl ?_
        refine z_goto (q := 147) C dX10_bribes_142 (by decide) ?_
        refine z_iload (q := 149) C dX10_bribes_147 0 rfl rfl ?_
        obtain ⟨g6, hF⟩ := zif_none hF
        refine z_idiv (q := 150) C g6 dX10_bribes_149 rfl ?_
        have hF := Option.some.inj hF
        subst hF
        exact z_iret C e1 e2 dX10_bribes_150
  · have hF := (if_neg c2).symm.trans hF
    refine z_iconst (q := 126) C dX10_bribes_125 rfl ?_
    refine z_goto (q := 150) C dX10_bribes_126 (by decide) ?_
    have hF := Option.some.inj hF
    subst hF
    exact z_iret C e1 e2 dX10_bribes_150
set_option maxRecDepth 20000 in
set_option maxHeartbeats 4000000 in
theorem J_fX10_bribes_c75 {κ : zT} (C : zC κ RX10 cX10_bribes 9 (some .int)) {d : Nat} (hR : zR κ = zrm (d + 1)) (hd : 2 ≤ d + 1) {N : Nat} {h : zH} {r : Int} (e1 : zrv κ = some (.int (zi r))) (e2 : zhf κ = h) (l1 : Int) (l2 : Int) (l4 : Int) (l5 : Int) (s0 : Int) (hF : fX10_bribes_c75 N l1 l2 l4 l5 s0 = some r) : Z κ h 75 [(1, .int (zi l1)), (2, .int (zi l2)), (4, .int (zi l4)), (5, .int (zi l5))] [.int (zi s0)] := by
  unfold fX10_bribes_c75 at hF
  refine z_istore (q := 77) C dX10_bribes_75 (by decide) rfl rfl ?_
  refine z_iload (q := 79) C dX10_bribes_77 3 rfl rfl ?_
  refine z_iconst (q := 80) C dX10_bribes_79 rfl ?_
  refine z_icmp_ge (tgt := 96) (q := 83) C dX10_bribes_80 (by decide) rfl (fun c1 => ?_) (fun c1 => ?_)
  · have hF := (if_pos c1).symm.trans hF
    refine z_iload (q := 98) C dX10_bribes_96 4 rfl rfl ?_
    refine z_if_eq (tgt := 107) (q := 101) C dX10_bribes_98 (by decide) rfl (fun c2 => ?_) (fun c2 => ?_)
    · have hF := (if_pos c2).symm.trans hF
      refine z_iconst (q := 108) C dX10_bribes_107 rfl ?_
      exact z_sub (J_fX10_bribes_c108 C hR hd e1 e2 _ _ _ hF) [3, 0] rfl
    · have hF := (if_neg c2).symm.trans hF
      refine z_iload_n (q := 102) C dX10_bribes_101 1 rfl rfl rfl ?_
      refine z_iload_n (q := 103) C dX10_bribes_102 2 rfl rfl rfl ?_
      refine z_iadd (q := 104) C dX10_bribes_103 rfl ?_
      refine z_goto (q := 108) C dX10_bribes_104 (by decide) ?_
      exact z_sub (J_fX10_bribes_c108 C hR hd e1 e2 _ _ _ hF) [3, 0] rfl
  · have hF := (if_neg c1).symm.trans hF
    refine z_iload (q := 85) C dX10_bribes_83 4 rfl rfl ?_
    refine z_if_eq (tgt := 92) (q := 88) C dX10_bribes_85 (by decide) rfl (fun c3 => ?_) (fun c3 => ?_)
    · have hF := (if_pos c3).symm.trans hF
      refine z_iconst (q := 93) C dX10_bribes_92 rfl ?_
      refine z_goto (q := 108) C dX10_bribes_93 (by decide) ?_
      exact z_sub (J_fX10_bribes_c108 C hR hd e1 e2 _ _ _ hF) [3, 0] rfl
    · have hF := (if_neg c3).symm.trans hF
      refine z_iload_n (q := 89) C dX10_bribes_88 2 rfl rfl rfl ?_
      refine z_goto (q := 108) C dX10_bribes_89 (by decide) ?_
      exact z_sub (J_fX10_bribes_c108 C hR hd e1 e2 _ _ _ hF) [3, 0] rfl
set_option maxRecDepth 20000 in
set_option maxHeartbeats 4000000 in
theorem J_fX10_bribes {κ : zT} (C : zC κ RX10 cX10_bribes 9 (some .int)) {d : Nat} (hR : zR κ = zrm (d + 1)) (hd : 2 ≤ d + 1) {N : Nat} {h : zH} {r : Int} (e1 : zrv κ = some (.int (zi r))) (e2 : zhf κ = h) {a1 : Int} {a2 : Int} {a3 : Int} {a4 : Int} (hF : fX10_bribes N a1 a2 a3 a4 = some r) : Z κ h 0 [(0, .ref (zα κ 0)), (1, .int (zi a1)), (2, .int (zi a2)), (3, .int (zi a3)), (4, .int (zi a4))] [] := by
  unfold fX10_bribes at hF
  refine z_iload_n (q := 1) C dX10_bribes_0 1 rfl rfl rfl ?_
  refine z_callS (q := 4) (av := [.int (zi a1)]) (rest := []) (stk2 := [.int (zi (fX10_isStake a1))]) C hR (M_fX10_isStake (zlv hd rfl) rfl) mY_X10_isStake q_974 (Nat.le_of_ble_eq_true rfl) dX10_bribes_1 rfl rfl rfl ?_
  refine z_if_eq (tgt := 32) (q := 7) C dX10_bribes_4 (by decide) rfl (fun c1 => ?_) (fun c1 => ?_)
  · have hF := (if_pos c1).symm.trans hF
    refine z_iconst (q := 33) C dX10_bribes_32 rfl ?_
    have hF := Option.some.inj hF
    subst hF
    exact z_iret C e1 e2 dX10_bribes_33
  · have hF := (if_neg c1).symm.trans hF
    refine z_iload_n (q := 8) C dX10_bribes_7 2 rfl rfl rfl ?_
    refine z_callS (q := 11) (av := [.int (zi a2)]) (rest := []) (stk2 := [.int (zi (fX10_isStake a2))]) C hR (M_fX10_isStake (zlv hd rfl) rfl) mY_X10_isStake q_974 (Nat.le_of_ble_eq_true rfl) dX10_bribes_8 rfl rfl rfl ?_
    refine z_if_eq (tgt := 32) (q := 14) C dX10_bribes_11 (by decide) rfl (fun c2 => ?_) (fun c2 => ?_)
    · have hF := (if_pos c2).symm.trans hF
      refine z_iconst (q := 33) C dX10_bribes_32 rfl ?_
      have hF := Option.some.inj hF
      subst hF
      exact z_iret C e1 e2 dX10_bribes_33
    · have hF := (if_neg c2).symm.trans hF
      refine z_iload_n (q := 15) C dX10_bribes_14 3 rfl rfl rfl ?_
      refine z_callS (q := 18) (av := [.int (zi a3)]) (rest := []) (stk2 := [.int (zi (fX10_isStake a3))]) C hR (M_fX10_isStake (zlv hd rfl) rfl) mY_X10_isStake q_974 (Nat.le_of_ble_eq_true rfl) dX10_bribes_15 rfl rfl rfl ?_
      refine z_if_eq (tgt := 32) (q := 21) C dX10_bribes_18 (by decide) rfl (fun c3 => ?_) (fun c3 => ?_)
      · have hF := (if_pos c3).symm.trans hF
        refine z_iconst (q := 33) C dX10_bribes_32 rfl ?_
        have hF := Option.some.inj hF
        subst hF
        exact z_iret C e1 e2 dX10_bribes_33
      · have hF := (if_neg c3).symm.trans hF
        refine z_iload (q := 23) C dX10_bribes_21 4 rfl rfl ?_
        refine z_if_lt (tgt := 32) (q := 26) C dX10_bribes_23 (by decide) rfl (fun c4 => ?_) (fun c4 => ?_)
        · have hF := (if_pos c4).symm.trans hF
          refine z_iconst (q := 33) C dX10_bribes_32 rfl ?_
          have hF := Option.some.inj hF
          subst hF
          exact z_iret C e1 e2 dX10_bribes_33
        · have hF := (if_neg c4).symm.trans hF
          refine z_iload (q := 28) C dX10_bribes_26 4 rfl rfl ?_
          refine z_iconst (q := 29) C dX10_bribes_28 rfl ?_
          refine z_icmp_le (tgt := 34) (q := 32) C dX10_bribes_29 (by decide) rfl (fun c5 => ?_) (fun c5 => ?_)
          · have hF := (if_pos c5).symm.trans hF
            refine z_iload_n (q := 35) C dX10_bribes_34 3 rfl rfl rfl ?_
            refine z_iload_n (q := 36) C dX10_bribes_35 2 rfl rfl rfl ?_
            refine z_icmp_ge (tgt := 43) (q := 39) C dX10_bribes_36 (by decide) rfl (fun c6 => ?_) (fun c6 => ?_)
            · have hF := (if_pos c6).symm.trans hF
              refine z_iconst (q := 44) C dX10_bribes_43 rfl ?_
              refine z_istore (q := 46) C dX10_bribes_44 (by decide) rfl rfl ?_
              refine z_iload (q := 48) C dX10_bribes_46 5 rfl rfl ?_
              refine z_iconst (q := 49) C dX10_bribes_48 rfl ?_
              refine z_icmp_ge (tgt := 65) (q := 52) C dX10_bribes_49 (by decide) rfl (fun c7 => ?_) (fun c7 => ?_)
              · have hF := (if_pos c7).symm.trans hF
                refine z_iload (q := 67) C dX10_bribes_65 0 rfl rfl ?_
                refine z_if_eq (tgt := 74) (q := 70) C dX10_bribes_67 (by decide) rfl (fun c8 => ?_) (fun c8 => ?_)
                · have hF := (if_pos c8).symm.trans hF
                  refine z_iconst (q := 75) C dX10_bribes_74 rfl ?_
                  exact z_sub (J_fX10_bribes_c75 C hR hd e1 e2 _ _ _ _ _ hF) [2, 3, 5, 0] rfl
                · have hF := (if_neg c8).symm.trans hF
                  refine z_iload_n (q := 71) C dX10_bribes_70 2 rfl rfl rfl ?_
                  refine z_goto (q := 75) C dX10_bribes_71 (by decide) ?_
                  exact z_sub (J_fX10_bribes_c75 C hR hd e1 e2 _ _ _ _ _ hF) [2, 3, 5, 0] rfl
              · have hF := (if_neg c7).symm.trans hF
                refine z_iload (q := 54) C dX10_bribes_52 0 rfl rfl ?_
                refine z_if_eq (tgt := 61) (q := 57) C dX10_bribes_54 (by decide) rfl (fun c9 => ?_) (fun c9 => ?_)
                · have hF := (if_pos c9).symm.trans hF
                  refine z_iconst (q := 62) C dX10_bribes_61 rfl ?_
                  refine z_goto (q := 75) C dX10_bribes_62 (by decide) ?_
                  exact z_sub (J_fX10_bribes_c75 C hR hd e1 e2 _ _ _ _ _ hF) [2, 3, 5, 0] rfl
                · have hF := (if_neg c9).symm.trans hF
                  refine z_iload_n (q := 58) C dX10_bribes_57 4 rfl rfl rfl ?_
                  refine z_goto (q := 75) C dX10_bribes_58 (by decide) ?_
                  exact z_sub (J_fX10_bribes_c75 C hR hd e1 e2 _ _ _ _ _ hF) [2, 3, 5, 0] rfl
            · have hF := (if_neg c6).symm.trans hF
              refine z_iconst (q := 40) C dX10_bribes_39 rfl ?_
              refine z_goto (q := 44) C dX10_bribes_40 (by decide) ?_
              refine z_istore (q := 46) C dX10_bribes_44 (by decide) rfl rfl ?_
              refine z_iload (q := 48) C dX10_bribes_46 5 rfl rfl ?_
              refine z_iconst (q := 49) C dX10_bribes_48 rfl ?_
              refine z_icmp_ge (tgt := 65) (q := 52) C dX10_bribes_49 (by decide) rfl (fun c10 => ?_) (fun c10 => ?_)
              · have hF := (if_pos c10).symm.trans hF
                refine z_iload (q := 67) C dX10_bribes_65 0 rfl rfl ?_
                refine z_if_eq (tgt := 74) (q := 70) C dX10_bribes_67 (by decide) rfl (fun c11 => ?_) (fun c11 => ?_)
                · have hF := (if_pos c11).symm.trans hF
                  refine z_iconst (q := 75) C dX10_bribes_74 rfl ?_
                  exact z_sub (J_fX10_bribes_c75 C hR hd e1 e2 _ _ _ _ _ hF) [2, 3, 5, 0] rfl
                · have hF := (if_neg c11).symm.trans hF
                  refine z_iload_n (q := 71) C dX10_bribes_70 2 rfl rfl rfl ?_
                  refine z_goto (q := 75) C dX10_bribes_71 (by decide) ?_
                  exact z_sub (J_fX10_bribes_c75 C hR hd e1 e2 _ _ _ _ _ hF) [2, 3, 5, 0] rfl
              · have hF := (if_neg c10).symm.trans hF
                refine z_iload (q := 54) C dX10_bribes_52 0 rfl rfl ?_
                refine z_if_eq (tgt := 61) (q := 57) C dX10_bribes_54 (by decide) rfl (fun c12 => ?_) (fun c12 => ?_)
                · have hF := (if_pos c12).symm.trans hF
                  refine z_iconst (q := 62) C dX10_bribes_61 rfl ?_
                  refine z_goto (q := 75) C dX10_bribes_62 (by decide) ?_
                  exact z_sub (J_fX10_bribes_c75 C hR hd e1 e2 _ _ _ _ _ hF) [2, 3, 5, 0] rfl
                · have hF := (if_neg c12).symm.trans hF
                  refine z_iload_n (q := 58) C dX10_bribes_57 4 rfl rfl rfl ?_
                  refine z_goto (q := 75) C dX10_bribes_58 (by decide) ?_
                  exact z_sub (J_fX10_bribes_c75 C hR hd e1 e2 _ _ _ _ _ hF) [2, 3, 5, 0] rfl
          · have hF := (if_neg c5).symm.trans hF
            refine z_iconst (q := 33) C dX10_bribes_32 rfl ?_
            have hF := Option.some.inj hF
            subst hF
            exact z_iret C e1 e2 dX10_bribes_33
set_option maxRecDepth 20000 in
set_option maxHeartbeats 4000000 in
theorem M_fX10_bribes {l : Launch} {D : va_G} {cy : ClassId} {α : Nat → Nat} {n : Nat} {σ : zSg} {d : Nat} (hd : 2 ≤ d) {N : Nat} {a1 : Int} {a2 : Int} {a3 : Int} {a4 : Int} {h : zH} {r : Int} (hF : fX10_bribes N a1 a2 a3 a4 = some r) : zMet l yX10_bribes cX10_bribes 9 (some .int) (zrm d) D cy α n σ [.ref (α 0), .int (zi a1), .int (zi a2), .int (zi a3), .int (zi a4)] h (some (.int (zi r))) h := by
  obtain ⟨d, rfl⟩ : ∃ e, d = e + 1 := ⟨d - 1, by omega⟩
  refine z_met (by decide +kernel) (Nat.le_of_ble_eq_true rfl) (fun κ k1 k2 k3 k4 k5 k6 k7 k8 k9 C => ?_)
  subst k1 k3 k4 k5 k6 k7
  exact J_fX10_bribes C k2 hd k8 k9 hF
set_option maxRecDepth 20000 in
set_option maxHeartbeats 4000000 in
theorem J_fX7_add {κ : zT} (C : zC κ RX7 cX7_add 3 (some .int)) {d : Nat} (hR : zR κ = zrm (d + 1)) (hd : 2 ≤ d + 1) {r : Int × zH} (e1 : zrv κ = some (.int (zi r.1))) (e2 : zhf κ = r.2) {a1 : Int} {a2 : Int} {h : zH} (hF : fX7_add a1 a2 h = r) : Z κ h 0 [(0, .ref (zα κ 13)), (1, .int (zi a1)), (2, .int (zi a2))] [] := by
  unfold fX7_add at hF
  refine z_aload_n (q := 1) C dX7_add_0 0 rfl rfl rfl ?_
  refine z_getf (q := 4) C clX7 (zon C zo_13) kd_13 (k := 0) (by decide) q_257 rfl (zfv_i kd_13 rfl) dX7_add_1 rfl ?_
  refine z_bipush (q := 6) C dX7_add_4 bp_12 rfl ?_
  refine z_icmp_lt (tgt := 11) (q := 9) C dX7_add_6 (by decide) rfl (fun c1 => ?_) (fun c1 => ?_)
  · have hF := (if_pos c1).symm.trans hF
    refine z_aload_n (q := 12) C dX7_add_11 0 rfl rfl rfl ?_
    refine z_getf (q := 15) C clX7 (zon C zo_13) kd_13 (k := 1) (by decide) q_259 rfl (zfv_r kd_13 rfl fr_13_1) dX7_add_12 rfl ?_
    refine z_aload_n (q := 16) C dX7_add_15 0 rfl rfl rfl ?_
    refine z_getf (q := 19) C clX7 (zon C zo_13) kd_13 (k := 0) (by decide) q_257 rfl (zfv_i kd_13 rfl) dX7_add_16 rfl ?_
    refine z_iload_n (q := 20) C dX7_add_19 1 rfl rfl rfl ?_
    obtain ⟨h2, eh2, hF⟩ := zlet_e hF
    refine z_callSN (q := 23) (av := [.ref (zα κ 46), .int (zi (h 13 0)), .int (zi a1)]) (rest := []) (stk2 := []) C hR (M_fX10_put (zlv hd rfl) zo_46 kd_46 eh2.symm) mY_X10_put q_988 (Nat.le_of_ble_eq_true rfl) dX7_add_20 rfl rfl rfl ?_
    refine z_aload_n (q := 24) C dX7_add_23 0 rfl rfl rfl ?_
    refine z_getf (q := 27) C clX7 (zon C zo_13) kd_13 (k := 2) (by decide) q_260 rfl (zfv_r kd_13 rfl fr_13_2) dX7_add_24 rfl ?_
    refine z_aload_n (q := 28) C dX7_add_27 0 rfl rfl rfl ?_
    refine z_getf (q := 31) C clX7 (zon C zo_13) kd_13 (k := 0) (by decide) q_257 rfl (zfv_i kd_13 rfl) dX7_add_28 rfl ?_
    refine z_iload_n (q := 32) C dX7_add_31 2 rfl rfl rfl ?_
    obtain ⟨h3, eh3, hF⟩ := zlet_e hF
    refine z_callSN (q := 35) (av := [.ref (zα κ 47), .int (zi (h2 13 0)), .int (zi a2)]) (rest := []) (stk2 := []) C hR (M_fX10_put (zlv hd rfl) zo_47 kd_47 eh3.symm) mY_X10_put q_988 (Nat.le_of_ble_eq_true rfl) dX7_add_32 rfl rfl rfl ?_
    refine z_aload_n (q := 36) C dX7_add_35 0 rfl rfl rfl ?_
    refine z_dup (q := 37) C dX7_add_36 rfl rfl ?_
    refine z_getf (q := 40) C clX7 (zon C zo_13) kd_13 (k := 0) (by decide) q_257 rfl (zfv_i kd_13 rfl) dX7_add_37 rfl ?_
    refine z_iconst (q := 41) C dX7_add_40 rfl ?_
    refine z_iadd (q := 42) C dX7_add_41 rfl ?_
    obtain ⟨h4, eh4, hF⟩ := zlet_e hF
    refine z_putf (q := 45) C clX7 (zon C zo_13) kd_13 (k := 0) (x := (h3 13 0) + 1) (by decide) q_257 rfl rfl rfl rfl (((zfv_i kd_13 rfl)).trans (by rw [if_pos rfl])) dX7_add_42 rfl eh4 ?_
    refine z_aload_n (q := 46) C dX7_add_45 0 rfl rfl rfl ?_
    refine z_getf (q := 49) C clX7 (zon C zo_13) kd_13 (k := 0) (by decide) q_257 rfl (zfv_i kd_13 rfl) dX7_add_46 rfl ?_
    subst hF
    exact z_iret C e1 e2 dX7_add_49
  · have hF := (if_neg c1).symm.trans hF
    refine z_iconst (q := 10) C dX7_add_9 rfl ?_
    subst hF
    exact z_iret C e1 e2 dX7_add_10
set_option maxRecDepth 20000 in
set_option maxHeartbeats 4000000 in
theorem M_fX7_add {l : Launch} {D : va_G} {cy : ClassId} {α : Nat → Nat} {n : Nat} {σ : zSg} {d : Nat} (hd : 2 ≤ d) {a1 : Int} {a2 : Int} {h : zH} {r : Int} {g : zH} (hF : fX7_add a1 a2 h = (r, g)) : zMet l yX7_add cX7_add 3 (some .int) (zrm d) D cy α n σ [.ref (α 13), .int (zi a1), .int (zi a2)] h (some (.int (zi r))) g := by
  obtain ⟨d, rfl⟩ : ∃ e, d = e + 1 := ⟨d - 1, by omega⟩
  refine z_met (by decide +kernel) (Nat.le_of_ble_eq_true rfl) (fun κ k1 k2 k3 k4 k5 k6 k7 k8 k9 C => ?_)
  subst k1 k3 k4 k5 k6 k7
  exact J_fX7_add C k2 hd k8 k9 hF
set_option maxRecDepth 20000 in
set_option maxHeartbeats 4000000 in
theorem J_fX10_see {κ : zT} (C : zC κ RX10 cX10_see 3 (some .int)) {d : Nat} (hR : zR κ = zrm (d + 1)) (hd : 4 ≤ d + 1) {r : Int × zH} (e1 : zrv κ = some (.int (zi r.1))) (e2 : zhf κ = r.2) {a1 : Int} {a2 : Int} {h : zH} (hF : fX10_see a1 a2 h = r) : Z κ h 0 [(0, .ref (zα κ 0)), (1, .int (zi a1)), (2, .int (zi a2))] [] := by
  unfold fX10_see at hF
  refine z_aload_n (q := 1) C dX10_see_0 0 rfl rfl rfl ?_
  refine z_getf (q := 4) C clX10 (zon C zo_0) kd_0 (k := 1) (by decide) q_272 rfl (zfv_r kd_0 rfl fr_0_1) dX10_see_1 rfl ?_
  refine z_iconst (q := 5) C dX10_see_4 rfl ?_
  refine z_iload_n (q := 6) C dX10_see_5 1 rfl rfl rfl ?_
  refine z_callV (q := 9) (o := 2) (av := [.int (zi 1), .int (zi a1)]) (rest := []) (stk2 := [.int (zi (fX1_has 2 1 a1 h))]) C hR clX1 (zon C zo_2) kd_2 (M_fX1_has (zlv hd rfl) zo_2 kd_2 rfl) mY_X1_has q_634 (Nat.le_of_ble_eq_true rfl) dX10_see_6 rfl rfl rfl ?_
  refine z_if_eq (tgt := 22) (q := 12) C dX10_see_9 (by decide) rfl (fun c1 => ?_) (fun c1 => ?_)
  · have hF := (if_pos c1).symm.trans hF
    refine z_iconst (q := 23) C dX10_see_22 rfl ?_
    subst hF
    exact z_iret C e1 e2 dX10_see_23
  · have hF := (if_neg c1).symm.trans hF
    refine z_iload_n (q := 13) C dX10_see_12 2 rfl rfl rfl ?_
    refine z_if_lt (tgt := 22) (q := 16) C dX10_see_13 (by decide) rfl (fun c2 => ?_) (fun c2 => ?_)
    · have hF := (if_pos c2).symm.trans hF
      refine z_iconst (q := 23) C dX10_see_22 rfl ?_
      subst hF
      exact z_iret C e1 e2 dX10_see_23
    · have hF := (if_neg c2).symm.trans hF
      refine z_iload_n (q := 17) C dX10_see_16 2 rfl rfl rfl ?_
      refine z_bipush (q := 19) C dX10_see_17 bp_24 rfl ?_
      refine z_icmp_le (tgt := 24) (q := 22) C dX10_see_19 (by decide) rfl (fun c3 => ?_) (fun c3 => ?_)
      · have hF := (if_pos c3).symm.trans hF
        refine z_aload_n (q := 25) C dX10_see_24 0 rfl rfl rfl ?_
        refine z_getf (q := 28) C clX10 (zon C zo_0) kd_0 (k := 12) (by decide) q_283 rfl (zfv_r kd_0 rfl fr_0_12) dX10_see_25 rfl ?_
        refine z_iload_n (q := 29) C dX10_see_28 1 rfl rfl rfl ?_
        refine z_iload_n (q := 30) C dX10_see_29 2 rfl rfl rfl ?_
        obtain ⟨v5, h4, ev5, hF⟩ := zlet2_e hF
        refine z_callV (q := 33) (o := 13) (av := [.int (zi a1), .int (zi a2)]) (rest := []) (stk2 := [.int (zi v5)]) C hR clX7 (zon C zo_13) kd_13 (M_fX7_add (zlv hd rfl) ev5) mY_X7_add q_984 (Nat.le_of_ble_eq_true rfl) dX10_see_30 rfl rfl rfl ?_
        subst hF
        exact z_iret C e1 e2 dX10_see_33
      · have hF := (if_neg c3).symm.trans hF
        refine z_iconst (q := 23) C dX10_see_22 rfl ?_
        subst hF
        exact z_iret C e1 e2 dX10_see_23
set_option maxRecDepth 20000 in
set_option maxHeartbeats 4000000 in
theorem M_fX10_see {l : Launch} {D : va_G} {cy : ClassId} {α : Nat → Nat} {n : Nat} {σ : zSg} {d : Nat} (hd : 4 ≤ d) {a1 : Int} {a2 : Int} {h : zH} {r : Int} {g : zH} (hF : fX10_see a1 a2 h = (r, g)) : zMet l yX10_see cX10_see 3 (some .int) (zrm d) D cy α n σ [.ref (α 0), .int (zi a1), .int (zi a2)] h (some (.int (zi r))) g := by
  obtain ⟨d, rfl⟩ : ∃ e, d = e + 1 := ⟨d - 1, by omega⟩
  refine z_met (by decide +kernel) (Nat.le_of_ble_eq_true rfl) (fun κ k1 k2 k3 k4 k5 k6 k7 k8 k9 C => ?_)
  subst k1 k3 k4 k5 k6 k7
  exact J_fX10_see C k2 hd k8 k9 hF
set_option maxRecDepth 20000 in
set_option maxHeartbeats 4000000 in
theorem J_fX7_falsehoods_c49b {κ : zT} (C : zC κ RX7 cX7_falsehoods 5 (some .int)) {d : Nat} (hR : zR κ = zrm (d + 1)) (hd : 4 ≤ d + 1) {N : Nat} {o1 : Nat} (ho1 : o1 < zN) (hd1 : zkd o1 = 1) {r : Int × zH} (e1 : zrv κ = some (.int (zi r.1))) (e2 : zhf κ = r.2) {K49 : Int → Int → zH → Option (Int × zH)} (hK49 : ∀ (l3 : Int) (l4 : Int) (h : zH), K49 l3 l4 h = some r → Z κ h 49 [(0, .ref (zα κ 13)), (1, .ref (zα κ o1)), (3, .int (zi l3)), (4, .int (zi l4))] []) (l3 : Int) (l4 : Int) (h : zH) (hF : fX7_falsehoods_c49b N o1 K49 l3 l4 h = some r) : Z κ h 49 [(0, .ref (zα κ 13)), (1, .ref (zα κ o1)), (3, .int (zi l3)), (4, .int (zi l4))] [] := by
  unfold fX7_falsehoods_c49b at hF
  refine z_iload (q := 51) C dX7_falsehoods_49 3 rfl rfl ?_
  refine z_aload_n (q := 52) C dX7_falsehoods_51 0 rfl rfl rfl ?_
  refine z_getf (q := 55) C clX7 (zon C zo_13) kd_13 (k := 0) (by decide) q_257 rfl (zfv_i kd_13 rfl) dX7_falsehoods_52 rfl ?_
  refine z_icmp_ge (tgt := 101) (q := 58) C dX7_falsehoods_55 (by decide) rfl (fun c1 => ?_) (fun c1 => ?_)
  · have hF := (if_pos c1).symm.trans hF
    refine z_iload_n (q := 102) C dX7_falsehoods_101 2 rfl rfl rfl ?_
    have hF := Option.some.inj hF
    subst hF
    exact z_iret C e1 e2 dX7_falsehoods_102
  · have hF := (if_neg c1).symm.trans hF
    refine z_iload_n (q := 59) C dX7_falsehoods_58 2 rfl rfl rfl ?_
    refine z_aload_n (q := 60) C dX7_falsehoods_59 1 rfl rfl rfl ?_
    refine z_aload_n (q := 61) C dX7_falsehoods_60 0 rfl rfl rfl ?_
    refine z_getf (q := 64) C clX7 (zon C zo_13) kd_13 (k := 3) (by decide) q_261 rfl (zfv_r kd_13 rfl fr_13_3) dX7_falsehoods_61 rfl ?_
    refine z_aload_n (q := 65) C dX7_falsehoods_64 0 rfl rfl rfl ?_
    refine z_getf (q := 68) C clX7 (zon C zo_13) kd_13 (k := 1) (by decide) q_259 rfl (zfv_r kd_13 rfl fr_13_1) dX7_falsehoods_65 rfl ?_
    refine z_iload (q := 70) C dX7_falsehoods_68 3 rfl rfl ?_
    refine z_callSN (q := 73) (av := [.ref (zα κ 46), .int (zi l4)]) (rest := [.ref (zα κ 48), .ref (zα κ o1), .int (zi l3)]) (stk2 := [.int (zi (fX10_at 46 l4 h)), .ref (zα κ 48), .ref (zα κ o1), .int (zi l3)]) C hR (M_fX10_at (zlv hd rfl) zo_46 kd_46 rfl) mY_X10_at q_1000 (Nat.le_of_ble_eq_true rfl) dX7_falsehoods_70 rfl rfl rfl ?_
    obtain ⟨v2, ev2, hF⟩ := zb_e hF
    refine z_callV (q := 76) (o := o1) (av := [.ref (zα κ 48), .int (zi (fX10_at 46 l4 h))]) (rest := [.int (zi l3)]) (stk2 := [.int (zi v2), .int (zi l3)]) C hR clX1 (zon C ho1) hd1 (M_fX1_portion (zlv hd rfl) ho1 hd1 zo_48 kd_48 ev2) mY_X1_portion q_1001 (Nat.le_of_ble_eq_true rfl) dX7_falsehoods_73 rfl rfl rfl ?_
    refine z_aload_n (q := 77) C dX7_falsehoods_76 0 rfl rfl rfl ?_
    refine z_getf (q := 80) C clX7 (zon C zo_13) kd_13 (k := 2) (by decide) q_260 rfl (zfv_r kd_13 rfl fr_13_2) dX7_falsehoods_77 rfl ?_
    refine z_iload (q := 82) C dX7_falsehoods_80 3 rfl rfl ?_
    refine z_callSN (q := 85) (av := [.ref (zα κ 47), .int (zi l4)]) (rest := [.int (zi v2), .int (zi l3)]) (stk2 := [.int (zi (fX10_at 47 l4 h)), .int (zi v2), .int (zi l3)]) C hR (M_fX10_at (zlv hd rfl) zo_47 kd_47 rfl) mY_X10_at q_1000 (Nat.le_of_ble_eq_true rfl) dX7_falsehoods_82 rfl rfl rfl ?_
    refine z_icmp_eq (tgt := 92) (q := 88) C dX7_falsehoods_85 (by decide) rfl (fun c3 => ?_) (fun c3 => ?_)
    · have hF := (if_pos c3).symm.trans hF
      refine z_iconst (q := 93) C dX7_falsehoods_92 rfl ?_
      refine z_iadd (q := 94) C dX7_falsehoods_93 rfl ?_
      refine z_istore_n (q := 95) C dX7_falsehoods_94 (by decide) rfl rfl rfl ?_
      refine z_iinc (q := 98) (x := l4) C dX7_falsehoods_95 (j := 3) rfl (by decide) rfl rfl ?_
      refine z_goto (q := 49) C dX7_falsehoods_98 (by decide) ?_
      exact z_sub (hK49 _ _ _ hF) [2, 3, 1, 0] rfl
    · have hF := (if_neg c3).symm.trans hF
      refine z_iconst (q := 89) C dX7_falsehoods_88 rfl ?_
      refine z_goto (q := 93) C dX7_falsehoods_89 (by decide) ?_
      refine z_iadd (q := 94) C dX7_falsehoods_93 rfl ?_
      refine z_istore_n (q := 95) C dX7_falsehoods_94 (by decide) rfl rfl rfl ?_
      refine z_iinc (q := 98) (x := l4) C dX7_falsehoods_95 (j := 3) rfl (by decide) rfl rfl ?_
      refine z_goto (q := 49) C dX7_falsehoods_98 (by decide) ?_
      exact z_sub (hK49 _ _ _ hF) [2, 3, 1, 0] rfl
set_option maxRecDepth 20000 in
set_option maxHeartbeats 4000000 in
theorem J_fX7_falsehoods_c49 {κ : zT} (C : zC κ RX7 cX7_falsehoods 5 (some .int)) {d : Nat} (hR : zR κ = zrm (d + 1)) (hd : 4 ≤ d + 1) {N : Nat} {o1 : Nat} (ho1 : o1 < zN) (hd1 : zkd o1 = 1) {r : Int × zH} (e1 : zrv κ = some (.int (zi r.1))) (e2 : zhf κ = r.2) : ∀ (k : Nat) (l3 : Int) (l4 : Int) (h : zH), fX7_falsehoods_c49 N o1 k l3 l4 h = some r → Z κ h 49 [(0, .ref (zα κ 13)), (1, .ref (zα κ o1)), (3, .int (zi l3)), (4, .int (zi l4))] [] := by
  intro k
  induction k with
  | zero => intro l3 l4 h hF; cases hF
  | succ k ih => intro l3 l4 h hF; exact J_fX7_falsehoods_c49b C hR hd ho1 hd1 e1 e2 ih l3 l4 h hF
set_option maxRecDepth 20000 in
set_option maxHeartbeats 4000000 in
theorem J_fX7_falsehoods_c2b {κ : zT} (C : zC κ RX7 cX7_falsehoods 5 (some .int)) {d : Nat} (hR : zR κ = zrm (d + 1)) (hd : 4 ≤ d + 1) {N : Nat} {o1 : Nat} (ho1 : o1 < zN) (hd1 : zkd o1 = 1) {r : Int × zH} (e1 : zrv κ = some (.int (zi r.1))) (e2 : zhf κ = r.2) {K2 : Int → Int → zH → Option (Int × zH)} (hK2 : ∀ (l2 : Int) (l3 : Int) (h : zH), K2 l2 l3 h = some r → Z κ h 2 [(0, .ref (zα κ 13)), (1, .ref (zα κ o1)), (2, .int (zi l2)), (3, .int (zi l3))] []) (l2 : Int) (l3 : Int) (h : zH) (hF : fX7_falsehoods_c2b N o1 K2 l2 l3 h = some r) : Z κ h 2 [(0, .ref (zα κ 13)), (1, .ref (zα κ o1)), (2, .int (zi l2)), (3, .int (zi l3))] [] := by
  unfold fX7_falsehoods_c2b at hF
  refine z_iload_n (q := 3) C dX7_falsehoods_2 3 rfl rfl rfl ?_
  refine z_aload_n (q := 4) C dX7_falsehoods_3 1 rfl rfl rfl ?_
  refine z_iconst (q := 5) C dX7_falsehoods_4 rfl ?_
  refine z_callV (q := 8) (o := o1) (av := [.int (zi 1)]) (rest := [.int (zi l3)]) (stk2 := [.int (zi (fX1_many o1 1 h)), .int (zi l3)]) C hR clX1 (zon C ho1) hd1 (M_fX1_many (zlv hd rfl) ho1 hd1 rfl) mY_X1_many q_997 (Nat.le_of_ble_eq_true rfl) dX7_falsehoods_5 rfl rfl rfl ?_
  refine z_icmp_ge (tgt := 44) (q := 11) C dX7_falsehoods_8 (by decide) rfl (fun c1 => ?_) (fun c1 => ?_)
  · have hF := (if_pos c1).symm.trans hF
    refine z_iconst (q := 45) C dX7_falsehoods_44 rfl ?_
    refine z_istore_n (q := 46) C dX7_falsehoods_45 (by decide) rfl rfl rfl ?_
    refine z_iconst (q := 47) C dX7_falsehoods_46 rfl ?_
    refine z_istore (q := 49) C dX7_falsehoods_47 (by decide) rfl rfl ?_
    exact z_sub (J_fX7_falsehoods_c49 C hR hd ho1 hd1 e1 e2 N _ _ _ hF) [2, 3, 1, 0] rfl
  · have hF := (if_neg c1).symm.trans hF
    refine z_aload_n (q := 12) C dX7_falsehoods_11 0 rfl rfl rfl ?_
    refine z_getf (q := 15) C clX7 (zon C zo_13) kd_13 (k := 3) (by decide) q_261 rfl (zfv_r kd_13 rfl fr_13_3) dX7_falsehoods_12 rfl ?_
    refine z_iload_n (q := 16) C dX7_falsehoods_15 3 rfl rfl rfl ?_
    refine z_iload_n (q := 17) C dX7_falsehoods_16 2 rfl rfl rfl ?_
    refine z_iload_n (q := 18) C dX7_falsehoods_17 3 rfl rfl rfl ?_
    refine z_callSN (q := 21) (av := [.int (zi l2), .int (zi l3)]) (rest := [.int (zi l3), .ref (zα κ 48)]) (stk2 := [.int (zi (fX10_isIn l2 l3)), .int (zi l3), .ref (zα κ 48)]) C hR (M_fX10_isIn (zlv hd rfl) rfl) mY_X10_isIn q_998 (Nat.le_of_ble_eq_true rfl) dX7_falsehoods_18 rfl rfl rfl ?_
    refine z_if_eq (tgt := 34) (q := 24) C dX7_falsehoods_21 (by decide) rfl (fun c2 => ?_) (fun c2 => ?_)
    · have hF := (if_pos c2).symm.trans hF
      refine z_iconst (q := 35) C dX7_falsehoods_34 rfl ?_
      obtain ⟨h3, eh3, hF⟩ := zlet_e hF
      refine z_callSN (q := 38) (av := [.ref (zα κ 48), .int (zi l3), .int (zi (-1))]) (rest := []) (stk2 := []) C hR (M_fX10_put (zlv hd rfl) zo_48 kd_48 eh3.symm) mY_X10_put q_988 (Nat.le_of_ble_eq_true rfl) dX7_falsehoods_35 rfl rfl rfl ?_
      refine z_iinc (q := 41) (x := l3) C dX7_falsehoods_38 (j := 3) rfl (by decide) rfl rfl ?_
      refine z_goto (q := 2) C dX7_falsehoods_41 (by decide) ?_
      exact z_sub (hK2 _ _ _ hF) [1, 2, 3, 0] rfl
    · have hF := (if_neg c2).symm.trans hF
      refine z_aload_n (q := 25) C dX7_falsehoods_24 1 rfl rfl rfl ?_
      refine z_iconst (q := 26) C dX7_falsehoods_25 rfl ?_
      refine z_iload_n (q := 27) C dX7_falsehoods_26 3 rfl rfl rfl ?_
      refine z_iconst (q := 28) C dX7_falsehoods_27 rfl ?_
      refine z_callV (q := 31) (o := o1) (av := [.int (zi 1), .int (zi l3), .int (zi 0)]) (rest := [.int (zi l3), .ref (zα κ 48)]) (stk2 := [.int (zi (fX1_item o1 1 l3 0 h)), .int (zi l3), .ref (zα κ 48)]) C hR clX1 (zon C ho1) hd1 (M_fX1_item (zlv hd rfl) ho1 hd1 rfl) mY_X1_item q_999 (Nat.le_of_ble_eq_true rfl) dX7_falsehoods_28 rfl rfl rfl ?_
      refine z_goto (q := 35) C dX7_falsehoods_31 (by decide) ?_
      obtain ⟨h4, eh4, hF⟩ := zlet_e hF
      refine z_callSN (q := 38) (av := [.ref (zα κ 48), .int (zi l3), .int (zi (fX1_item o1 1 l3 0 h))]) (rest := []) (stk2 := []) C hR (M_fX10_put (zlv hd rfl) zo_48 kd_48 eh4.symm) mY_X10_put q_988 (Nat.le_of_ble_eq_true rfl) dX7_falsehoods_35 rfl rfl rfl ?_
      refine z_iinc (q := 41) (x := l3) C dX7_falsehoods_38 (j := 3) rfl (by decide) rfl rfl ?_
      refine z_goto (q := 2) C dX7_falsehoods_41 (by decide) ?_
      exact z_sub (hK2 _ _ _ hF) [1, 2, 3, 0] rfl
set_option maxRecDepth 20000 in
set_option maxHeartbeats 4000000 in
theorem J_fX7_falsehoods_c2 {κ : zT} (C : zC κ RX7 cX7_falsehoods 5 (some .int)) {d : Nat} (hR : zR κ = zrm (d + 1)) (hd : 4 ≤ d + 1) {N : Nat} {o1 : Nat} (ho1 : o1 < zN) (hd1 : zkd o1 = 1) {r : Int × zH} (e1 : zrv κ = some (.int (zi r.1))) (e2 : zhf κ = r.2) : ∀ (k : Nat) (l2 : Int) (l3 : Int) (h : zH), fX7_falsehoods_c2 N o1 k l2 l3 h = some r → Z κ h 2 [(0, .ref (zα κ 13)), (1, .ref (zα κ o1)), (2, .int (zi l2)), (3, .int (zi l3))] [] := by
  intro k
  induction k with
  | zero => intro l2 l3 h hF; cases hF
  | succ k ih => intro l2 l3 h hF; exact J_fX7_falsehoods_c2b C hR hd ho1 hd1 e1 e2 ih l2 l3 h hF
set_option maxRecDepth 20000 in
set_option maxHeartbeats 4000000 in
theorem J_fX7_falsehoods {κ : zT} (C : zC κ RX7 cX7_falsehoods 5 (some .int)) {d : Nat} (hR : zR κ = zrm (d + 1)) (hd : 4 ≤ d + 1) {N : Nat} {o1 : Nat} (ho1 : o1 < zN) (hd1 : zkd o1 = 1) {r : Int × zH} (e1 : zrv κ = some (.int (zi r.1))) (e2 : zhf κ = r.2) {a2 : Int} {h : zH} (hF : fX7_falsehoods N o1 a2 h = some r) : Z κ h 0 [(0, .ref (zα κ 13)), (1, .ref (zα κ o1)), (2, .int (zi a2))] [] := by
  unfold fX7_falsehoods at hF
  refine z_iconst (q := 1) C dX7_falsehoods_0 rfl ?_
  refine z_istore_n (q := 2) C dX7_falsehoods_1 (by decide) rfl rfl rfl ?_
  exact z_sub (J_fX7_falsehoods_c2 C hR hd ho1 hd1 e1 e2 N _ _ _ hF) [1, 2, 3, 0] rfl
set_option maxRecDepth 20000 in
set_option maxHeartbeats 4000000 in
theorem M_fX7_falsehoods {l : Launch} {D : va_G} {cy : ClassId} {α : Nat → Nat} {n : Nat} {σ : zSg} {d : Nat} (hd : 4 ≤ d) {N : Nat} {o1 : Nat} (ho1 : o1 < zN) (hd1 : zkd o1 = 1) {a2 : Int} {h : zH} {r : Int} {g : zH} (hF : fX7_falsehoods N o1 a2 h = some (r, g)) : zMet l yX7_falsehoods cX7_falsehoods 5 (some .int) (zrm d) D cy α n σ [.ref (α 13), .ref (α o1), .int (zi a2)] h (some (.int (zi r))) g := by
  obtain ⟨d, rfl⟩ : ∃ e, d = e + 1 := ⟨d - 1, by omega⟩
  refine z_met (by decide +kernel) (Nat.le_of_ble_eq_true rfl) (fun κ k1 k2 k3 k4 k5 k6 k7 k8 k9 C => ?_)
  subst k1 k3 k4 k5 k6 k7
  exact J_fX7_falsehoods C k2 hd ho1 hd1 k8 k9 hF
set_option maxRecDepth 20000 in
set_option maxHeartbeats 4000000 in
theorem J_fX10_could_c18b {κ : zT} (C : zC κ RX10 cX10_could 4 (some .int)) {d : Nat} (hR : zR κ = zrm (d + 1)) (hd : 5 ≤ d + 1) {N : Nat} {r : Int × zH} (e1 : zrv κ = some (.int (zi r.1))) (e2 : zhf κ = r.2) {K18 : Int → Int → Int → zH → Option (Int × zH)} (hK18 : ∀ (l1 : Int) (l2 : Int) (l3 : Int) (h : zH), K18 l1 l2 l3 h = some r → Z κ h 18 [(0, .ref (zα κ 0)), (1, .int (zi l1)), (2, .int (zi l2)), (3, .int (zi l3))] []) (l1 : Int) (l2 : Int) (l3 : Int) (h : zH) (hF : fX10_could_c18b N K18 l1 l2 l3 h = some r) : Z κ h 18 [(0, .ref (zα κ 0)), (1, .int (zi l1)), (2, .int (zi l2)), (3, .int (zi l3))] [] := by
  unfold fX10_could_c18b at hF
  refine z_iload_n (q := 19) C dX10_could_18 3 rfl rfl rfl ?_
  refine z_iconst (q := 20) C dX10_could_19 rfl ?_
  refine z_aload_n (q := 21) C dX10_could_20 0 rfl rfl rfl ?_
  refine z_getf (q := 24) C clX10 (zon C zo_0) kd_0 (k := 1) (by decide) q_272 rfl (zfv_r kd_0 rfl fr_0_1) dX10_could_21 rfl ?_
  refine z_iconst (q := 25) C dX10_could_24 rfl ?_
  refine z_callV (q := 28) (o := 2) (av := [.int (zi 1)]) (rest := [.int (zi 1), .int (zi l3)]) (stk2 := [.int (zi (fX1_many 2 1 h)), .int (zi 1), .int (zi l3)]) C hR clX1 (zon C zo_2) kd_2 (M_fX1_many (zlv hd rfl) zo_2 kd_2 rfl) mY_X1_many q_620 (Nat.le_of_ble_eq_true rfl) dX10_could_25 rfl rfl rfl ?_
  refine z_ishl (q := 29) C dX10_could_28 rfl ?_
  refine z_icmp_ge (tgt := 63) (q := 32) C dX10_could_29 (by decide) rfl (fun c1 => ?_) (fun c1 => ?_)
  · have hF := (if_pos c1).symm.trans hF
    refine z_iload_n (q := 64) C dX10_could_63 1 rfl rfl rfl ?_
    refine z_iconst (q := 65) C dX10_could_64 rfl ?_
    refine z_icmp_ne (tgt := 72) (q := 68) C dX10_could_65 (by decide) rfl (fun c2 => ?_) (fun c2 => ?_)
    · have hF := (if_neg c2).symm.trans hF
      refine z_iconst (q := 73) C dX10_could_72 rfl ?_
      have hF := Option.some.inj hF
      subst hF
      exact z_iret C e1 e2 dX10_could_73
    · have hF := (if_pos c2).symm.trans hF
      refine z_iload_n (q := 69) C dX10_could_68 2 rfl rfl rfl ?_
      refine z_goto (q := 73) C dX10_could_69 (by decide) ?_
      have hF := Option.some.inj hF
      subst hF
      exact z_iret C e1 e2 dX10_could_73
  · have hF := (if_neg c1).symm.trans hF
    refine z_aload_n (q := 33) C dX10_could_32 0 rfl rfl rfl ?_
    refine z_getf (q := 36) C clX10 (zon C zo_0) kd_0 (k := 12) (by decide) q_283 rfl (zfv_r kd_0 rfl fr_0_12) dX10_could_33 rfl ?_
    refine z_aload_n (q := 37) C dX10_could_36 0 rfl rfl rfl ?_
    refine z_getf (q := 40) C clX10 (zon C zo_0) kd_0 (k := 1) (by decide) q_272 rfl (zfv_r kd_0 rfl fr_0_1) dX10_could_37 rfl ?_
    refine z_iload_n (q := 41) C dX10_could_40 3 rfl rfl rfl ?_
    obtain ⟨v4, h3, ev4, hF⟩ := z2_e hF
    refine z_callV (q := 44) (o := 13) (av := [.ref (zα κ 2), .int (zi l3)]) (rest := []) (stk2 := [.int (zi v4)]) C hR clX7 (zon C zo_13) kd_13 (M_fX7_falsehoods (zlv hd rfl) zo_2 kd_2 ev4) mY_X7_falsehoods q_993 (Nat.le_of_ble_eq_true rfl) dX10_could_41 rfl rfl rfl ?_
    refine z_if_ne (tgt := 57) (q := 47) C dX10_could_44 (by decide) rfl (fun c5 => ?_) (fun c5 => ?_)
    · have hF := (if_neg c5).symm.trans hF
      refine z_iinc (q := 60) (x := l3) C dX10_could_57 (j := 3) rfl (by decide) rfl rfl ?_
      refine z_goto (q := 18) C dX10_could_60 (by decide) ?_
      exact z_sub (hK18 _ _ _ _ hF) [1, 2, 3, 0] rfl
    · have hF := (if_pos c5).symm.trans hF
      refine z_iload_n (q := 48) C dX10_could_47 2 rfl rfl rfl ?_
      refine z_iload_n (q := 49) C dX10_could_48 1 rfl rfl rfl ?_
      refine z_icmp_ne (tgt := 54) (q := 52) C dX10_could_49 (by decide) rfl (fun c6 => ?_) (fun c6 => ?_)
      · have hF := (if_neg c6).symm.trans hF
        refine z_iinc (q := 57) (x := l2) C dX10_could_54 (j := 2) rfl (by decide) rfl rfl ?_
        refine z_iinc (q := 60) (x := l3) C dX10_could_57 (j := 3) rfl (by decide) rfl rfl ?_
        refine z_goto (q := 18) C dX10_could_60 (by decide) ?_
        exact z_sub (hK18 _ _ _ _ hF) [2, 3, 1, 0] rfl
      · have hF := (if_pos c6).symm.trans hF
        refine z_iload_n (q := 53) C dX10_could_52 3 rfl rfl rfl ?_
        have hF := Option.some.inj hF
        subst hF
        exact z_iret C e1 e2 dX10_could_53
set_option maxRecDepth 20000 in
set_option maxHeartbeats 4000000 in
theorem J_fX10_could_c18 {κ : zT} (C : zC κ RX10 cX10_could 4 (some .int)) {d : Nat} (hR : zR κ = zrm (d + 1)) (hd : 5 ≤ d + 1) {N : Nat} {r : Int × zH} (e1 : zrv κ = some (.int (zi r.1))) (e2 : zhf κ = r.2) : ∀ (k : Nat) (l1 : Int) (l2 : Int) (l3 : Int) (h : zH), fX10_could_c18 N k l1 l2 l3 h = some r → Z κ h 18 [(0, .ref (zα κ 0)), (1, .int (zi l1)), (2, .int (zi l2)), (3, .int (zi l3))] [] := by
  intro k
  induction k with
  | zero => intro l1 l2 l3 h hF; cases hF
  | succ k ih => intro l1 l2 l3 h hF; exact J_fX10_could_c18b C hR hd e1 e2 ih l1 l2 l3 h hF
set_option maxRecDepth 20000 in
set_option maxHeartbeats 4000000 in
theorem J_fX10_could {κ : zT} (C : zC κ RX10 cX10_could 4 (some .int)) {d : Nat} (hR : zR κ = zrm (d + 1)) (hd : 5 ≤ d + 1) {N : Nat} {r : Int × zH} (e1 : zrv κ = some (.int (zi r.1))) (e2 : zhf κ = r.2) {a1 : Int} {h : zH} (hF : fX10_could N a1 h = some r) : Z κ h 0 [(0, .ref (zα κ 0)), (1, .int (zi a1))] [] := by
  unfold fX10_could at hF
  refine z_aload_n (q := 1) C dX10_could_0 0 rfl rfl rfl ?_
  refine z_callV (q := 4) (o := 0) (av := []) (rest := []) (stk2 := [.int (zi (fX10_hasHill h))]) C hR clX10 (zon C zo_0) kd_0 (M_fX10_hasHill (zlv hd rfl) rfl) mY_X10_hasHill q_625 (Nat.le_of_ble_eq_true rfl) dX10_could_1 rfl rfl rfl ?_
  refine z_if_eq (tgt := 12) (q := 7) C dX10_could_4 (by decide) rfl (fun c1 => ?_) (fun c1 => ?_)
  · have hF := (if_pos c1).symm.trans hF
    refine z_iconst (q := 13) C dX10_could_12 rfl ?_
    have hF := Option.some.inj hF
    subst hF
    exact z_iret C e1 e2 dX10_could_13
  · have hF := (if_neg c1).symm.trans hF
    refine z_iload_n (q := 8) C dX10_could_7 1 rfl rfl rfl ?_
    refine z_iconst (q := 9) C dX10_could_8 rfl ?_
    refine z_icmp_ge (tgt := 14) (q := 12) C dX10_could_9 (by decide) rfl (fun c2 => ?_) (fun c2 => ?_)
    · have hF := (if_pos c2).symm.trans hF
      refine z_iconst (q := 15) C dX10_could_14 rfl ?_
      refine z_istore_n (q := 16) C dX10_could_15 (by decide) rfl rfl rfl ?_
      refine z_iconst (q := 17) C dX10_could_16 rfl ?_
      refine z_istore_n (q := 18) C dX10_could_17 (by decide) rfl rfl rfl ?_
      exact z_sub (J_fX10_could_c18 C hR hd e1 e2 N _ _ _ _ hF) [2, 3, 1, 0] rfl
    · have hF := (if_neg c2).symm.trans hF
      refine z_iconst (q := 13) C dX10_could_12 rfl ?_
      have hF := Option.some.inj hF
      subst hF
      exact z_iret C e1 e2 dX10_could_13
set_option maxRecDepth 20000 in
set_option maxHeartbeats 4000000 in
theorem M_fX10_could {l : Launch} {D : va_G} {cy : ClassId} {α : Nat → Nat} {n : Nat} {σ : zSg} {d : Nat} (hd : 5 ≤ d) {N : Nat} {a1 : Int} {h : zH} {r : Int} {g : zH} (hF : fX10_could N a1 h = some (r, g)) : zMet l yX10_could cX10_could 4 (some .int) (zrm d) D cy α n σ [.ref (α 0), .int (zi a1)] h (some (.int (zi r))) g := by
  obtain ⟨d, rfl⟩ : ∃ e, d = e + 1 := ⟨d - 1, by omega⟩
  refine z_met (by decide +kernel) (Nat.le_of_ble_eq_true rfl) (fun κ k1 k2 k3 k4 k5 k6 k7 k8 k9 C => ?_)
  subst k1 k3 k4 k5 k6 k7
  exact J_fX10_could C k2 hd k8 k9 hF
set_option maxRecDepth 20000 in
set_option maxHeartbeats 4000000 in
theorem J_fX10_sure_c13b {κ : zT} (C : zC κ RX10 cX10_sure 3 (some .int)) {d : Nat} (hR : zR κ = zrm (d + 1)) (hd : 5 ≤ d + 1) {N : Nat} {r : Int × zH} (e1 : zrv κ = some (.int (zi r.1))) (e2 : zhf κ = r.2) {K13 : Int → Int → zH → Option (Int × zH)} (hK13 : ∀ (l1 : Int) (l2 : Int) (h : zH), K13 l1 l2 h = some r → Z κ h 13 [(0, .ref (zα κ 0)), (1, .int (zi l1)), (2, .int (zi l2))] []) (l1 : Int) (l2 : Int) (h : zH) (hF : fX10_sure_c13b N K13 l1 l2 h = some r) : Z κ h 13 [(0, .ref (zα κ 0)), (1, .int (zi l1)), (2, .int (zi l2))] [] := by
  unfold fX10_sure_c13b at hF
  refine z_iload_n (q := 14) C dX10_sure_13 2 rfl rfl rfl ?_
  refine z_iconst (q := 15) C dX10_sure_14 rfl ?_
  refine z_aload_n (q := 16) C dX10_sure_15 0 rfl rfl rfl ?_
  refine z_getf (q := 19) C clX10 (zon C zo_0) kd_0 (k := 1) (by decide) q_272 rfl (zfv_r kd_0 rfl fr_0_1) dX10_sure_16 rfl ?_
  refine z_iconst (q := 20) C dX10_sure_19 rfl ?_
  refine z_callV (q := 23) (o := 2) (av := [.int (zi 1)]) (rest := [.int (zi 1), .int (zi l2)]) (stk2 := [.int (zi (fX1_many 2 1 h)), .int (zi 1), .int (zi l2)]) C hR clX1 (zon C zo_2) kd_2 (M_fX1_many (zlv hd rfl) zo_2 kd_2 rfl) mY_X1_many q_620 (Nat.le_of_ble_eq_true rfl) dX10_sure_20 rfl rfl rfl ?_
  refine z_ishl (q := 24) C dX10_sure_23 rfl ?_
  refine z_icmp_ge (tgt := 52) (q := 27) C dX10_sure_24 (by decide) rfl (fun c1 => ?_) (fun c1 => ?_)
  · have hF := (if_pos c1).symm.trans hF
    refine z_iload_n (q := 53) C dX10_sure_52 1 rfl rfl rfl ?_
    have hF := Option.some.inj hF
    subst hF
    exact z_iret C e1 e2 dX10_sure_53
  · have hF := (if_neg c1).symm.trans hF
    refine z_aload_n (q := 28) C dX10_sure_27 0 rfl rfl rfl ?_
    refine z_getf (q := 31) C clX10 (zon C zo_0) kd_0 (k := 12) (by decide) q_283 rfl (zfv_r kd_0 rfl fr_0_12) dX10_sure_28 rfl ?_
    refine z_aload_n (q := 32) C dX10_sure_31 0 rfl rfl rfl ?_
    refine z_getf (q := 35) C clX10 (zon C zo_0) kd_0 (k := 1) (by decide) q_272 rfl (zfv_r kd_0 rfl fr_0_1) dX10_sure_32 rfl ?_
    refine z_iload_n (q := 36) C dX10_sure_35 2 rfl rfl rfl ?_
    obtain ⟨v3, h2, ev3, hF⟩ := z2_e hF
    refine z_callV (q := 39) (o := 13) (av := [.ref (zα κ 2), .int (zi l2)]) (rest := []) (stk2 := [.int (zi v3)]) C hR clX7 (zon C zo_13) kd_13 (M_fX7_falsehoods (zlv hd rfl) zo_2 kd_2 ev3) mY_X7_falsehoods q_993 (Nat.le_of_ble_eq_true rfl) dX10_sure_36 rfl rfl rfl ?_
    refine z_if_ne (tgt := 46) (q := 42) C dX10_sure_39 (by decide) rfl (fun c4 => ?_) (fun c4 => ?_)
    · have hF := (if_neg c4).symm.trans hF
      refine z_iinc (q := 49) (x := l2) C dX10_sure_46 (j := 2) rfl (by decide) rfl rfl ?_
      refine z_goto (q := 13) C dX10_sure_49 (by decide) ?_
      exact z_sub (hK13 _ _ _ hF) [1, 2, 0] rfl
    · have hF := (if_pos c4).symm.trans hF
      refine z_iload_n (q := 43) C dX10_sure_42 1 rfl rfl rfl ?_
      refine z_iload_n (q := 44) C dX10_sure_43 2 rfl rfl rfl ?_
      refine z_iand (q := 45) C dX10_sure_44 rfl ?_
      refine z_istore_n (q := 46) C dX10_sure_45 (by decide) rfl rfl rfl ?_
      refine z_iinc (q := 49) (x := l2) C dX10_sure_46 (j := 2) rfl (by decide) rfl rfl ?_
      refine z_goto (q := 13) C dX10_sure_49 (by decide) ?_
      exact z_sub (hK13 _ _ _ hF) [2, 1, 0] rfl
set_option maxRecDepth 20000 in
set_option maxHeartbeats 4000000 in
theorem J_fX10_sure_c13 {κ : zT} (C : zC κ RX10 cX10_sure 3 (some .int)) {d : Nat} (hR : zR κ = zrm (d + 1)) (hd : 5 ≤ d + 1) {N : Nat} {r : Int × zH} (e1 : zrv κ = some (.int (zi r.1))) (e2 : zhf κ = r.2) : ∀ (k : Nat) (l1 : Int) (l2 : Int) (h : zH), fX10_sure_c13 N k l1 l2 h = some r → Z κ h 13 [(0, .ref (zα κ 0)), (1, .int (zi l1)), (2, .int (zi l2))] [] := by
  intro k
  induction k with
  | zero => intro l1 l2 h hF; cases hF
  | succ k ih => intro l1 l2 h hF; exact J_fX10_sure_c13b C hR hd e1 e2 ih l1 l2 h hF
set_option maxRecDepth 20000 in
set_option maxHeartbeats 4000000 in
theorem J_fX10_sure {κ : zT} (C : zC κ RX10 cX10_sure 3 (some .int)) {d : Nat} (hR : zR κ = zrm (d + 1)) (hd : 5 ≤ d + 1) {N : Nat} {r : Int × zH} (e1 : zrv κ = some (.int (zi r.1))) (e2 : zhf κ = r.2) {h : zH} (hF : fX10_sure N h = some r) : Z κ h 0 [(0, .ref (zα κ 0))] [] := by
  unfold fX10_sure at hF
  refine z_aload_n (q := 1) C dX10_sure_0 0 rfl rfl rfl ?_
  refine z_callV (q := 4) (o := 0) (av := []) (rest := []) (stk2 := [.int (zi (fX10_hasHill h))]) C hR clX10 (zon C zo_0) kd_0 (M_fX10_hasHill (zlv hd rfl) rfl) mY_X10_hasHill q_625 (Nat.le_of_ble_eq_true rfl) dX10_sure_1 rfl rfl rfl ?_
  refine z_if_ne (tgt := 9) (q := 7) C dX10_sure_4 (by decide) rfl (fun c1 => ?_) (fun c1 => ?_)
  · have hF := (if_neg c1).symm.trans hF
    refine z_iconst (q := 10) C dX10_sure_9 rfl ?_
    refine z_istore_n (q := 11) C dX10_sure_10 (by decide) rfl rfl rfl ?_
    refine z_iconst (q := 12) C dX10_sure_11 rfl ?_
    refine z_istore_n (q := 13) C dX10_sure_12 (by decide) rfl rfl rfl ?_
    exact z_sub (J_fX10_sure_c13 C hR hd e1 e2 N _ _ _ hF) [2, 1, 0] rfl
  · have hF := (if_pos c1).symm.trans hF
    refine z_iconst (q := 8) C dX10_sure_7 rfl ?_
    have hF := Option.some.inj hF
    subst hF
    exact z_iret C e1 e2 dX10_sure_8
set_option maxRecDepth 20000 in
set_option maxHeartbeats 4000000 in
theorem M_fX10_sure {l : Launch} {D : va_G} {cy : ClassId} {α : Nat → Nat} {n : Nat} {σ : zSg} {d : Nat} (hd : 5 ≤ d) {N : Nat} {h : zH} {r : Int} {g : zH} (hF : fX10_sure N h = some (r, g)) : zMet l yX10_sure cX10_sure 3 (some .int) (zrm d) D cy α n σ [.ref (α 0)] h (some (.int (zi r))) g := by
  obtain ⟨d, rfl⟩ : ∃ e, d = e + 1 := ⟨d - 1, by omega⟩
  refine z_met (by decide +kernel) (Nat.le_of_ble_eq_true rfl) (fun κ k1 k2 k3 k4 k5 k6 k7 k8 k9 C => ?_)
  subst k1 k3 k4 k5 k6 k7
  exact J_fX10_sure C k2 hd k8 k9 hF
set_option maxRecDepth 20000 in
set_option maxHeartbeats 4000000 in
theorem J_fX10_wrong_c14b {κ : zT} (C : zC κ RX10 cX10_wrong 3 (some .int)) {d : Nat} (hR : zR κ = zrm (d + 1)) (hd : 5 ≤ d + 1) {N : Nat} {r : Int × zH} (e1 : zrv κ = some (.int (zi r.1))) (e2 : zhf κ = r.2) {K14 : Int → Int → zH → Option (Int × zH)} (hK14 : ∀ (l1 : Int) (l2 : Int) (h : zH), K14 l1 l2 h = some r → Z κ h 14 [(0, .ref (zα κ 0)), (1, .int (zi l1)), (2, .int (zi l2))] []) (l1 : Int) (l2 : Int) (h : zH) (hF : fX10_wrong_c14b N K14 l1 l2 h = some r) : Z κ h 14 [(0, .ref (zα κ 0)), (1, .int (zi l1)), (2, .int (zi l2))] [] := by
  unfold fX10_wrong_c14b at hF
  refine z_iload_n (q := 15) C dX10_wrong_14 2 rfl rfl rfl ?_
  refine z_iconst (q := 16) C dX10_wrong_15 rfl ?_
  refine z_aload_n (q := 17) C dX10_wrong_16 0 rfl rfl rfl ?_
  refine z_getf (q := 20) C clX10 (zon C zo_0) kd_0 (k := 1) (by decide) q_272 rfl (zfv_r kd_0 rfl fr_0_1) dX10_wrong_17 rfl ?_
  refine z_iconst (q := 21) C dX10_wrong_20 rfl ?_
  refine z_callV (q := 24) (o := 2) (av := [.int (zi 1)]) (rest := [.int (zi 1), .int (zi l2)]) (stk2 := [.int (zi (fX1_many 2 1 h)), .int (zi 1), .int (zi l2)]) C hR clX1 (zon C zo_2) kd_2 (M_fX1_many (zlv hd rfl) zo_2 kd_2 rfl) mY_X1_many q_620 (Nat.le_of_ble_eq_true rfl) dX10_wrong_21 rfl rfl rfl ?_
  refine z_ishl (q := 25) C dX10_wrong_24 rfl ?_
  refine z_icmp_ge (tgt := 51) (q := 28) C dX10_wrong_25 (by decide) rfl (fun c1 => ?_) (fun c1 => ?_)
  · have hF := (if_pos c1).symm.trans hF
    refine z_iload_n (q := 52) C dX10_wrong_51 1 rfl rfl rfl ?_
    have hF := Option.some.inj hF
    subst hF
    exact z_iret C e1 e2 dX10_wrong_52
  · have hF := (if_neg c1).symm.trans hF
    refine z_iload_n (q := 29) C dX10_wrong_28 1 rfl rfl rfl ?_
    refine z_aload_n (q := 30) C dX10_wrong_29 0 rfl rfl rfl ?_
    refine z_getf (q := 33) C clX10 (zon C zo_0) kd_0 (k := 12) (by decide) q_283 rfl (zfv_r kd_0 rfl fr_0_12) dX10_wrong_30 rfl ?_
    refine z_aload_n (q := 34) C dX10_wrong_33 0 rfl rfl rfl ?_
    refine z_getf (q := 37) C clX10 (zon C zo_0) kd_0 (k := 1) (by decide) q_272 rfl (zfv_r kd_0 rfl fr_0_1) dX10_wrong_34 rfl ?_
    refine z_iload_n (q := 38) C dX10_wrong_37 2 rfl rfl rfl ?_
    obtain ⟨v3, h2, ev3, hF⟩ := z2_e hF
    refine z_callV (q := 41) (o := 13) (av := [.ref (zα κ 2), .int (zi l2)]) (rest := [.int (zi l1)]) (stk2 := [.int (zi v3), .int (zi l1)]) C hR clX7 (zon C zo_13) kd_13 (M_fX7_falsehoods (zlv hd rfl) zo_2 kd_2 ev3) mY_X7_falsehoods q_993 (Nat.le_of_ble_eq_true rfl) dX10_wrong_38 rfl rfl rfl ?_
    refine z_callS (q := 44) (av := [.int (zi l1), .int (zi v3)]) (rest := []) (stk2 := [.int (zi (fJ9_min_7cf53 l1 v3))]) C hR (M_fJ9_min_7cf53 (zlv hd rfl) rfl) mY_J9_min_7cf53 q_1010 (Nat.le_of_ble_eq_true rfl) dX10_wrong_41 rfl rfl rfl ?_
    obtain ⟨v4, ev4, hF⟩ := zlet_e hF
    refine z_istoreE_n (q := 45) C ev4 dX10_wrong_44 (by decide) rfl rfl rfl ?_
    refine z_iinc (q := 48) (x := l2) C dX10_wrong_45 (j := 2) rfl (by decide) rfl rfl ?_
    refine z_goto (q := 14) C dX10_wrong_48 (by decide) ?_
    exact z_sub (hK14 _ _ _ hF) [2, 1, 0] rfl
set_option maxRecDepth 20000 in
set_option maxHeartbeats 4000000 in
theorem J_fX10_wrong_c14 {κ : zT} (C : zC κ RX10 cX10_wrong 3 (some .int)) {d : Nat} (hR : zR κ = zrm (d + 1)) (hd : 5 ≤ d + 1) {N : Nat} {r : Int × zH} (e1 : zrv κ = some (.int (zi r.1))) (e2 : zhf κ = r.2) : ∀ (k : Nat) (l1 : Int) (l2 : Int) (h : zH), fX10_wrong_c14 N k l1 l2 h = some r → Z κ h 14 [(0, .ref (zα κ 0)), (1, .int (zi l1)), (2, .int (zi l2))] [] := by
  intro k
  induction k with
  | zero => intro l1 l2 h hF; cases hF
  | succ k ih => intro l1 l2 h hF; exact J_fX10_wrong_c14b C hR hd e1 e2 ih l1 l2 h hF
set_option maxRecDepth 20000 in
set_option maxHeartbeats 4000000 in
theorem J_fX10_wrong {κ : zT} (C : zC κ RX10 cX10_wrong 3 (some .int)) {d : Nat} (hR : zR κ = zrm (d + 1)) (hd : 5 ≤ d + 1) {N : Nat} {r : Int × zH} (e1 : zrv κ = some (.int (zi r.1))) (e2 : zhf κ = r.2) {h : zH} (hF : fX10_wrong N h = some r) : Z κ h 0 [(0, .ref (zα κ 0))] [] := by
  unfold fX10_wrong at hF
  refine z_aload_n (q := 1) C dX10_wrong_0 0 rfl rfl rfl ?_
  refine z_callV (q := 4) (o := 0) (av := []) (rest := []) (stk2 := [.int (zi (fX10_hasHill h))]) C hR clX10 (zon C zo_0) kd_0 (M_fX10_hasHill (zlv hd rfl) rfl) mY_X10_hasHill q_625 (Nat.le_of_ble_eq_true rfl) dX10_wrong_1 rfl rfl rfl ?_
  refine z_if_ne (tgt := 9) (q := 7) C dX10_wrong_4 (by decide) rfl (fun c1 => ?_) (fun c1 => ?_)
  · have hF := (if_neg c1).symm.trans hF
    refine z_bipush (q := 11) C dX10_wrong_9 bp_12 rfl ?_
    refine z_istore_n (q := 12) C dX10_wrong_11 (by decide) rfl rfl rfl ?_
    refine z_iconst (q := 13) C dX10_wrong_12 rfl ?_
    refine z_istore_n (q := 14) C dX10_wrong_13 (by decide) rfl rfl rfl ?_
    exact z_sub (J_fX10_wrong_c14 C hR hd e1 e2 N _ _ _ hF) [2, 1, 0] rfl
  · have hF := (if_pos c1).symm.trans hF
    refine z_iconst (q := 8) C dX10_wrong_7 rfl ?_
    have hF := Option.some.inj hF
    subst hF
    exact z_iret C e1 e2 dX10_wrong_8
set_option maxRecDepth 20000 in
set_option maxHeartbeats 4000000 in
theorem M_fX10_wrong {l : Launch} {D : va_G} {cy : ClassId} {α : Nat → Nat} {n : Nat} {σ : zSg} {d : Nat} (hd : 5 ≤ d) {N : Nat} {h : zH} {r : Int} {g : zH} (hF : fX10_wrong N h = some (r, g)) : zMet l yX10_wrong cX10_wrong 3 (some .int) (zrm d) D cy α n σ [.ref (α 0)] h (some (.int (zi r))) g := by
  obtain ⟨d, rfl⟩ : ∃ e, d = e + 1 := ⟨d - 1, by omega⟩
  refine z_met (by decide +kernel) (Nat.le_of_ble_eq_true rfl) (fun κ k1 k2 k3 k4 k5 k6 k7 k8 k9 C => ?_)
  subst k1 k3 k4 k5 k6 k7
  exact J_fX10_wrong C k2 hd k8 k9 hF
set_option maxRecDepth 20000 in
set_option maxHeartbeats 4000000 in
theorem J_fX10_works_c58b {κ : zT} (C : zC κ RX10 cX10_works 8 (some .int)) {d : Nat} (hR : zR κ = zrm (d + 1)) (hd : 4 ≤ d + 1) {N : Nat} {h : zH} {r : Int} (e1 : zrv κ = some (.int (zi r))) (e2 : zhf κ = h) {K37 : Int → Int → Int → Int → Int → Option Int} (hK37 : ∀ (l1 : Int) (l2 : Int) (l3 : Int) (l4 : Int) (l5 : Int), K37 l1 l2 l3 l4 l5 = some r → Z κ h 37 [(0, .ref (zα κ 0)), (1, .int (zi l1)), (2, .int (zi l2)), (3, .int (zi l3)), (4, .int (zi l4)), (5, .int (zi l5))] []) {K58 : Int → Int → Int → Int → Int → Int → Int → Option Int} (hK58 : ∀ (l1 : Int) (l2 : Int) (l3 : Int) (l4 : Int) (l5 : Int) (l6 : Int) (l7 : Int), K58 l1 l2 l3 l4 l5 l6 l7 = some r → Z κ h 58 [(0, .ref (zα κ 0)), (1, .int (zi l1)), (2, .int (zi l2)), (3, .int (zi l3)), (4, .int (zi l4)), (5, .int (zi l5)), (6, .int (zi l6)), (7, .int (zi l7))] []) (l1 : Int) (l2 : Int) (l3 : Int) (l4 : Int) (l5 : Int) (l6 : Int) (l7 : Int) (hF : fX10_works_c58b N h K37 K58 l1 l2 l3 l4 l5 l6 l7 = some r) : Z κ h 58 [(0, .ref (zα κ 0)), (1, .int (zi l1)), (2, .int (zi l2)), (3, .int (zi l3)), (4, .int (zi l4)), (5, .int (zi l5)), (6, .int (zi l6)), (7, .int (zi l7))] [] := by
  unfold fX10_works_c58b at hF
  refine z_iload (q := 60) C dX10_works_58 7 rfl rfl ?_
  refine z_iload (q := 62) C dX10_works_60 5 rfl rfl ?_
  refine z_iload_n (q := 63) C dX10_works_62 1 rfl rfl rfl ?_
  refine z_iadd (q := 64) C dX10_works_63 rfl ?_
  refine z_icmp_ge (tgt := 87) (q := 67) C dX10_works_64 (by decide) rfl (fun c1 => ?_) (fun c1 => ?_)
  · have hF := (if_pos c1).symm.trans hF
    refine z_iload (q := 89) C dX10_works_87 6 rfl rfl ?_
    refine z_iload (q := 91) C dX10_works_89 4 rfl rfl ?_
    refine z_icmp_le (tgt := 101) (q := 94) C dX10_works_91 (by decide) rfl (fun c2 => ?_) (fun c2 => ?_)
    · have hF := (if_pos c2).symm.trans hF
      refine z_iinc (q := 104) (x := l5) C dX10_works_101 (j := 5) rfl (by decide) rfl rfl ?_
      refine z_goto (q := 37) C dX10_works_104 (by decide) ?_
      exact z_sub (hK37 _ _ _ _ _ hF) [1, 2, 3, 4, 5, 0] rfl
    · have hF := (if_neg c2).symm.trans hF
      refine z_iload (q := 96) C dX10_works_94 5 rfl rfl ?_
      refine z_istore_n (q := 97) C dX10_works_96 (by decide) rfl rfl rfl ?_
      refine z_iload (q := 99) C dX10_works_97 6 rfl rfl ?_
      refine z_istore (q := 101) C dX10_works_99 (by decide) rfl rfl ?_
      refine z_iinc (q := 104) (x := l5) C dX10_works_101 (j := 5) rfl (by decide) rfl rfl ?_
      refine z_goto (q := 37) C dX10_works_104 (by decide) ?_
      exact z_sub (hK37 _ _ _ _ _ hF) [3, 4, 5, 2, 1, 0] rfl
  · have hF := (if_neg c1).symm.trans hF
    refine z_iload (q := 69) C dX10_works_67 6 rfl rfl ?_
    refine z_aload_n (q := 70) C dX10_works_69 0 rfl rfl rfl ?_
    refine z_getf (q := 73) C clX10 (zon C zo_0) kd_0 (k := 6) (by decide) q_277 rfl (zfv_r kd_0 rfl fr_0_6) dX10_works_70 rfl ?_
    refine z_iload (q := 75) C dX10_works_73 7 rfl rfl ?_
    refine z_callV (q := 78) (o := 7) (av := [.int (zi l7)]) (rest := [.int (zi l6)]) (stk2 := [.int (zi (fX8_hoursOfLight 7 l7 h)), .int (zi l6)]) C hR clX8 (zon C zo_7) kd_7 (M_fX8_hoursOfLight (zlv hd rfl) zo_7 kd_7 rfl) mY_X8_hoursOfLight q_842 (Nat.le_of_ble_eq_true rfl) dX10_works_75 rfl rfl rfl ?_
    refine z_iadd (q := 79) C dX10_works_78 rfl ?_
    obtain ⟨v3, ev3, hF⟩ := zlet_e hF
    refine z_istoreE (q := 81) C ev3 dX10_works_79 (by decide) rfl rfl ?_
    refine z_iinc (q := 84) (x := l7) C dX10_works_81 (j := 7) rfl (by decide) rfl rfl ?_
    refine z_goto (q := 58) C dX10_works_84 (by decide) ?_
    exact z_sub (hK58 _ _ _ _ _ _ _ hF) [2, 3, 4, 5, 6, 7, 1, 0] rfl
set_option maxRecDepth 20000 in
set_option maxHeartbeats 4000000 in
theorem J_fX10_works_c58 {κ : zT} (C : zC κ RX10 cX10_works 8 (some .int)) {d : Nat} (hR : zR κ = zrm (d + 1)) (hd : 4 ≤ d + 1) {N : Nat} {h : zH} {r : Int} (e1 : zrv κ = some (.int (zi r))) (e2 : zhf κ = h) {K37 : Int → Int → Int → Int → Int → Option Int} (hK37 : ∀ (l1 : Int) (l2 : Int) (l3 : Int) (l4 : Int) (l5 : Int), K37 l1 l2 l3 l4 l5 = some r → Z κ h 37 [(0, .ref (zα κ 0)), (1, .int (zi l1)), (2, .int (zi l2)), (3, .int (zi l3)), (4, .int (zi l4)), (5, .int (zi l5))] []) : ∀ (k : Nat) (l1 : Int) (l2 : Int) (l3 : Int) (l4 : Int) (l5 : Int) (l6 : Int) (l7 : Int), fX10_works_c58 N h K37 k l1 l2 l3 l4 l5 l6 l7 = some r → Z κ h 58 [(0, .ref (zα κ 0)), (1, .int (zi l1)), (2, .int (zi l2)), (3, .int (zi l3)), (4, .int (zi l4)), (5, .int (zi l5)), (6, .int (zi l6)), (7, .int (zi l7))] [] := by
  intro k
  induction k with
  | zero => intro l1 l2 l3 l4 l5 l6 l7 hF; cases hF
  | succ k ih => intro l1 l2 l3 l4 l5 l6 l7 hF; exact J_fX10_works_c58b C hR hd e1 e2 hK37 ih l1 l2 l3 l4 l5 l6 l7 hF
set_option maxRecDepth 20000 in
set_option maxHeartbeats 4000000 in
theorem J_fX10_works_c37b {κ : zT} (C : zC κ RX10 cX10_works 8 (some .int)) {d : Nat} (hR : zR κ = zrm (d + 1)) (hd : 4 ≤ d + 1) {N : Nat} {h : zH} {r : Int} (e1 : zrv κ = some (.int (zi r))) (e2 : zhf κ = h) {K37 : Int → Int → Int → Int → Int → Option Int} (hK37 : ∀ (l1 : Int) (l2 : Int) (l3 : Int) (l4 : Int) (l5 : Int), K37 l1 l2 l3 l4 l5 = some r → Z κ h 37 [(0, .ref (zα κ 0)), (1, .int (zi l1)), (2, .int (zi l2)), (3, .int (zi l3)), (4, .int (zi l4)), (5, .int (zi l5))] []) (l1 : Int) (l2 : Int) (l3 : Int) (l4 : Int) (l5 : Int) (hF : fX10_works_c37b N h K37 l1 l2 l3 l4 l5 = some r) : Z κ h 37 [(0, .ref (zα κ 0)), (1, .int (zi l1)), (2, .int (zi l2)), (3, .int (zi l3)), (4, .int (zi l4)), (5, .int (zi l5))] [] := by
  unfold fX10_works_c37b at hF
  refine z_iload (q := 39) C dX10_works_37 5 rfl rfl ?_
  refine z_iload_n (q := 40) C dX10_works_39 1 rfl rfl rfl ?_
  refine z_iadd (q := 41) C dX10_works_40 rfl ?_
  refine z_aload_n (q := 42) C dX10_works_41 0 rfl rfl rfl ?_
  refine z_getf (q := 45) C clX10 (zon C zo_0) kd_0 (k := 6) (by decide) q_277 rfl (zfv_r kd_0 rfl fr_0_6) dX10_works_42 rfl ?_
  refine z_callV (q := 48) (o := 7) (av := []) (rest := [.int (zi (l5 + l1))]) (stk2 := [.int (zi (fX8_logLength 7 h)), .int (zi (l5 + l1))]) C hR clX8 (zon C zo_7) kd_7 (M_fX8_logLength (zlv hd rfl) zo_7 kd_7 rfl) mY_X8_logLength q_833 (Nat.le_of_ble_eq_true rfl) dX10_works_45 rfl rfl rfl ?_
  refine z_icmp_gt (tgt := 107) (q := 51) C dX10_works_48 (by decide) rfl (fun c1 => ?_) (fun c1 => ?_)
  · have hF := (if_pos c1).symm.trans hF
    refine z_iload_n (q := 108) C dX10_works_107 2 rfl rfl rfl ?_
    refine z_if_ne (tgt := 115) (q := 111) C dX10_works_108 (by decide) rfl (fun c2 => ?_) (fun c2 => ?_)
    · have hF := (if_neg c2).symm.trans hF
      refine z_iload (q := 117) C dX10_works_115 4 rfl rfl ?_
      have hF := Option.some.inj hF
      subst hF
      exact z_iret C e1 e2 dX10_works_117
    · have hF := (if_pos c2).symm.trans hF
      refine z_iload_n (q := 112) C dX10_works_111 3 rfl rfl rfl ?_
      refine z_goto (q := 117) C dX10_works_112 (by decide) ?_
      have hF := Option.some.inj hF
      subst hF
      exact z_iret C e1 e2 dX10_works_117
  · have hF := (if_neg c1).symm.trans hF
    refine z_iconst (q := 52) C dX10_works_51 rfl ?_
    refine z_istore (q := 54) C dX10_works_52 (by decide) rfl rfl ?_
    refine z_iload (q := 56) C dX10_works_54 6 rfl rfl ?_
    refine z_istore (q := 58) C dX10_works_56 (by decide) rfl rfl ?_
    exact z_sub (J_fX10_works_c58 C hR hd e1 e2 hK37 N _ _ _ _ _ _ _ hF) [2, 3, 4, 5, 6, 7, 1, 0] rfl
set_option maxRecDepth 20000 in
set_option maxHeartbeats 4000000 in
theorem J_fX10_works_c37 {κ : zT} (C : zC κ RX10 cX10_works 8 (some .int)) {d : Nat} (hR : zR κ = zrm (d + 1)) (hd : 4 ≤ d + 1) {N : Nat} {h : zH} {r : Int} (e1 : zrv κ = some (.int (zi r))) (e2 : zhf κ = h) : ∀ (k : Nat) (l1 : Int) (l2 : Int) (l3 : Int) (l4 : Int) (l5 : Int), fX10_works_c37 N h k l1 l2 l3 l4 l5 = some r → Z κ h 37 [(0, .ref (zα κ 0)), (1, .int (zi l1)), (2, .int (zi l2)), (3, .int (zi l3)), (4, .int (zi l4)), (5, .int (zi l5))] [] := by
  intro k
  induction k with
  | zero => intro l1 l2 l3 l4 l5 hF; cases hF
  | succ k ih => intro l1 l2 l3 l4 l5 hF; exact J_fX10_works_c37b C hR hd e1 e2 ih l1 l2 l3 l4 l5 hF
set_option maxRecDepth 20000 in
set_option maxHeartbeats 4000000 in
theorem J_fX10_works {κ : zT} (C : zC κ RX10 cX10_works 8 (some .int)) {d : Nat} (hR : zR κ = zrm (d + 1)) (hd : 4 ≤ d + 1) {N : Nat} {h : zH} {r : Int} (e1 : zrv κ = some (.int (zi r))) (e2 : zhf κ = h) {a1 : Int} {a2 : Int} (hF : fX10_works N a1 a2 h = some r) : Z κ h 0 [(0, .ref (zα κ 0)), (1, .int (zi a1)), (2, .int (zi a2))] [] := by
  unfold fX10_works at hF
  refine z_aload_n (q := 1) C dX10_works_0 0 rfl rfl rfl ?_
  refine z_callV (q := 4) (o := 0) (av := []) (rest := []) (stk2 := [.int (zi (fX10_hasHill h))]) C hR clX10 (zon C zo_0) kd_0 (M_fX10_hasHill (zlv hd rfl) rfl) mY_X10_hasHill q_625 (Nat.le_of_ble_eq_true rfl) dX10_works_1 rfl rfl rfl ?_
  refine z_if_eq (tgt := 27) (q := 7) C dX10_works_4 (by decide) rfl (fun c1 => ?_) (fun c1 => ?_)
  · have hF := (if_pos c1).symm.trans hF
    refine z_iconst (q := 28) C dX10_works_27 rfl ?_
    have hF := Option.some.inj hF
    subst hF
    exact z_iret C e1 e2 dX10_works_28
  · have hF := (if_neg c1).symm.trans hF
    refine z_iload_n (q := 8) C dX10_works_7 1 rfl rfl rfl ?_
    refine z_iconst (q := 9) C dX10_works_8 rfl ?_
    refine z_icmp_lt (tgt := 27) (q := 12) C dX10_works_9 (by decide) rfl (fun c2 => ?_) (fun c2 => ?_)
    · have hF := (if_pos c2).symm.trans hF
      refine z_iconst (q := 28) C dX10_works_27 rfl ?_
      have hF := Option.some.inj hF
      subst hF
      exact z_iret C e1 e2 dX10_works_28
    · have hF := (if_neg c2).symm.trans hF
      refine z_iload_n (q := 13) C dX10_works_12 1 rfl rfl rfl ?_
      refine z_bipush (q := 15) C dX10_works_13 bp_9 rfl ?_
      refine z_icmp_gt (tgt := 27) (q := 18) C dX10_works_15 (by decide) rfl (fun c3 => ?_) (fun c3 => ?_)
      · have hF := (if_pos c3).symm.trans hF
        refine z_iconst (q := 28) C dX10_works_27 rfl ?_
        have hF := Option.some.inj hF
        subst hF
        exact z_iret C e1 e2 dX10_works_28
      · have hF := (if_neg c3).symm.trans hF
        refine z_iload_n (q := 19) C dX10_works_18 2 rfl rfl rfl ?_
        refine z_if_lt (tgt := 27) (q := 22) C dX10_works_19 (by decide) rfl (fun c4 => ?_) (fun c4 => ?_)
        · have hF := (if_pos c4).symm.trans hF
          refine z_iconst (q := 28) C dX10_works_27 rfl ?_
          have hF := Option.some.inj hF
          subst hF
          exact z_iret C e1 e2 dX10_works_28
        · have hF := (if_neg c4).symm.trans hF
          refine z_iload_n (q := 23) C dX10_works_22 2 rfl rfl rfl ?_
          refine z_iconst (q := 24) C dX10_works_23 rfl ?_
          refine z_icmp_le (tgt := 29) (q := 27) C dX10_works_24 (by decide) rfl (fun c5 => ?_) (fun c5 => ?_)
          · have hF := (if_pos c5).symm.trans hF
            refine z_iconst (q := 30) C dX10_works_29 rfl ?_
            refine z_istore_n (q := 31) C dX10_works_30 (by decide) rfl rfl rfl ?_
            refine z_iconst (q := 32) C dX10_works_31 rfl ?_
            refine z_istore (q := 34) C dX10_works_32 (by decide) rfl rfl ?_
            refine z_iconst (q := 35) C dX10_works_34 rfl ?_
            refine z_istore (q := 37) C dX10_works_35 (by decide) rfl rfl ?_
            exact z_sub (J_fX10_works_c37 C hR hd e1 e2 N _ _ _ _ _ hF) [3, 4, 5, 2, 1, 0] rfl
          · have hF := (if_neg c5).symm.trans hF
            refine z_iconst (q := 28) C dX10_works_27 rfl ?_
            have hF := Option.some.inj hF
            subst hF
            exact z_iret C e1 e2 dX10_works_28
set_option maxRecDepth 20000 in
set_option maxHeartbeats 4000000 in
theorem M_fX10_works {l : Launch} {D : va_G} {cy : ClassId} {α : Nat → Nat} {n : Nat} {σ : zSg} {d : Nat} (hd : 4 ≤ d) {N : Nat} {a1 : Int} {a2 : Int} {h : zH} {r : Int} (hF : fX10_works N a1 a2 h = some r) : zMet l yX10_works cX10_works 8 (some .int) (zrm d) D cy α n σ [.ref (α 0), .int (zi a1), .int (zi a2)] h (some (.int (zi r))) h := by
  obtain ⟨d, rfl⟩ : ∃ e, d = e + 1 := ⟨d - 1, by omega⟩
  refine z_met (by decide +kernel) (Nat.le_of_ble_eq_true rfl) (fun κ k1 k2 k3 k4 k5 k6 k7 k8 k9 C => ?_)
  subst k1 k3 k4 k5 k6 k7
  exact J_fX10_works C k2 hd k8 k9 hF
set_option maxRecDepth 20000 in
set_option maxHeartbeats 4000000 in
theorem J_fX10_image {κ : zT} (C : zC κ RX10 cX10_image 1 (some .int)) {d : Nat} (hR : zR κ = zrm (d + 1)) (hd : 4 ≤ d + 1) {r : Int × zH} (e1 : zrv κ = some (.int (zi r.1))) (e2 : zhf κ = r.2) {h : zH} (hF : fX10_image h = some r) : Z κ h 0 [(0, .ref (zα κ 0))] [] := by
  unfold fX10_image at hF
  refine z_aload_n (q := 1) C dX10_image_0 0 rfl rfl rfl ?_
  refine z_callV (q := 4) (o := 0) (av := []) (rest := []) (stk2 := [.int (zi (fX10_hasHill h))]) C hR clX10 (zon C zo_0) kd_0 (M_fX10_hasHill (zlv hd rfl) rfl) mY_X10_hasHill q_625 (Nat.le_of_ble_eq_true rfl) dX10_image_1 rfl rfl rfl ?_
  refine z_if_ne (tgt := 9) (q := 7) C dX10_image_4 (by decide) rfl (fun c1 => ?_) (fun c1 => ?_)
  · have hF := (if_neg c1).symm.trans hF
    refine z_aload_n (q := 10) C dX10_image_9 0 rfl rfl rfl ?_
    refine z_getf (q := 13) C clX10 (zon C zo_0) kd_0 (k := 8) (by decide) q_279 rfl (zfv_r kd_0 rfl fr_0_8) dX10_image_10 rfl ?_
    refine z_aload_n (q := 14) C dX10_image_13 0 rfl rfl rfl ?_
    refine z_getf (q := 17) C clX10 (zon C zo_0) kd_0 (k := 6) (by decide) q_277 rfl (zfv_r kd_0 rfl fr_0_6) dX10_image_14 rfl ?_
    obtain ⟨h2, eh2, hF⟩ := zb_e hF
    refine z_callV (q := 20) (o := 9) (av := [.ref (zα κ 7)]) (rest := []) (stk2 := []) C hR clX8 (zon C zo_9) kd_9 (M_fX8_take (zlv hd rfl) zo_9 kd_9 zo_7 kd_7 eh2) mY_X8_take q_868 (Nat.le_of_ble_eq_true rfl) dX10_image_17 rfl rfl rfl ?_
    refine z_aload_n (q := 21) C dX10_image_20 0 rfl rfl rfl ?_
    refine z_iconst (q := 22) C dX10_image_21 rfl ?_
    obtain ⟨h3, eh3, hF⟩ := zlet_e hF
    refine z_putf (q := 25) C clX10 (zon C zo_0) kd_0 (k := 13) (x := 1) (by decide) q_284 rfl rfl (zbn (Or.inr rfl)) (zbf (Or.inr rfl)) (((zfv_i kd_0 rfl)).trans (by rw [if_pos rfl])) dX10_image_22 rfl eh3 ?_
    refine z_aload_n (q := 26) C dX10_image_25 0 rfl rfl rfl ?_
    refine z_getf (q := 29) C clX10 (zon C zo_0) kd_0 (k := 6) (by decide) q_277 rfl (zfv_r kd_0 rfl fr_0_6) dX10_image_26 rfl ?_
    refine z_callV (q := 32) (o := 7) (av := []) (rest := []) (stk2 := [.int (zi (fX8_hour 7 h3))]) C hR clX8 (zon C zo_7) kd_7 (M_fX8_hour (zlv hd rfl) zo_7 kd_7 rfl) mY_X8_hour q_717 (Nat.le_of_ble_eq_true rfl) dX10_image_29 rfl rfl rfl ?_
    have hF := Option.some.inj hF
    subst hF
    exact z_iret C e1 e2 dX10_image_32
  · have hF := (if_pos c1).symm.trans hF
    refine z_iconst (q := 8) C dX10_image_7 rfl ?_
    have hF := Option.some.inj hF
    subst hF
    exact z_iret C e1 e2 dX10_image_8
set_option maxRecDepth 20000 in
set_option maxHeartbeats 4000000 in
theorem M_fX10_image {l : Launch} {D : va_G} {cy : ClassId} {α : Nat → Nat} {n : Nat} {σ : zSg} {d : Nat} (hd : 4 ≤ d) {h : zH} {r : Int} {g : zH} (hF : fX10_image h = some (r, g)) : zMet l yX10_image cX10_image 1 (some .int) (zrm d) D cy α n σ [.ref (α 0)] h (some (.int (zi r))) g := by
  obtain ⟨d, rfl⟩ : ∃ e, d = e + 1 := ⟨d - 1, by omega⟩
  refine z_met (by decide +kernel) (Nat.le_of_ble_eq_true rfl) (fun κ k1 k2 k3 k4 k5 k6 k7 k8 k9 C => ?_)
  subst k1 k3 k4 k5 k6 k7
  exact J_fX10_image C k2 hd k8 k9 hF
set_option maxRecDepth 20000 in
set_option maxHeartbeats 4000000 in
theorem J_fX10_back {κ : zT} (C : zC κ RX10 cX10_back 1 (some .int)) {d : Nat} (hR : zR κ = zrm (d + 1)) (hd : 3 ≤ d + 1) {r : Int × zH} (e1 : zrv κ = some (.int (zi r.1))) (e2 : zhf κ = r.2) {h : zH} (hF : fX10_back h = some r) : Z κ h 0 [(0, .ref (zα κ 0))] [] := by
  unfold fX10_back at hF
  refine z_aload_n (q := 1) C dX10_back_0 0 rfl rfl rfl ?_
  refine z_getf (q := 4) C clX10 (zon C zo_0) kd_0 (k := 13) (by decide) q_284 rfl (zfv_i kd_0 rfl) dX10_back_1 rfl ?_
  refine z_if_ne (tgt := 9) (q := 7) C dX10_back_4 (by decide) rfl (fun c1 => ?_) (fun c1 => ?_)
  · have hF := (if_neg c1).symm.trans hF
    refine z_aload_n (q := 10) C dX10_back_9 0 rfl rfl rfl ?_
    refine z_getf (q := 13) C clX10 (zon C zo_0) kd_0 (k := 6) (by decide) q_277 rfl (zfv_r kd_0 rfl fr_0_6) dX10_back_10 rfl ?_
    refine z_aload_n (q := 14) C dX10_back_13 0 rfl rfl rfl ?_
    refine z_getf (q := 17) C clX10 (zon C zo_0) kd_0 (k := 8) (by decide) q_279 rfl (zfv_r kd_0 rfl fr_0_8) dX10_back_14 rfl ?_
    obtain ⟨h2, eh2, hF⟩ := zb_e hF
    refine z_callV (q := 20) (o := 7) (av := [.ref (zα κ 9)]) (rest := []) (stk2 := []) C hR clX8 (zon C zo_7) kd_7 (M_fX8_take (zlv hd rfl) zo_7 kd_7 zo_9 kd_9 eh2) mY_X8_take q_868 (Nat.le_of_ble_eq_true rfl) dX10_back_17 rfl rfl rfl ?_
    refine z_aload_n (q := 21) C dX10_back_20 0 rfl rfl rfl ?_
    refine z_getf (q := 24) C clX10 (zon C zo_0) kd_0 (k := 9) (by decide) q_280 rfl (zfv_r kd_0 rfl fr_0_9) dX10_back_21 rfl ?_
    obtain ⟨h3, eh3, hF⟩ := zlet_e hF
    refine z_callV (q := 27) (o := 10) (av := []) (rest := []) (stk2 := []) C hR clX0 (zon C zo_10) kd_10 (M_fX0_forget (zlv hd rfl) eh3.symm) mY_X0_forget q_603 (Nat.le_of_ble_eq_true rfl) dX10_back_24 rfl rfl rfl ?_
    refine z_aload_n (q := 28) C dX10_back_27 0 rfl rfl rfl ?_
    refine z_getf (q := 31) C clX10 (zon C zo_0) kd_0 (k := 6) (by decide) q_277 rfl (zfv_r kd_0 rfl fr_0_6) dX10_back_28 rfl ?_
    refine z_callV (q := 34) (o := 7) (av := []) (rest := []) (stk2 := [.int (zi (fX8_hour 7 h3))]) C hR clX8 (zon C zo_7) kd_7 (M_fX8_hour (zlv hd rfl) zo_7 kd_7 rfl) mY_X8_hour q_717 (Nat.le_of_ble_eq_true rfl) dX10_back_31 rfl rfl rfl ?_
    have hF := Option.some.inj hF
    subst hF
    exact z_iret C e1 e2 dX10_back_34
  · have hF := (if_pos c1).symm.trans hF
    refine z_iconst (q := 8) C dX10_back_7 rfl ?_
    have hF := Option.some.inj hF
    subst hF
    exact z_iret C e1 e2 dX10_back_8
set_option maxRecDepth 20000 in
set_option maxHeartbeats 4000000 in
theorem M_fX10_back {l : Launch} {D : va_G} {cy : ClassId} {α : Nat → Nat} {n : Nat} {σ : zSg} {d : Nat} (hd : 3 ≤ d) {h : zH} {r : Int} {g : zH} (hF : fX10_back h = some (r, g)) : zMet l yX10_back cX10_back 1 (some .int) (zrm d) D cy α n σ [.ref (α 0)] h (some (.int (zi r))) g := by
  obtain ⟨d, rfl⟩ : ∃ e, d = e + 1 := ⟨d - 1, by omega⟩
  refine z_met (by decide +kernel) (Nat.le_of_ble_eq_true rfl) (fun κ k1 k2 k3 k4 k5 k6 k7 k8 k9 C => ?_)
  subst k1 k3 k4 k5 k6 k7
  exact J_fX10_back C k2 hd k8 k9 hF
