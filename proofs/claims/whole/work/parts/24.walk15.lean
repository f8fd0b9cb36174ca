set_option maxRecDepth 20000 in
set_option maxHeartbeats 4000000 in
theorem J_fX11_lacks_c37b {κ : zT} (C : zC κ RX11 cX11_lacks 6 (some .int)) {d : Nat} (hR : zR κ = zrm (d + 1)) (hd : 2 ≤ d + 1) {N : Nat} {h : zH} {r : Int} (e1 : zrv κ = some (.int (zi r))) (e2 : zhf κ = h) {K27 : Int → Int → Int → Option Int} (hK27 : ∀ (l2 : Int) (l3 : Int) (l4 : Int), K27 l2 l3 l4 = some r → Z κ h 27 [(0, .ref (zα κ 14)), (2, .int (zi l2)), (3, .int (zi l3)), (4, .int (zi l4))] []) {K37 : Int → Int → Int → Int → Option Int} (hK37 : ∀ (l2 : Int) (l3 : Int) (l4 : Int) (l5 : Int), K37 l2 l3 l4 l5 = some r → Z κ h 37 [(0, .ref (zα κ 14)), (2, .int (zi l2)), (3, .int (zi l3)), (4, .int (zi l4)), (5, .int (zi l5))] []) (l2 : Int) (l3 : Int) (l4 : Int) (l5 : Int) (hF : fX11_lacks_c37b N h K27 K37 l2 l3 l4 l5 = some r) : Z κ h 37 [(0, .ref (zα κ 14)), (2, .int (zi l2)), (3, .int (zi l3)), (4, .int (zi l4)), (5, .int (zi l5))] [] := by
  unfold fX11_lacks_c37b at hF
  refine z_iload (q := 39) C dX11_lacks_37 4 rfl rfl ?_
  refine z_aload_n (q := 40) C dX11_lacks_39 0 rfl rfl rfl ?_
  refine z_getf (q := 43) C clX11 (zon C zo_14) kd_14 (k := 30) (by decide) q_1132 rfl (zfv_i kd_14 rfl) dX11_lacks_40 rfl ?_
  refine z_icmp_ge (tgt := 78) (q := 46) C dX11_lacks_43 (by decide) rfl (fun c1 => ?_) (fun c1 => ?_)
  · have hF := (if_pos c1).symm.trans hF
    refine z_iinc (q := 81) (x := l4) C dX11_lacks_78 (j := 3) rfl (by decide) rfl rfl ?_
    refine z_goto (q := 27) C dX11_lacks_81 (by decide) ?_
    exact z_sub (hK27 _ _ _ hF) [1, 2, 3, 0] rfl
  · have hF := (if_neg c1).symm.trans hF
    refine z_iload_n (q := 47) C dX11_lacks_46 2 rfl rfl rfl ?_
    refine z_iload_n (q := 48) C dX11_lacks_47 2 rfl rfl rfl ?_
    refine z_iload (q := 50) C dX11_lacks_48 4 rfl rfl ?_
    refine z_callS (q := 53) (av := [.int (zi l3), .int (zi l5)]) (rest := [.int (zi l3)]) (stk2 := [.int (zi (fX11_has l3 l5)), .int (zi l3)]) C hR (M_fX11_has (zlv hd rfl) rfl) mY_X11_has q_1294 (Nat.le_of_ble_eq_true rfl) dX11_lacks_50 rfl rfl rfl ?_
    refine z_if_eq (tgt := 69) (q := 56) C dX11_lacks_53 (by decide) rfl (fun c2 => ?_) (fun c2 => ?_)
    · have hF := (if_pos c2).symm.trans hF
      refine z_iconst (q := 70) C dX11_lacks_69 rfl ?_
      refine z_ior (q := 71) C dX11_lacks_70 rfl ?_
      refine z_istore_n (q := 72) C dX11_lacks_71 (by decide) rfl rfl rfl ?_
      refine z_iinc (q := 75) (x := l5) C dX11_lacks_72 (j := 4) rfl (by decide) rfl rfl ?_
      refine z_goto (q := 37) C dX11_lacks_75 (by decide) ?_
      exact z_sub (hK37 _ _ _ _ hF) [2, 3, 1, 4, 0] rfl
    · have hF := (if_neg c2).symm.trans hF
      refine z_aload_n (q := 57) C dX11_lacks_56 0 rfl rfl rfl ?_
      refine z_iload (q := 59) C dX11_lacks_57 4 rfl rfl ?_
      obtain ⟨v3, ev3, hF⟩ := zb_e hF
      refine z_callV (q := 62) (o := 14) (av := [.int (zi l5)]) (rest := [.int (zi l3)]) (stk2 := [.int (zi v3), .int (zi l3)]) C hR clX11 (zon C zo_14) kd_14 (M_fX11_wants (zlv hd rfl) ev3) mY_X11_wants q_1486 (Nat.le_of_ble_eq_true rfl) dX11_lacks_59 rfl rfl rfl ?_
      refine z_iload_n (q := 63) C dX11_lacks_62 1 rfl rfl rfl ?_
      refine z_iconst (q := 64) C dX11_lacks_63 rfl ?_
      refine z_ixor (q := 65) C dX11_lacks_64 rfl ?_
      refine z_iand (q := 66) C dX11_lacks_65 rfl ?_
      refine z_goto (q := 70) C dX11_lacks_66 (by decide) ?_
      refine z_ior (q := 71) C dX11_lacks_70 rfl ?_
      obtain ⟨v4, ev4, hF⟩ := zlet_e hF
      refine z_istoreE_n (q := 72) C ev4 dX11_lacks_71 (by decide) rfl rfl rfl ?_
      refine z_iinc (q := 75) (x := l5) C dX11_lacks_72 (j := 4) rfl (by decide) rfl rfl ?_
      refine z_goto (q := 37) C dX11_lacks_75 (by decide) ?_
      exact z_sub (hK37 _ _ _ _ hF) [2, 3, 1, 4, 0] rfl
set_option maxRecDepth 20000 in
set_option maxHeartbeats 4000000 in
theorem J_fX11_lacks_c37 {κ : zT} (C : zC κ RX11 cX11_lacks 6 (some .int)) {d : Nat} (hR : zR κ = zrm (d + 1)) (hd : 2 ≤ d + 1) {N : Nat} {h : zH} {r : Int} (e1 : zrv κ = some (.int (zi r))) (e2 : zhf κ = h) {K27 : Int → Int → Int → Option Int} (hK27 : ∀ (l2 : Int) (l3 : Int) (l4 : Int), K27 l2 l3 l4 = some r → Z κ h 27 [(0, .ref (zα κ 14)), (2, .int (zi l2)), (3, .int (zi l3)), (4, .int (zi l4))] []) : ∀ (k : Nat) (l2 : Int) (l3 : Int) (l4 : Int) (l5 : Int), fX11_lacks_c37 N h K27 k l2 l3 l4 l5 = some r → Z κ h 37 [(0, .ref (zα κ 14)), (2, .int (zi l2)), (3, .int (zi l3)), (4, .int (zi l4)), (5, .int (zi l5))] [] := by
  intro k
  induction k with
  | zero => intro l2 l3 l4 l5 hF; cases hF
  | succ k ih => intro l2 l3 l4 l5 hF; exact J_fX11_lacks_c37b C hR hd e1 e2 hK27 ih l2 l3 l4 l5 hF
set_option maxRecDepth 20000 in
set_option maxHeartbeats 4000000 in
theorem J_fX11_lacks_c27b {κ : zT} (C : zC κ RX11 cX11_lacks 6 (some .int)) {d : Nat} (hR : zR κ = zrm (d + 1)) (hd : 2 ≤ d + 1) {N : Nat} {h : zH} {r : Int} (e1 : zrv κ = some (.int (zi r))) (e2 : zhf κ = h) {K27 : Int → Int → Int → Option Int} (hK27 : ∀ (l2 : Int) (l3 : Int) (l4 : Int), K27 l2 l3 l4 = some r → Z κ h 27 [(0, .ref (zα κ 14)), (2, .int (zi l2)), (3, .int (zi l3)), (4, .int (zi l4))] []) (l2 : Int) (l3 : Int) (l4 : Int) (hF : fX11_lacks_c27b N h K27 l2 l3 l4 = some r) : Z κ h 27 [(0, .ref (zα κ 14)), (2, .int (zi l2)), (3, .int (zi l3)), (4, .int (zi l4))] [] := by
  unfold fX11_lacks_c27b at hF
  refine z_iload (q := 29) C dX11_lacks_27 3 rfl rfl ?_
  refine z_bipush (q := 31) C dX11_lacks_29 bp_8 rfl ?_
  refine z_icmp_ge (tgt := 84) (q := 34) C dX11_lacks_31 (by decide) rfl (fun c1 => ?_) (fun c1 => ?_)
  · have hF := (if_pos c1).symm.trans hF
    refine z_iload_n (q := 85) C dX11_lacks_84 2 rfl rfl rfl ?_
    cases hF
    exact z_iret C e1 e2 dX11_lacks_85
  · have hF := (if_neg c1).symm.trans hF
    refine z_iconst (q := 35) C dX11_lacks_34 rfl ?_
    refine z_istore (q := 37) C dX11_lacks_35 (by decide) rfl rfl ?_
    exact z_sub (J_fX11_lacks_c37 C hR hd e1 e2 hK27 N _ _ _ _ hF) [1, 2, 3, 4, 0] rfl
set_option maxRecDepth 20000 in
set_option maxHeartbeats 4000000 in
theorem J_fX11_lacks_c27 {κ : zT} (C : zC κ RX11 cX11_lacks 6 (some .int)) {d : Nat} (hR : zR κ = zrm (d + 1)) (hd : 2 ≤ d + 1) {N : Nat} {h : zH} {r : Int} (e1 : zrv κ = some (.int (zi r))) (e2 : zhf κ = h) : ∀ (k : Nat) (l2 : Int) (l3 : Int) (l4 : Int), fX11_lacks_c27 N h k l2 l3 l4 = some r → Z κ h 27 [(0, .ref (zα κ 14)), (2, .int (zi l2)), (3, .int (zi l3)), (4, .int (zi l4))] [] := by
  intro k
  induction k with
  | zero => intro l2 l3 l4 hF; cases hF
  | succ k ih => intro l2 l3 l4 hF; exact J_fX11_lacks_c27b C hR hd e1 e2 ih l2 l3 l4 hF
set_option maxRecDepth 20000 in
set_option maxHeartbeats 4000000 in
theorem J_fX11_lacks {κ : zT} (C : zC κ RX11 cX11_lacks 6 (some .int)) {d : Nat} (hR : zR κ = zrm (d + 1)) (hd : 2 ≤ d + 1) {N : Nat} {h : zH} {r : Int} (e1 : zrv κ = some (.int (zi r))) (e2 : zhf κ = h) {a1 : Int} {a2 : Int} (hF : fX11_lacks N a1 a2 h = some r) : Z κ h 0 [(0, .ref (zα κ 14)), (1, .int (zi a1)), (2, .int (zi a2))] [] := by
  unfold fX11_lacks at hF
  refine z_iload_n (q := 1) C dX11_lacks_0 2 rfl rfl rfl ?_
  refine z_aload_n (q := 2) C dX11_lacks_1 0 rfl rfl rfl ?_
  refine z_iload_n (q := 3) C dX11_lacks_2 1 rfl rfl rfl ?_
  obtain ⟨v1, ev1, hF⟩ := zb_e hF
  refine z_callV (q := 6) (o := 14) (av := [.int (zi a1)]) (rest := [.int (zi a2)]) (stk2 := [.int (zi v1), .int (zi a2)]) C hR clX11 (zon C zo_14) kd_14 (M_fX11_form (zlv hd rfl) ev1) mY_X11_form q_1530 (Nat.le_of_ble_eq_true rfl) dX11_lacks_3 rfl rfl rfl ?_
  refine z_callS (q := 9) (av := [.int (zi a2), .int (zi v1)]) (rest := []) (stk2 := [.int (zi (fX11_has a2 v1))]) C hR (M_fX11_has (zlv hd rfl) rfl) mY_X11_has q_1294 (Nat.le_of_ble_eq_true rfl) dX11_lacks_6 rfl rfl rfl ?_
  refine z_if_eq (tgt := 16) (q := 12) C dX11_lacks_9 (by decide) rfl (fun c2 => ?_) (fun c2 => ?_)
  · have hF := (if_pos c2).symm.trans hF
    refine z_iconst (q := 17) C dX11_lacks_16 rfl ?_
    refine z_aload_n (q := 18) C dX11_lacks_17 0 rfl rfl rfl ?_
    refine z_iload_n (q := 19) C dX11_lacks_18 1 rfl rfl rfl ?_
    obtain ⟨v3, ev3, hF⟩ := zb_e hF
    refine z_callV (q := 22) (o := 14) (av := [.int (zi a1)]) (rest := [.int (zi 1)]) (stk2 := [.int (zi v3), .int (zi 1)]) C hR clX11 (zon C zo_14) kd_14 (M_fX11_form (zlv hd rfl) ev3) mY_X11_form q_1530 (Nat.le_of_ble_eq_true rfl) dX11_lacks_19 rfl rfl rfl ?_
    refine z_ishl (q := 23) C dX11_lacks_22 rfl ?_
    obtain ⟨v4, ev4, hF⟩ := zlet_e hF
    refine z_istoreE_n (q := 24) C ev4 dX11_lacks_23 (by decide) rfl rfl rfl ?_
    refine z_iconst (q := 25) C dX11_lacks_24 rfl ?_
    refine z_istore (q := 27) C dX11_lacks_25 (by decide) rfl rfl ?_
    exact z_sub (J_fX11_lacks_c27 C hR hd e1 e2 N _ _ _ hF) [2, 4, 1, 0] rfl
  · have hF := (if_neg c2).symm.trans hF
    refine z_iconst (q := 13) C dX11_lacks_12 rfl ?_
    refine z_goto (q := 23) C dX11_lacks_13 (by decide) ?_
    refine z_istore_n (q := 24) C dX11_lacks_23 (by decide) rfl rfl rfl ?_
    refine z_iconst (q := 25) C dX11_lacks_24 rfl ?_
    refine z_istore (q := 27) C dX11_lacks_25 (by decide) rfl rfl ?_
    exact z_sub (J_fX11_lacks_c27 C hR hd e1 e2 N _ _ _ hF) [2, 4, 1, 0] rfl
set_option maxRecDepth 20000 in
set_option maxHeartbeats 4000000 in
theorem M_fX11_lacks {l : Launch} {D : va_G} {cy : ClassId} {α : Nat → Nat} {n : Nat} {σ : zSg} {d : Nat} (hd : 2 ≤ d) {N : Nat} {a1 : Int} {a2 : Int} {h : zH} {r : Int} (hF : fX11_lacks N a1 a2 h = some r) : zMet l yX11_lacks cX11_lacks 6 (some .int) (zrm d) D cy α n σ [.ref (α 14), .int (zi a1), .int (zi a2)] h (some (.int (zi r))) h := by
  obtain ⟨d, rfl⟩ : ∃ e, d = e + 1 := ⟨d - 1, by omega⟩
  refine z_met (by decide +kernel) (Nat.le_of_ble_eq_true rfl) (fun κ k1 k2 k3 k4 k5 k6 k7 k8 k9 C => ?_)
  subst k1 k3 k4 k5 k6 k7
  exact J_fX11_lacks C k2 hd k8 k9 hF
set_option maxRecDepth 20000 in
set_option maxHeartbeats 4000000 in
theorem J_fX11_hadBy_c18b {κ : zT} (C : zC κ RX11 cX11_hadBy 5 (some .int)) {d : Nat} (hR : zR κ = zrm (d + 1)) (hd : 2 ≤ d + 1) {N : Nat} {h : zH} {r : Int} (e1 : zrv κ = some (.int (zi r))) (e2 : zhf κ = h) {K18 : Int → Int → Int → Option Int} (hK18 : ∀ (l1 : Int) (l3 : Int) (l4 : Int), K18 l1 l3 l4 = some r → Z κ h 18 [(0, .ref (zα κ 14)), (1, .int (zi l1)), (3, .int (zi l3)), (4, .int (zi l4))] []) (l1 : Int) (l3 : Int) (l4 : Int) (hF : fX11_hadBy_c18b N h K18 l1 l3 l4 = some r) : Z κ h 18 [(0, .ref (zα κ 14)), (1, .int (zi l1)), (3, .int (zi l3)), (4, .int (zi l4))] [] := by
  unfold fX11_hadBy_c18b at hF
  refine z_iload_n (q := 19) C dX11_hadBy_18 2 rfl rfl rfl ?_
  refine z_if_le (tgt := 53) (q := 22) C dX11_hadBy_19 (by decide) rfl (fun c1 => ?_) (fun c1 => ?_)
  · have hF := (if_pos c1).symm.trans hF
    refine z_iload (q := 55) C dX11_hadBy_53 3 rfl rfl ?_
    cases hF
    exact z_iret C e1 e2 dX11_hadBy_55
  · have hF := (if_neg c1).symm.trans hF
    refine z_iload_n (q := 23) C dX11_hadBy_22 2 rfl rfl rfl ?_
    refine z_aload_n (q := 24) C dX11_hadBy_23 0 rfl rfl rfl ?_
    refine z_aload_n (q := 25) C dX11_hadBy_24 0 rfl rfl rfl ?_
    refine z_iload_n (q := 26) C dX11_hadBy_25 1 rfl rfl rfl ?_
    obtain ⟨v2, ev2, hF⟩ := zb_e hF
    refine z_callV (q := 29) (o := 14) (av := [.int (zi l1)]) (rest := [.ref (zα κ 14), .int (zi l3)]) (stk2 := [.int (zi v2), .ref (zα κ 14), .int (zi l3)]) C hR clX11 (zon C zo_14) kd_14 (M_fX11_deskOf (zlv hd rfl) ev2) mY_X11_deskOf q_1446 (Nat.le_of_ble_eq_true rfl) dX11_hadBy_26 rfl rfl rfl ?_
    refine z_iload (q := 31) C dX11_hadBy_29 3 rfl rfl ?_
    refine z_bipush (q := 33) C dX11_hadBy_31 bp_24 rfl ?_
    refine z_irem (q := 34) C (by decide) dX11_hadBy_33 rfl ?_
    obtain ⟨v3, ev3, hF⟩ := zb_e hF
    refine z_callV (q := 37) (o := 14) (av := [.int (zi v2), .int (zi (zrem l4 24))]) (rest := [.int (zi l3)]) (stk2 := [.int (zi v3), .int (zi l3)]) C hR clX11 (zon C zo_14) kd_14 (M_fX11_isOpen (zlv hd rfl) ev3) mY_X11_isOpen q_1458 (Nat.le_of_ble_eq_true rfl) dX11_hadBy_34 rfl rfl rfl ?_
    refine z_if_eq (tgt := 44) (q := 40) C dX11_hadBy_37 (by decide) rfl (fun c4 => ?_) (fun c4 => ?_)
    · have hF := (if_pos c4).symm.trans hF
      refine z_iconst (q := 45) C dX11_hadBy_44 rfl ?_
      refine z_isub (q := 46) C dX11_hadBy_45 rfl ?_
      refine z_istore_n (q := 47) C dX11_hadBy_46 (by decide) rfl rfl rfl ?_
      refine z_iinc (q := 50) (x := l4) C dX11_hadBy_47 (j := 3) rfl (by decide) rfl rfl ?_
      refine z_goto (q := 18) C dX11_hadBy_50 (by decide) ?_
      exact z_sub (hK18 _ _ _ hF) [2, 3, 1, 0] rfl
    · have hF := (if_neg c4).symm.trans hF
      refine z_iconst (q := 41) C dX11_hadBy_40 rfl ?_
      refine z_goto (q := 45) C dX11_hadBy_41 (by decide) ?_
      refine z_isub (q := 46) C dX11_hadBy_45 rfl ?_
      refine z_istore_n (q := 47) C dX11_hadBy_46 (by decide) rfl rfl rfl ?_
      refine z_iinc (q := 50) (x := l4) C dX11_hadBy_47 (j := 3) rfl (by decide) rfl rfl ?_
      refine z_goto (q := 18) C dX11_hadBy_50 (by decide) ?_
      exact z_sub (hK18 _ _ _ hF) [2, 3, 1, 0] rfl
set_option maxRecDepth 20000 in
set_option maxHeartbeats 4000000 in
theorem J_fX11_hadBy_c18 {κ : zT} (C : zC κ RX11 cX11_hadBy 5 (some .int)) {d : Nat} (hR : zR κ = zrm (d + 1)) (hd : 2 ≤ d + 1) {N : Nat} {h : zH} {r : Int} (e1 : zrv κ = some (.int (zi r))) (e2 : zhf κ = h) : ∀ (k : Nat) (l1 : Int) (l3 : Int) (l4 : Int), fX11_hadBy_c18 N h k l1 l3 l4 = some r → Z κ h 18 [(0, .ref (zα κ 14)), (1, .int (zi l1)), (3, .int (zi l3)), (4, .int (zi l4))] [] := by
  intro k
  induction k with
  | zero => intro l1 l3 l4 hF; cases hF
  | succ k ih => intro l1 l3 l4 hF; exact J_fX11_hadBy_c18b C hR hd e1 e2 ih l1 l3 l4 hF
set_option maxRecDepth 20000 in
set_option maxHeartbeats 4000000 in
theorem J_fX11_hadBy {κ : zT} (C : zC κ RX11 cX11_hadBy 5 (some .int)) {d : Nat} (hR : zR κ = zrm (d + 1)) (hd : 2 ≤ d + 1) {N : Nat} {h : zH} {r : Int} (e1 : zrv κ = some (.int (zi r))) (e2 : zhf κ = h) {a1 : Int} {a2 : Int} (hF : fX11_hadBy N a1 a2 h = some r) : Z κ h 0 [(0, .ref (zα κ 14)), (1, .int (zi a1)), (2, .int (zi a2))] [] := by
  unfold fX11_hadBy at hF
  refine z_aload_n (q := 1) C dX11_hadBy_0 0 rfl rfl rfl ?_
  refine z_getf (q := 4) C clX11 (zon C zo_14) kd_14 (k := 26) (by decide) q_1128 rfl (zfv_r kd_14 rfl fr_14_26) dX11_hadBy_1 rfl ?_
  refine z_iconst (q := 5) C dX11_hadBy_4 rfl ?_
  refine z_aload_n (q := 6) C dX11_hadBy_5 0 rfl rfl rfl ?_
  refine z_iload_n (q := 7) C dX11_hadBy_6 1 rfl rfl rfl ?_
  obtain ⟨v1, ev1, hF⟩ := zb_e hF
  refine z_callV (q := 10) (o := 14) (av := [.int (zi a1)]) (rest := [.int (zi 4), .ref (zα κ 65)]) (stk2 := [.int (zi v1), .int (zi 4), .ref (zα κ 65)]) C hR clX11 (zon C zo_14) kd_14 (M_fX11_deskOf (zlv hd rfl) ev1) mY_X11_deskOf q_1446 (Nat.le_of_ble_eq_true rfl) dX11_hadBy_7 rfl rfl rfl ?_
  refine z_imul (q := 11) C dX11_hadBy_10 rfl ?_
  refine z_iconst (q := 12) C dX11_hadBy_11 rfl ?_
  refine z_iadd (q := 13) C dX11_hadBy_12 rfl ?_
  obtain ⟨g2, hF⟩ := zif_none hF
  refine z_iald (q := 14) C (zon C zo_65) kd_65 g2.1 (by rw [ln_65]; exact g2.2) dX11_hadBy_13 rfl ?_
  obtain ⟨v3, ev3, hF⟩ := zlet_e hF
  refine z_istoreE_n (q := 15) C ev3 dX11_hadBy_14 (by decide) rfl rfl rfl ?_
  refine z_iload_n (q := 16) C dX11_hadBy_15 3 rfl rfl rfl ?_
  refine z_istore (q := 18) C dX11_hadBy_16 (by decide) rfl rfl ?_
  exact z_sub (J_fX11_hadBy_c18 C hR hd e1 e2 N _ _ _ hF) [2, 3, 1, 0] rfl
set_option maxRecDepth 20000 in
set_option maxHeartbeats 4000000 in
theorem M_fX11_hadBy {l : Launch} {D : va_G} {cy : ClassId} {α : Nat → Nat} {n : Nat} {σ : zSg} {d : Nat} (hd : 2 ≤ d) {N : Nat} {a1 : Int} {a2 : Int} {h : zH} {r : Int} (hF : fX11_hadBy N a1 a2 h = some r) : zMet l yX11_hadBy cX11_hadBy 5 (some .int) (zrm d) D cy α n σ [.ref (α 14), .int (zi a1), .int (zi a2)] h (some (.int (zi r))) h := by
  obtain ⟨d, rfl⟩ : ∃ e, d = e + 1 := ⟨d - 1, by omega⟩
  refine z_met (by decide +kernel) (Nat.le_of_ble_eq_true rfl) (fun κ k1 k2 k3 k4 k5 k6 k7 k8 k9 C => ?_)
  subst k1 k3 k4 k5 k6 k7
  exact J_fX11_hadBy C k2 hd k8 k9 hF
set_option maxRecDepth 20000 in
set_option maxHeartbeats 4000000 in
theorem J_fX11_tryRows_c54b {κ : zT} (C : zC κ RX11 cX11_tryRows 7 none) {d : Nat} (hR : zR κ = zrm (d + 1)) (hd : 3 ≤ d + 1) {N : Nat} {R_fX11_tryRows : Int → Int → Int → Int → Int → zH → Option zH} (hM_fX11_tryRows : ∀ {a1 : Int} {a2 : Int} {a3 : Int} {a4 : Int} {a5 : Int} {h : zH} {g : zH} (hF : R_fX11_tryRows a1 a2 a3 a4 a5 h = some g), zMet (zla κ) yX11_tryRows cX11_tryRows 7 none (zrm d) (zD κ) (zcy κ) (zα κ) (zn κ) (zσ κ) [.ref (zα κ 14), .int (zi a1), .int (zi a2), .int (zi a3), .int (zi a4), .int (zi a5)] h (none) g) {r : zH} (e1 : zrv κ = none) (e2 : zhf κ = r) {K54 : Int → Int → Int → Int → Int → Int → zH → Option zH} (hK54 : ∀ (l1 : Int) (l2 : Int) (l3 : Int) (l4 : Int) (l5 : Int) (l6 : Int) (h : zH), K54 l1 l2 l3 l4 l5 l6 h = some r → Z κ h 54 [(0, .ref (zα κ 14)), (1, .int (zi l1)), (2, .int (zi l2)), (3, .int (zi l3)), (4, .int (zi l4)), (5, .int (zi l5)), (6, .int (zi l6))] []) (l1 : Int) (l2 : Int) (l3 : Int) (l4 : Int) (l5 : Int) (l6 : Int) (h : zH) (hF : fX11_tryRows_c54b N R_fX11_tryRows K54 l1 l2 l3 l4 l5 l6 h = some r) : Z κ h 54 [(0, .ref (zα κ 14)), (1, .int (zi l1)), (2, .int (zi l2)), (3, .int (zi l3)), (4, .int (zi l4)), (5, .int (zi l5)), (6, .int (zi l6))] [] := by
  unfold fX11_tryRows_c54b at hF
  refine z_iload (q := 56) C dX11_tryRows_54 6 rfl rfl ?_
  refine z_aload_n (q := 57) C dX11_tryRows_56 0 rfl rfl rfl ?_
  refine z_getf (q := 60) C clX11 (zon C zo_14) kd_14 (k := 30) (by decide) q_1132 rfl (zfv_i kd_14 rfl) dX11_tryRows_57 rfl ?_
  refine z_icmp_ge (tgt := 142) (q := 63) C dX11_tryRows_60 (by decide) rfl (fun c1 => ?_) (fun c1 => ?_)
  · have hF := (if_pos c1).symm.trans hF
    cases hF
    exact z_vret C e1 e2 dX11_tryRows_142
  · have hF := (if_neg c1).symm.trans hF
    refine z_iload_n (q := 64) C dX11_tryRows_63 1 rfl rfl rfl ?_
    refine z_iload (q := 66) C dX11_tryRows_64 6 rfl rfl ?_
    refine z_callS (q := 69) (av := [.int (zi l1), .int (zi l6)]) (rest := []) (stk2 := [.int (zi (fX11_has l1 l6))]) C hR (M_fX11_has (zlv hd rfl) rfl) mY_X11_has q_1294 (Nat.le_of_ble_eq_true rfl) dX11_tryRows_66 rfl rfl rfl ?_
    refine z_if_eq (tgt := 136) (q := 72) C dX11_tryRows_69 (by decide) rfl (fun c2 => ?_) (fun c2 => ?_)
    · have hF := (if_pos c2).symm.trans hF
      refine z_iinc (q := 139) (x := l6) C dX11_tryRows_136 (j := 6) rfl (by decide) rfl rfl ?_
      refine z_goto (q := 54) C dX11_tryRows_139 (by decide) ?_
      exact z_sub (hK54 _ _ _ _ _ _ _ hF) [1, 2, 3, 4, 5, 6, 0] rfl
    · have hF := (if_neg c2).symm.trans hF
      refine z_aload_n (q := 73) C dX11_tryRows_72 0 rfl rfl rfl ?_
      refine z_iload (q := 75) C dX11_tryRows_73 6 rfl rfl ?_
      obtain ⟨v3, ev3, hF⟩ := zb_e hF
      refine z_callV (q := 78) (o := 14) (av := [.int (zi l6)]) (rest := []) (stk2 := [.int (zi v3)]) C hR clX11 (zon C zo_14) kd_14 (M_fX11_wants (zlv hd rfl) ev3) mY_X11_wants q_1486 (Nat.le_of_ble_eq_true rfl) dX11_tryRows_75 rfl rfl rfl ?_
      refine z_iload_n (q := 79) C dX11_tryRows_78 2 rfl rfl rfl ?_
      refine z_iconst (q := 80) C dX11_tryRows_79 rfl ?_
      refine z_ixor (q := 81) C dX11_tryRows_80 rfl ?_
      refine z_iand (q := 82) C dX11_tryRows_81 rfl ?_
      refine z_if_ne (tgt := 136) (q := 85) C dX11_tryRows_82 (by decide) rfl (fun c4 => ?_) (fun c4 => ?_)
      · have hF := (if_neg c4).symm.trans hF
        refine z_iinc (q := 139) (x := l6) C dX11_tryRows_136 (j := 6) rfl (by decide) rfl rfl ?_
        refine z_goto (q := 54) C dX11_tryRows_139 (by decide) ?_
        exact z_sub (hK54 _ _ _ _ _ _ _ hF) [1, 2, 3, 4, 5, 6, 0] rfl
      · have hF := (if_pos c4).symm.trans hF
        refine z_aload_n (q := 86) C dX11_tryRows_85 0 rfl rfl rfl ?_
        refine z_iload_n (q := 87) C dX11_tryRows_86 1 rfl rfl rfl ?_
        refine z_iconst (q := 88) C dX11_tryRows_87 rfl ?_
        refine z_iload (q := 90) C dX11_tryRows_88 6 rfl rfl ?_
        refine z_ishl (q := 91) C dX11_tryRows_90 rfl ?_
        refine z_iconst (q := 92) C dX11_tryRows_91 rfl ?_
        refine z_ixor (q := 93) C dX11_tryRows_92 rfl ?_
        refine z_iand (q := 94) C dX11_tryRows_93 rfl ?_
        refine z_iload_n (q := 95) C dX11_tryRows_94 2 rfl rfl rfl ?_
        refine z_iconst (q := 96) C dX11_tryRows_95 rfl ?_
        refine z_iload (q := 98) C dX11_tryRows_96 6 rfl rfl ?_
        refine z_ishl (q := 99) C dX11_tryRows_98 rfl ?_
        refine z_ior (q := 100) C dX11_tryRows_99 rfl ?_
        refine z_aload_n (q := 101) C dX11_tryRows_100 0 rfl rfl rfl ?_
        refine z_iload (q := 103) C dX11_tryRows_101 6 rfl rfl ?_
        refine z_iload_n (q := 104) C dX11_tryRows_103 3 rfl rfl rfl ?_
        obtain ⟨v5, ev5, hF⟩ := zb_e hF
        refine z_callV (q := 107) (o := 14) (av := [.int (zi l6), .int (zi l3)]) (rest := [.int (zi (zor l2 (zshl 1 l6))), .int (zi (zand l1 (zxor (zshl 1 l6) (-1)))), .ref (zα κ 14)]) (stk2 := [.int (zi v5), .int (zi (zor l2 (zshl 1 l6))), .int (zi (zand l1 (zxor (zshl 1 l6) (-1)))), .ref (zα κ 14)]) C hR clX11 (zon C zo_14) kd_14 (M_fX11_hadBy (zlv hd rfl) ev5) mY_X11_hadBy q_1647 (Nat.le_of_ble_eq_true rfl) dX11_tryRows_104 rfl rfl rfl ?_
        refine z_bipush (q := 109) C dX11_tryRows_107 bp_10 rfl ?_
        refine z_iload (q := 111) C dX11_tryRows_109 4 rfl rfl ?_
        refine z_imul (q := 112) C dX11_tryRows_111 rfl ?_
        refine z_iload (q := 114) C dX11_tryRows_112 6 rfl rfl ?_
        refine z_iadd (q := 115) C dX11_tryRows_114 rfl ?_
        refine z_iload (q := 117) C dX11_tryRows_115 5 rfl rfl ?_
        refine z_aload_n (q := 118) C dX11_tryRows_117 0 rfl rfl rfl ?_
        refine z_getf (q := 121) C clX11 (zon C zo_14) kd_14 (k := 26) (by decide) q_1128 rfl (zfv_r kd_14 rfl fr_14_26) dX11_tryRows_118 rfl ?_
        refine z_iconst (q := 122) C dX11_tryRows_121 rfl ?_
        refine z_aload_n (q := 123) C dX11_tryRows_122 0 rfl rfl rfl ?_
        refine z_iload (q := 125) C dX11_tryRows_123 6 rfl rfl ?_
        obtain ⟨v6, ev6, hF⟩ := zb_e hF
        refine z_callV (q := 128) (o := 14) (av := [.int (zi l6)]) (rest := [.int (zi 4), .ref (zα κ 65), .int (zi l5), .int (zi ((10 * l4) + l6)), .int (zi v5), .int (zi (zor l2 (zshl 1 l6))), .int (zi (zand l1 (zxor (zshl 1 l6) (-1)))), .ref (zα κ 14)]) (stk2 := [.int (zi v6), .int (zi 4), .ref (zα κ 65), .int (zi l5), .int (zi ((10 * l4) + l6)), .int (zi v5), .int (zi (zor l2 (zshl 1 l6))), .int (zi (zand l1 (zxor (zshl 1 l6) (-1)))), .ref (zα κ 14)]) C hR clX11 (zon C zo_14) kd_14 (M_fX11_deskOf (zlv hd rfl) ev6) mY_X11_deskOf q_1446 (Nat.le_of_ble_eq_true rfl) dX11_tryRows_125 rfl rfl rfl ?_
        refine z_imul (q := 129) C dX11_tryRows_128 rfl ?_
        refine z_iconst (q := 130) C dX11_tryRows_129 rfl ?_
        refine z_iadd (q := 131) C dX11_tryRows_130 rfl ?_
        obtain ⟨g7, hF⟩ := zif_none hF
        refine z_iald (q := 132) C (zon C zo_65) kd_65 g7.1 (by rw [ln_65]; exact g7.2) dX11_tryRows_131 rfl ?_
        refine z_iadd (q := 133) C dX11_tryRows_132 rfl ?_
        obtain ⟨h8, eh8, hF⟩ := zb_e hF
        refine z_callV (q := 136) (o := 14) (av := [.int (zi (zand l1 (zxor (zshl 1 l6) (-1)))), .int (zi (zor l2 (zshl 1 l6))), .int (zi v5), .int (zi ((10 * l4) + l6)), .int (zi (l5 + (h 65 (zw ((4 * v6) + 3)).toNat)))]) (rest := []) (stk2 := []) C hR clX11 (zon C zo_14) kd_14 (hM_fX11_tryRows eh8) mY_X11_tryRows q_1643 (Nat.le_of_ble_eq_true rfl) dX11_tryRows_133 rfl rfl rfl ?_
        refine z_iinc (q := 139) (x := l6) C dX11_tryRows_136 (j := 6) rfl (by decide) rfl rfl ?_
        refine z_goto (q := 54) C dX11_tryRows_139 (by decide) ?_
        exact z_sub (hK54 _ _ _ _ _ _ _ hF) [1, 2, 3, 4, 5, 6, 0] rfl
set_option maxRecDepth 20000 in
set_option maxHeartbeats 4000000 in
theorem J_fX11_tryRows_c54 {κ : zT} (C : zC κ RX11 cX11_tryRows 7 none) {d : Nat} (hR : zR κ = zrm (d + 1)) (hd : 3 ≤ d + 1) {N : Nat} {R_fX11_tryRows : Int → Int → Int → Int → Int → zH → Option zH} (hM_fX11_tryRows : ∀ {a1 : Int} {a2 : Int} {a3 : Int} {a4 : Int} {a5 : Int} {h : zH} {g : zH} (hF : R_fX11_tryRows a1 a2 a3 a4 a5 h = some g), zMet (zla κ) yX11_tryRows cX11_tryRows 7 none (zrm d) (zD κ) (zcy κ) (zα κ) (zn κ) (zσ κ) [.ref (zα κ 14), .int (zi a1), .int (zi a2), .int (zi a3), .int (zi a4), .int (zi a5)] h (none) g) {r : zH} (e1 : zrv κ = none) (e2 : zhf κ = r) : ∀ (k : Nat) (l1 : Int) (l2 : Int) (l3 : Int) (l4 : Int) (l5 : Int) (l6 : Int) (h : zH), fX11_tryRows_c54 N R_fX11_tryRows k l1 l2 l3 l4 l5 l6 h = some r → Z κ h 54 [(0, .ref (zα κ 14)), (1, .int (zi l1)), (2, .int (zi l2)), (3, .int (zi l3)), (4, .int (zi l4)), (5, .int (zi l5)), (6, .int (zi l6))] [] := by
  intro k
  induction k with
  | zero => intro l1 l2 l3 l4 l5 l6 h hF; cases hF
  | succ k ih => intro l1 l2 l3 l4 l5 l6 h hF; exact J_fX11_tryRows_c54b C hR hd hM_fX11_tryRows e1 e2 ih l1 l2 l3 l4 l5 l6 h hF
set_option maxRecDepth 20000 in
set_option maxHeartbeats 4000000 in
theorem J_fX11_tryRows_b {κ : zT} (C : zC κ RX11 cX11_tryRows 7 none) {d : Nat} (hR : zR κ = zrm (d + 1)) (hd : 3 ≤ d + 1) {N : Nat} {R_fX11_tryRows : Int → Int → Int → Int → Int → zH → Option zH} (hM_fX11_tryRows : ∀ {a1 : Int} {a2 : Int} {a3 : Int} {a4 : Int} {a5 : Int} {h : zH} {g : zH} (hF : R_fX11_tryRows a1 a2 a3 a4 a5 h = some g), zMet (zla κ) yX11_tryRows cX11_tryRows 7 none (zrm d) (zD κ) (zcy κ) (zα κ) (zn κ) (zσ κ) [.ref (zα κ 14), .int (zi a1), .int (zi a2), .int (zi a3), .int (zi a4), .int (zi a5)] h (none) g) {r : zH} (e1 : zrv κ = none) (e2 : zhf κ = r) {a1 : Int} {a2 : Int} {a3 : Int} {a4 : Int} {a5 : Int} {h : zH} (hF : fX11_tryRows_b N R_fX11_tryRows a1 a2 a3 a4 a5 h = some r) : Z κ h 0 [(0, .ref (zα κ 14)), (1, .int (zi a1)), (2, .int (zi a2)), (3, .int (zi a3)), (4, .int (zi a4)), (5, .int (zi a5))] [] := by
  unfold fX11_tryRows_b at hF
  refine z_iload_n (q := 1) C dX11_tryRows_0 1 rfl rfl rfl ?_
  refine z_if_ne (tgt := 51) (q := 4) C dX11_tryRows_1 (by decide) rfl (fun c1 => ?_) (fun c1 => ?_)
  · have hF := (if_neg c1).symm.trans hF
    refine z_iconst (q := 52) C dX11_tryRows_51 rfl ?_
    refine z_istore (q := 54) C dX11_tryRows_52 (by decide) rfl rfl ?_
    exact z_sub (J_fX11_tryRows_c54 C hR hd hM_fX11_tryRows e1 e2 N _ _ _ _ _ _ _ hF) [1, 2, 3, 4, 5, 6, 0] rfl
  · have hF := (if_pos c1).symm.trans hF
    refine z_iload_n (q := 5) C dX11_tryRows_4 3 rfl rfl rfl ?_
    refine z_aload_n (q := 6) C dX11_tryRows_5 0 rfl rfl rfl ?_
    refine z_getf (q := 9) C clX11 (zon C zo_14) kd_14 (k := 34) (by decide) q_1136 rfl (zfv_r kd_14 rfl fr_14_34) dX11_tryRows_6 rfl ?_
    refine z_bipush (q := 11) C dX11_tryRows_9 bp_42 rfl ?_
    refine z_ialdc (q := 12) (j := 42) C (zon C zo_69) kd_69 zwk_42 (by rw [ln_69]; decide) dX11_tryRows_11 rfl ?_
    refine z_isub (q := 13) C dX11_tryRows_12 rfl ?_
    obtain ⟨v2, ev2, hF⟩ := zlet_e hF
    refine z_istoreE (q := 15) C ev2 dX11_tryRows_13 (by decide) rfl rfl ?_
    refine z_aload_n (q := 16) C dX11_tryRows_15 1 rfl rfl rfl ?_
    refine z_getf (q := 19) C clX11 (zon C zo_14) kd_14 (k := 41) (by decide) q_1143 rfl (zfv_i kd_14 rfl) dX11_tryRows_16 rfl ?_
    refine z_iconst (q := 20) C dX11_tryRows_19 rfl ?_
    refine z_icmp_eq (tgt := 32) (q := 23) C dX11_tryRows_20 (by decide) rfl (fun c3 => ?_) (fun c3 => ?_)
    · have hF := (if_pos c3).symm.trans hF
      refine z_aload_n (q := 33) C dX11_tryRows_32 1 rfl rfl rfl ?_
      refine z_iload (q := 35) C dX11_tryRows_33 0 rfl rfl ?_
      obtain ⟨h4, eh4, hF⟩ := zlet_e hF
      refine z_putf (q := 38) C clX11 (zon C zo_14) kd_14 (k := 41) (x := v2) (by decide) q_1143 rfl rfl rfl rfl (((zfv_i kd_14 rfl)).trans (by rw [if_pos rfl])) dX11_tryRows_35 rfl eh4 ?_
      refine z_aload_n (q := 39) C dX11_tryRows_38 1 rfl rfl rfl ?_
      refine z_iload (q := 41) C dX11_tryRows_39 5 rfl rfl ?_
      obtain ⟨h5, eh5, hF⟩ := zlet_e hF
      refine z_putf (q := 44) C clX11 (zon C zo_14) kd_14 (k := 40) (x := a4) (by decide) q_1142 rfl rfl rfl rfl (((zfv_i kd_14 rfl)).trans (by rw [if_pos rfl])) dX11_tryRows_41 rfl eh5 ?_
      refine z_aload_n (q := 45) C dX11_tryRows_44 1 rfl rfl rfl ?_
      refine z_iload (q := 47) C dX11_tryRows_45 6 rfl rfl ?_
      obtain ⟨h6, eh6, hF⟩ := zlet_e hF
      refine z_putf (q := 50) C clX11 (zon C zo_14) kd_14 (k := 42) (x := a5) (by decide) q_1144 rfl rfl rfl rfl (((zfv_i kd_14 rfl)).trans (by rw [if_pos rfl])) dX11_tryRows_47 rfl eh6 ?_
      cases hF
      exact z_vret C e1 e2 dX11_tryRows_50
    · have hF := (if_neg c3).symm.trans hF
      refine z_iload (q := 25) C dX11_tryRows_23 0 rfl rfl ?_
      refine z_aload_n (q := 26) C dX11_tryRows_25 1 rfl rfl rfl ?_
      refine z_getf (q := 29) C clX11 (zon C zo_14) kd_14 (k := 41) (by decide) q_1143 rfl (zfv_i kd_14 rfl) dX11_tryRows_26 rfl ?_
      refine z_icmp_ge (tgt := 50) (q := 32) C dX11_tryRows_29 (by decide) rfl (fun c7 => ?_) (fun c7 => ?_)
      · have hF := (if_pos c7).symm.trans hF
        cases hF
        exact z_vret C e1 e2 dX11_tryRows_50
      · have hF := (if_neg c7).symm.trans hF
        refine z_aload_n (q := 33) C dX11_tryRows_32 1 rfl rfl rfl ?_
        refine z_iload (q := 35) C dX11_tryRows_33 0 rfl rfl ?_
        obtain ⟨h8, eh8, hF⟩ := zlet_e hF
        refine z_putf (q := 38) C clX11 (zon C zo_14) kd_14 (k := 41) (x := v2) (by decide) q_1143 rfl rfl rfl rfl (((zfv_i kd_14 rfl)).trans (by rw [if_pos rfl])) dX11_tryRows_35 rfl eh8 ?_
        refine z_aload_n (q := 39) C dX11_tryRows_38 1 rfl rfl rfl ?_
        refine z_iload (q := 41) C dX11_tryRows_39 5 rfl rfl ?_
        obtain ⟨h9, eh9, hF⟩ := zlet_e hF
        refine z_putf (q := 44) C clX11 (zon C zo_14) kd_14 (k := 40) (x := a4) (by decide) q_1142 rfl rfl rfl rfl (((zfv_i kd_14 rfl)).trans (by rw [if_pos rfl])) dX11_tryRows_41 rfl eh9 ?_
        refine z_aload_n (q := 45) C dX11_tryRows_44 1 rfl rfl rfl ?_
        refine z_iload (q := 47) C dX11_tryRows_45 6 rfl rfl ?_
        obtain ⟨h10, eh10, hF⟩ := zlet_e hF
        refine z_putf (q := 50) C clX11 (zon C zo_14) kd_14 (k := 42) (x := a5) (by decide) q_1144 rfl rfl rfl rfl (((zfv_i kd_14 rfl)).trans (by rw [if_pos rfl])) dX11_tryRows_47 rfl eh10 ?_
        cases hF
        exact z_vret C e1 e2 dX11_tryRows_50
set_option maxRecDepth 20000 in
set_option maxHeartbeats 4000000 in
theorem MG_fX11_tryRows {N : Nat} : ∀ (k : Nat) {l : Launch} {D : va_G} {cy : ClassId} {α : Nat → Nat} {n : Nat} {σ : zSg} {d : Nat} (hd : 2 + k ≤ d), (∀ {a1 : Int} {a2 : Int} {a3 : Int} {a4 : Int} {a5 : Int} {h : zH} {g : zH} (hF : ((fG_X11_tryRows N k)) a1 a2 a3 a4 a5 h = some g), zMet l yX11_tryRows cX11_tryRows 7 none (zrm d) D cy α n σ [.ref (α 14), .int (zi a1), .int (zi a2), .int (zi a3), .int (zi a4), .int (zi a5)] h (none) g) := by
  intro k
  induction k with
  | zero => intro l D cy α n σ d hd; exact (by intros; rename_i hF; cases hF)
  | succ k ih =>
    intro l D cy α n σ d hd
    obtain ⟨d, rfl⟩ : ∃ e, d = e + 1 := ⟨d - 1, by omega⟩
    · intro a1 a2 a3 a4 a5 h g hF
      refine z_met (by decide +kernel) (Nat.le_of_ble_eq_true rfl) (fun κ k1 k2 k3 k4 k5 k6 k7 k8 k9 C => ?_)
      subst k1 k3 k4 k5 k6 k7
      exact J_fX11_tryRows_b (N := N) C k2 (by omega) ((ih (by omega : 2 + k ≤ d))) k8 k9 hF
set_option maxRecDepth 20000 in
set_option maxHeartbeats 4000000 in
theorem M_fX11_tryRows {l : Launch} {D : va_G} {cy : ClassId} {α : Nat → Nat} {n : Nat} {σ : zSg} {d : Nat} (hd : 62 ≤ d) {N : Nat} {a1 : Int} {a2 : Int} {a3 : Int} {a4 : Int} {a5 : Int} {h : zH} {g : zH} (hF : fX11_tryRows N a1 a2 a3 a4 a5 h = some g) : zMet l yX11_tryRows cX11_tryRows 7 none (zrm d) D cy α n σ [.ref (α 14), .int (zi a1), .int (zi a2), .int (zi a3), .int (zi a4), .int (zi a5)] h (none) g :=
  (MG_fX11_tryRows 60 (by omega : 2 + 60 ≤ d)) hF
set_option maxRecDepth 20000 in
set_option maxHeartbeats 4000000 in
theorem J_fX11_laySoonest {κ : zT} (C : zC κ RX11 cX11_laySoonest 4 none) {d : Nat} (hR : zR κ = zrm (d + 1)) (hd : 63 ≤ d + 1) {N : Nat} {r : zH} (e1 : zrv κ = none) (e2 : zhf κ = r) {a1 : Int} {a2 : Int} {h : zH} (hF : fX11_laySoonest N a1 a2 h = some r) : Z κ h 0 [(0, .ref (zα κ 14)), (1, .int (zi a1)), (2, .int (zi a2))] [] := by
  unfold fX11_laySoonest at hF
  refine z_aload_n (q := 1) C dX11_laySoonest_0 0 rfl rfl rfl ?_
  refine z_iconst (q := 2) C dX11_laySoonest_1 rfl ?_
  obtain ⟨h1, eh1, hF⟩ := zlet_e hF
  refine z_putf (q := 5) C clX11 (zon C zo_14) kd_14 (k := 41) (x := (-1)) (by decide) q_1143 rfl rfl rfl rfl (((zfv_i kd_14 rfl)).trans (by rw [if_pos rfl])) dX11_laySoonest_2 rfl eh1 ?_
  refine z_aload_n (q := 6) C dX11_laySoonest_5 0 rfl rfl rfl ?_
  refine z_iconst (q := 7) C dX11_laySoonest_6 rfl ?_
  obtain ⟨h2, eh2, hF⟩ := zlet_e hF
  refine z_putf (q := 10) C clX11 (zon C zo_14) kd_14 (k := 40) (x := (-1)) (by decide) q_1142 rfl rfl rfl rfl (((zfv_i kd_14 rfl)).trans (by rw [if_pos rfl])) dX11_laySoonest_7 rfl eh2 ?_
  refine z_aload_n (q := 11) C dX11_laySoonest_10 0 rfl rfl rfl ?_
  refine z_iconst (q := 12) C dX11_laySoonest_11 rfl ?_
  obtain ⟨h3, eh3, hF⟩ := zlet_e hF
  refine z_putf (q := 15) C clX11 (zon C zo_14) kd_14 (k := 42) (x := 0) (by decide) q_1144 rfl rfl rfl rfl (((zfv_i kd_14 rfl)).trans (by rw [if_pos rfl])) dX11_laySoonest_12 rfl eh3 ?_
  refine z_aload_n (q := 16) C dX11_laySoonest_15 0 rfl rfl rfl ?_
  refine z_iload_n (q := 17) C dX11_laySoonest_16 1 rfl rfl rfl ?_
  refine z_iload_n (q := 18) C dX11_laySoonest_17 2 rfl rfl rfl ?_
  obtain ⟨v4, ev4, hF⟩ := zb_e hF
  refine z_callV (q := 21) (o := 14) (av := [.int (zi a1), .int (zi a2)]) (rest := []) (stk2 := [.int (zi v4)]) C hR clX11 (zon C zo_14) kd_14 (M_fX11_lacks (zlv hd rfl) ev4) mY_X11_lacks q_1639 (Nat.le_of_ble_eq_true rfl) dX11_laySoonest_18 rfl rfl rfl ?_
  refine z_istore_n (q := 22) C dX11_laySoonest_21 (by decide) rfl rfl rfl ?_
  refine z_aload_n (q := 23) C dX11_laySoonest_22 1 rfl rfl rfl ?_
  refine z_iload_n (q := 24) C dX11_laySoonest_23 0 rfl rfl rfl ?_
  refine z_iload_n (q := 25) C dX11_laySoonest_24 3 rfl rfl rfl ?_
  refine z_aload_n (q := 26) C dX11_laySoonest_25 1 rfl rfl rfl ?_
  refine z_getf (q := 29) C clX11 (zon C zo_14) kd_14 (k := 34) (by decide) q_1136 rfl (zfv_r kd_14 rfl fr_14_34) dX11_laySoonest_26 rfl ?_
  refine z_bipush (q := 31) C dX11_laySoonest_29 bp_42 rfl ?_
  refine z_ialdc (q := 32) (j := 42) C (zon C zo_69) kd_69 zwk_42 (by rw [ln_69]; decide) dX11_laySoonest_31 rfl ?_
  refine z_iconst (q := 33) C dX11_laySoonest_32 rfl ?_
  refine z_iconst (q := 34) C dX11_laySoonest_33 rfl ?_
  obtain ⟨h5, eh5, hF⟩ := zb_e hF
  refine z_callV (q := 37) (o := 14) (av := [.int (zi v4), .int (zi a2), .int (zi (h3 69 42)), .int (zi 0), .int (zi 0)]) (rest := []) (stk2 := []) C hR clX11 (zon C zo_14) kd_14 (M_fX11_tryRows (zlv hd rfl) eh5) mY_X11_tryRows q_1643 (Nat.le_of_ble_eq_true rfl) dX11_laySoonest_34 rfl rfl rfl ?_
  refine z_aload_n (q := 38) C dX11_laySoonest_37 1 rfl rfl rfl ?_
  refine z_iload_n (q := 39) C dX11_laySoonest_38 0 rfl rfl rfl ?_
  refine z_if_ne (tgt := 46) (q := 42) C dX11_laySoonest_39 (by decide) rfl (fun c6 => ?_) (fun c6 => ?_)
  · have hF := (if_neg c6).symm.trans hF
    refine z_aload_n (q := 47) C dX11_laySoonest_46 1 rfl rfl rfl ?_
    refine z_getf (q := 50) C clX11 (zon C zo_14) kd_14 (k := 40) (by decide) q_1142 rfl (zfv_i kd_14 rfl) dX11_laySoonest_47 rfl ?_
    obtain ⟨h8, eh8, hF⟩ := zlet_e hF
    refine z_putf (q := 53) C clX11 (zon C zo_14) kd_14 (k := 40) (x := h5 14 40) (by decide) q_1142 rfl rfl rfl rfl (((zfv_i kd_14 rfl)).trans (by rw [if_pos rfl])) dX11_laySoonest_50 rfl eh8 ?_
    cases hF
    exact z_vret C e1 e2 dX11_laySoonest_53
  · have hF := (if_pos c6).symm.trans hF
    refine z_iconst (q := 43) C dX11_laySoonest_42 rfl ?_
    refine z_goto (q := 50) C dX11_laySoonest_43 (by decide) ?_
    obtain ⟨h7, eh7, hF⟩ := zlet_e hF
    refine z_putf (q := 53) C clX11 (zon C zo_14) kd_14 (k := 40) (x := (-1)) (by decide) q_1142 rfl rfl rfl rfl (((zfv_i kd_14 rfl)).trans (by rw [if_pos rfl])) dX11_laySoonest_50 rfl eh7 ?_
    cases hF
    exact z_vret C e1 e2 dX11_laySoonest_53
set_option maxRecDepth 20000 in
set_option maxHeartbeats 4000000 in
theorem M_fX11_laySoonest {l : Launch} {D : va_G} {cy : ClassId} {α : Nat → Nat} {n : Nat} {σ : zSg} {d : Nat} (hd : 63 ≤ d) {N : Nat} {a1 : Int} {a2 : Int} {h : zH} {g : zH} (hF : fX11_laySoonest N a1 a2 h = some g) : zMet l yX11_laySoonest cX11_laySoonest 4 none (zrm d) D cy α n σ [.ref (α 14), .int (zi a1), .int (zi a2)] h (none) g := by
  obtain ⟨d, rfl⟩ : ∃ e, d = e + 1 := ⟨d - 1, by omega⟩
  refine z_met (by decide +kernel) (Nat.le_of_ble_eq_true rfl) (fun κ k1 k2 k3 k4 k5 k6 k7 k8 k9 C => ?_)
  subst k1 k3 k4 k5 k6 k7
  exact J_fX11_laySoonest C k2 hd k8 k9 hF
set_option maxRecDepth 20000 in
set_option maxHeartbeats 4000000 in
theorem J_fX11_soonest {κ : zT} (C : zC κ RX11 cX11_soonest 3 (some .int)) {d : Nat} (hR : zR κ = zrm (d + 1)) (hd : 64 ≤ d + 1) {N : Nat} {r : Int × zH} (e1 : zrv κ = some (.int (zi r.1))) (e2 : zhf κ = r.2) {a1 : Int} {a2 : Int} {h : zH} (hF : fX11_soonest N a1 a2 h = some r) : Z κ h 0 [(0, .ref (zα κ 14)), (1, .int (zi a1)), (2, .int (zi a2))] [] := by
  unfold fX11_soonest at hF
  refine z_aload_n (q := 1) C dX11_soonest_0 0 rfl rfl rfl ?_
  refine z_iload_n (q := 2) C dX11_soonest_1 1 rfl rfl rfl ?_
  refine z_callV (q := 5) (o := 14) (av := [.int (zi a1)]) (rest := []) (stk2 := [.int (zi (fX11_isParish a1 h))]) C hR clX11 (zon C zo_14) kd_14 (M_fX11_isParish (zlv hd rfl) rfl) mY_X11_isParish q_1426 (Nat.le_of_ble_eq_true rfl) dX11_soonest_2 rfl rfl rfl ?_
  refine z_if_eq (tgt := 17) (q := 8) C dX11_soonest_5 (by decide) rfl (fun c1 => ?_) (fun c1 => ?_)
  · have hF := (if_pos c1).symm.trans hF
    refine z_iconst (q := 18) C dX11_soonest_17 rfl ?_
    cases hF
    exact z_iret C e1 e2 dX11_soonest_18
  · have hF := (if_neg c1).symm.trans hF
    refine z_iload_n (q := 9) C dX11_soonest_8 2 rfl rfl rfl ?_
    refine z_iconst (q := 10) C dX11_soonest_9 rfl ?_
    refine z_iconst (q := 11) C dX11_soonest_10 rfl ?_
    refine z_callS (q := 14) (av := [.int (zi a2), .int (zi 0), .int (zi 2)]) (rest := []) (stk2 := [.int (zi (fX11_in a2 0 2))]) C hR (M_fX11_in (zlv hd rfl) rfl) mY_X11_in q_1314 (Nat.le_of_ble_eq_true rfl) dX11_soonest_11 rfl rfl rfl ?_
    refine z_if_ne (tgt := 19) (q := 17) C dX11_soonest_14 (by decide) rfl (fun c2 => ?_) (fun c2 => ?_)
    · have hF := (if_neg c2).symm.trans hF
      refine z_aload_n (q := 20) C dX11_soonest_19 0 rfl rfl rfl ?_
      refine z_iload_n (q := 21) C dX11_soonest_20 1 rfl rfl rfl ?_
      refine z_aload_n (q := 22) C dX11_soonest_21 0 rfl rfl rfl ?_
      refine z_iload_n (q := 23) C dX11_soonest_22 1 rfl rfl rfl ?_
      refine z_iconst (q := 24) C dX11_soonest_23 rfl ?_
      obtain ⟨v3, ev3, hF⟩ := zb_e hF
      refine z_callV (q := 27) (o := 14) (av := [.int (zi a1), .int (zi 0)]) (rest := [.int (zi a1), .ref (zα κ 14)]) (stk2 := [.int (zi v3), .int (zi a1), .ref (zα κ 14)]) C hR clX11 (zon C zo_14) kd_14 (M_fX11_of (zlv hd rfl) ev3) mY_X11_of q_1430 (Nat.le_of_ble_eq_true rfl) dX11_soonest_24 rfl rfl rfl ?_
      obtain ⟨h4, eh4, hF⟩ := zb_e hF
      refine z_callV (q := 30) (o := 14) (av := [.int (zi a1), .int (zi v3)]) (rest := []) (stk2 := []) C hR clX11 (zon C zo_14) kd_14 (M_fX11_laySoonest (zlv hd rfl) eh4) mY_X11_laySoonest q_1635 (Nat.le_of_ble_eq_true rfl) dX11_soonest_27 rfl rfl rfl ?_
      refine z_aload_n (q := 31) C dX11_soonest_30 0 rfl rfl rfl ?_
      refine z_getf (q := 34) C clX11 (zon C zo_14) kd_14 (k := 41) (by decide) q_1143 rfl (zfv_i kd_14 rfl) dX11_soonest_31 rfl ?_
      refine z_iconst (q := 35) C dX11_soonest_34 rfl ?_
      refine z_icmp_ne (tgt := 42) (q := 38) C dX11_soonest_35 (by decide) rfl (fun c5 => ?_) (fun c5 => ?_)
      · have hF := (if_neg c5).symm.trans hF
        refine z_iload_n (q := 43) C dX11_soonest_42 2 rfl rfl rfl ?_
        refine z_if_ne (tgt := 53) (q := 46) C dX11_soonest_43 (by decide) rfl (fun c6 => ?_) (fun c6 => ?_)
        · have hF := (if_neg c6).symm.trans hF
          refine z_iload_n (q := 54) C dX11_soonest_53 2 rfl rfl rfl ?_
          refine z_iconst (q := 55) C dX11_soonest_54 rfl ?_
          refine z_icmp_ne (tgt := 65) (q := 58) C dX11_soonest_55 (by decide) rfl (fun c7 => ?_) (fun c7 => ?_)
          · have hF := (if_neg c7).symm.trans hF
            refine z_aload_n (q := 66) C dX11_soonest_65 0 rfl rfl rfl ?_
            refine z_getf (q := 69) C clX11 (zon C zo_14) kd_14 (k := 42) (by decide) q_1144 rfl (zfv_i kd_14 rfl) dX11_soonest_66 rfl ?_
            cases hF
            exact z_iret C e1 e2 dX11_soonest_69
          · have hF := (if_pos c7).symm.trans hF
            refine z_aload_n (q := 59) C dX11_soonest_58 0 rfl rfl rfl ?_
            refine z_getf (q := 62) C clX11 (zon C zo_14) kd_14 (k := 40) (by decide) q_1142 rfl (zfv_i kd_14 rfl) dX11_soonest_59 rfl ?_
            refine z_goto (q := 69) C dX11_soonest_62 (by decide) ?_
            cases hF
            exact z_iret C e1 e2 dX11_soonest_69
        · have hF := (if_pos c6).symm.trans hF
          refine z_aload_n (q := 47) C dX11_soonest_46 0 rfl rfl rfl ?_
          refine z_getf (q := 50) C clX11 (zon C zo_14) kd_14 (k := 41) (by decide) q_1143 rfl (zfv_i kd_14 rfl) dX11_soonest_47 rfl ?_
          refine z_goto (q := 69) C dX11_soonest_50 (by decide) ?_
          cases hF
          exact z_iret C e1 e2 dX11_soonest_69
      · have hF := (if_pos c5).symm.trans hF
        refine z_iconst (q := 39) C dX11_soonest_38 rfl ?_
        refine z_goto (q := 69) C dX11_soonest_39 (by decide) ?_
        cases hF
        exact z_iret C e1 e2 dX11_soonest_69
    · have hF := (if_pos c2).symm.trans hF
      refine z_iconst (q := 18) C dX11_soonest_17 rfl ?_
      cases hF
      exact z_iret C e1 e2 dX11_soonest_18
set_option maxRecDepth 20000 in
set_option maxHeartbeats 4000000 in
theorem M_fX11_soonest {l : Launch} {D : va_G} {cy : ClassId} {α : Nat → Nat} {n : Nat} {σ : zSg} {d : Nat} (hd : 64 ≤ d) {N : Nat} {a1 : Int} {a2 : Int} {h : zH} {r : Int} {g : zH} (hF : fX11_soonest N a1 a2 h = some (r, g)) : zMet l yX11_soonest cX11_soonest 3 (some .int) (zrm d) D cy α n σ [.ref (α 14), .int (zi a1), .int (zi a2)] h (some (.int (zi r))) g := by
  obtain ⟨d, rfl⟩ : ∃ e, d = e + 1 := ⟨d - 1, by omega⟩
  refine z_met (by decide +kernel) (Nat.le_of_ble_eq_true rfl) (fun κ k1 k2 k3 k4 k5 k6 k7 k8 k9 C => ?_)
  subst k1 k3 k4 k5 k6 k7
  exact J_fX11_soonest C k2 hd k8 k9 hF
set_option maxRecDepth 20000 in
set_option maxHeartbeats 4000000 in
theorem J_fX11_hasRow_c24b {κ : zT} (C : zC κ RX11 cX11_hasRow 7 (some .boolean)) {d : Nat} (hR : zR κ = zrm (d + 1)) (hd : 3 ≤ d + 1) {N : Nat} {h : zH} {r : Int} (e1 : zrv κ = some (.int (zi r))) (e2 : zhf κ = h) {K13 : Int → Int → Int → Option Int} (hK13 : ∀ (l3 : Int) (l4 : Int) (l5 : Int), K13 l3 l4 l5 = some r → Z κ h 13 [(0, .ref (zα κ 14)), (3, .int (zi l3)), (4, .int (zi l4)), (5, .int (zi l5))] []) {K24 : Int → Int → Int → Int → Option Int} (hK24 : ∀ (l3 : Int) (l4 : Int) (l5 : Int) (l6 : Int), K24 l3 l4 l5 l6 = some r → Z κ h 24 [(0, .ref (zα κ 14)), (3, .int (zi l3)), (4, .int (zi l4)), (5, .int (zi l5)), (6, .int (zi l6))] []) (l3 : Int) (l4 : Int) (l5 : Int) (l6 : Int) (hF : fX11_hasRow_c24b N h K13 K24 l3 l4 l5 l6 = some r) : Z κ h 24 [(0, .ref (zα κ 14)), (3, .int (zi l3)), (4, .int (zi l4)), (5, .int (zi l5)), (6, .int (zi l6))] [] := by
  unfold fX11_hasRow_c24b at hF
  refine z_iload (q := 26) C dX11_hasRow_24 4 rfl rfl ?_
  refine z_aload_n (q := 27) C dX11_hasRow_26 0 rfl rfl rfl ?_
  refine z_getf (q := 30) C clX11 (zon C zo_14) kd_14 (k := 30) (by decide) q_1132 rfl (zfv_i kd_14 rfl) dX11_hasRow_27 rfl ?_
  refine z_icmp_ge (tgt := 84) (q := 33) C dX11_hasRow_30 (by decide) rfl (fun c1 => ?_) (fun c1 => ?_)
  · have hF := (if_pos c1).symm.trans hF
    refine z_goto (q := 13) C dX11_hasRow_84 (by decide) ?_
    exact z_sub (hK13 _ _ _ hF) [0, 1, 2, 3] rfl
  · have hF := (if_neg c1).symm.trans hF
    refine z_iload_n (q := 34) C dX11_hasRow_33 1 rfl rfl rfl ?_
    refine z_iload (q := 36) C dX11_hasRow_34 4 rfl rfl ?_
    refine z_callS (q := 39) (av := [.int (zi l3), .int (zi l6)]) (rest := []) (stk2 := [.int (zi (fX11_has l3 l6))]) C hR (M_fX11_has (zlv hd rfl) rfl) mY_X11_has q_1294 (Nat.le_of_ble_eq_true rfl) dX11_hasRow_36 rfl rfl rfl ?_
    refine z_if_eq (tgt := 78) (q := 42) C dX11_hasRow_39 (by decide) rfl (fun c2 => ?_) (fun c2 => ?_)
    · have hF := (if_pos c2).symm.trans hF
      refine z_iinc (q := 81) (x := l6) C dX11_hasRow_78 (j := 4) rfl (by decide) rfl rfl ?_
      refine z_goto (q := 24) C dX11_hasRow_81 (by decide) ?_
      exact z_sub (hK24 _ _ _ _ hF) [1, 2, 3, 4, 0] rfl
    · have hF := (if_neg c2).symm.trans hF
      refine z_iload (q := 44) C dX11_hasRow_42 2 rfl rfl ?_
      refine z_iload (q := 46) C dX11_hasRow_44 4 rfl rfl ?_
      refine z_callS (q := 49) (av := [.int (zi l4), .int (zi l6)]) (rest := []) (stk2 := [.int (zi (fX11_has l4 l6))]) C hR (M_fX11_has (zlv hd rfl) rfl) mY_X11_has q_1294 (Nat.le_of_ble_eq_true rfl) dX11_hasRow_46 rfl rfl rfl ?_
      refine z_if_ne (tgt := 78) (q := 52) C dX11_hasRow_49 (by decide) rfl (fun c3 => ?_) (fun c3 => ?_)
      · have hF := (if_neg c3).symm.trans hF
        refine z_iinc (q := 81) (x := l6) C dX11_hasRow_78 (j := 4) rfl (by decide) rfl rfl ?_
        refine z_goto (q := 24) C dX11_hasRow_81 (by decide) ?_
        exact z_sub (hK24 _ _ _ _ hF) [1, 2, 3, 4, 0] rfl
      · have hF := (if_pos c3).symm.trans hF
        refine z_aload_n (q := 53) C dX11_hasRow_52 0 rfl rfl rfl ?_
        refine z_iload (q := 55) C dX11_hasRow_53 4 rfl rfl ?_
        obtain ⟨v4, ev4, hF⟩ := zb_e hF
        refine z_callV (q := 58) (o := 14) (av := [.int (zi l6)]) (rest := []) (stk2 := [.int (zi v4)]) C hR clX11 (zon C zo_14) kd_14 (M_fX11_wants (zlv hd rfl) ev4) mY_X11_wants q_1486 (Nat.le_of_ble_eq_true rfl) dX11_hasRow_55 rfl rfl rfl ?_
        refine z_iload (q := 60) C dX11_hasRow_58 2 rfl rfl ?_
        refine z_iconst (q := 61) C dX11_hasRow_60 rfl ?_
        refine z_ixor (q := 62) C dX11_hasRow_61 rfl ?_
        refine z_iand (q := 63) C dX11_hasRow_62 rfl ?_
        refine z_if_ne (tgt := 78) (q := 66) C dX11_hasRow_63 (by decide) rfl (fun c5 => ?_) (fun c5 => ?_)
        · have hF := (if_neg c5).symm.trans hF
          refine z_iinc (q := 81) (x := l6) C dX11_hasRow_78 (j := 4) rfl (by decide) rfl rfl ?_
          refine z_goto (q := 24) C dX11_hasRow_81 (by decide) ?_
          exact z_sub (hK24 _ _ _ _ hF) [1, 2, 3, 4, 0] rfl
        · have hF := (if_pos c5).symm.trans hF
          refine z_iload (q := 68) C dX11_hasRow_66 2 rfl rfl ?_
          refine z_iconst (q := 69) C dX11_hasRow_68 rfl ?_
          refine z_iload (q := 71) C dX11_hasRow_69 4 rfl rfl ?_
          refine z_ishl (q := 72) C dX11_hasRow_71 rfl ?_
          refine z_ior (q := 73) C dX11_hasRow_72 rfl ?_
          obtain ⟨v6, ev6, hF⟩ := zlet_e hF
          refine z_istoreE (q := 75) C ev6 dX11_hasRow_73 (by decide) rfl rfl ?_
          refine z_iconst (q := 76) C dX11_hasRow_75 rfl ?_
          refine z_istore (q := 78) C dX11_hasRow_76 (by decide) rfl rfl ?_
          refine z_iinc (q := 81) (x := l6) C dX11_hasRow_78 (j := 4) rfl (by decide) rfl rfl ?_
          refine z_goto (q := 24) C dX11_hasRow_81 (by decide) ?_
          exact z_sub (hK24 _ _ _ _ hF) [3, 4, 2, 1, 0] rfl
set_option maxRecDepth 20000 in
set_option maxHeartbeats 4000000 in
theorem J_fX11_hasRow_c24 {κ : zT} (C : zC κ RX11 cX11_hasRow 7 (some .boolean)) {d : Nat} (hR : zR κ = zrm (d + 1)) (hd : 3 ≤ d + 1) {N : Nat} {h : zH} {r : Int} (e1 : zrv κ = some (.int (zi r))) (e2 : zhf κ = h) {K13 : Int → Int → Int → Option Int} (hK13 : ∀ (l3 : Int) (l4 : Int) (l5 : Int), K13 l3 l4 l5 = some r → Z κ h 13 [(0, .ref (zα κ 14)), (3, .int (zi l3)), (4, .int (zi l4)), (5, .int (zi l5))] []) : ∀ (k : Nat) (l3 : Int) (l4 : Int) (l5 : Int) (l6 : Int), fX11_hasRow_c24 N h K13 k l3 l4 l5 l6 = some r → Z κ h 24 [(0, .ref (zα κ 14)), (3, .int (zi l3)), (4, .int (zi l4)), (5, .int (zi l5)), (6, .int (zi l6))] [] := by
  intro k
  induction k with
  | zero => intro l3 l4 l5 l6 hF; cases hF
  | succ k ih => intro l3 l4 l5 l6 hF; exact J_fX11_hasRow_c24b C hR hd e1 e2 hK13 ih l3 l4 l5 l6 hF
set_option maxRecDepth 20000 in
set_option maxHeartbeats 4000000 in
theorem J_fX11_hasRow_c13b {κ : zT} (C : zC κ RX11 cX11_hasRow 7 (some .boolean)) {d : Nat} (hR : zR κ = zrm (d + 1)) (hd : 3 ≤ d + 1) {N : Nat} {h : zH} {r : Int} (e1 : zrv κ = some (.int (zi r))) (e2 : zhf κ = h) {K13 : Int → Int → Int → Option Int} (hK13 : ∀ (l3 : Int) (l4 : Int) (l5 : Int), K13 l3 l4 l5 = some r → Z κ h 13 [(0, .ref (zα κ 14)), (3, .int (zi l3)), (4, .int (zi l4)), (5, .int (zi l5))] []) (l3 : Int) (l4 : Int) (l5 : Int) (hF : fX11_hasRow_c13b N h K13 l3 l4 l5 = some r) : Z κ h 13 [(0, .ref (zα κ 14)), (3, .int (zi l3)), (4, .int (zi l4)), (5, .int (zi l5))] [] := by
  unfold fX11_hasRow_c13b at hF
  refine z_iload (q := 15) C dX11_hasRow_13 3 rfl rfl ?_
  refine z_if_eq (tgt := 87) (q := 18) C dX11_hasRow_15 (by decide) rfl (fun c1 => ?_) (fun c1 => ?_)
  · have hF := (if_pos c1).symm.trans hF
    refine z_iload_n (q := 88) C dX11_hasRow_87 1 rfl rfl rfl ?_
    refine z_iload (q := 90) C dX11_hasRow_88 2 rfl rfl ?_
    refine z_iconst (q := 91) C dX11_hasRow_90 rfl ?_
    refine z_ixor (q := 92) C dX11_hasRow_91 rfl ?_
    refine z_iand (q := 93) C dX11_hasRow_92 rfl ?_
    refine z_if_ne (tgt := 100) (q := 96) C dX11_hasRow_93 (by decide) rfl (fun c2 => ?_) (fun c2 => ?_)
    · have hF := (if_neg c2).symm.trans hF
      refine z_iconst (q := 101) C dX11_hasRow_100 rfl ?_
      cases hF
      exact z_zret C (zb01 (Or.inl rfl)) e1 e2 dX11_hasRow_101
    · have hF := (if_pos c2).symm.trans hF
      refine z_iconst (q := 97) C dX11_hasRow_96 rfl ?_
      refine z_goto (q := 101) C dX11_hasRow_97 (by decide) ?_
      cases hF
      exact z_zret C (zb01 (Or.inr rfl)) e1 e2 dX11_hasRow_101
  · have hF := (if_neg c1).symm.trans hF
    refine z_iconst (q := 19) C dX11_hasRow_18 rfl ?_
    refine z_istore (q := 21) C dX11_hasRow_19 (by decide) rfl rfl ?_
    refine z_iconst (q := 22) C dX11_hasRow_21 rfl ?_
    refine z_istore (q := 24) C dX11_hasRow_22 (by decide) rfl rfl ?_
    exact z_sub (J_fX11_hasRow_c24 C hR hd e1 e2 hK13 N _ _ _ _ hF) [2, 3, 4, 1, 0] rfl
set_option maxRecDepth 20000 in
set_option maxHeartbeats 4000000 in
theorem J_fX11_hasRow_c13 {κ : zT} (C : zC κ RX11 cX11_hasRow 7 (some .boolean)) {d : Nat} (hR : zR κ = zrm (d + 1)) (hd : 3 ≤ d + 1) {N : Nat} {h : zH} {r : Int} (e1 : zrv κ = some (.int (zi r))) (e2 : zhf κ = h) : ∀ (k : Nat) (l3 : Int) (l4 : Int) (l5 : Int), fX11_hasRow_c13 N h k l3 l4 l5 = some r → Z κ h 13 [(0, .ref (zα κ 14)), (3, .int (zi l3)), (4, .int (zi l4)), (5, .int (zi l5))] [] := by
  intro k
  induction k with
  | zero => intro l3 l4 l5 hF; cases hF
  | succ k ih => intro l3 l4 l5 hF; exact J_fX11_hasRow_c13b C hR hd e1 e2 ih l3 l4 l5 hF
set_option maxRecDepth 20000 in
set_option maxHeartbeats 4000000 in
theorem J_fX11_hasRow {κ : zT} (C : zC κ RX11 cX11_hasRow 7 (some .boolean)) {d : Nat} (hR : zR κ = zrm (d + 1)) (hd : 3 ≤ d + 1) {N : Nat} {h : zH} {r : Int} (e1 : zrv κ = some (.int (zi r))) (e2 : zhf κ = h) {a1 : Int} {a2 : Int} (hF : fX11_hasRow N a1 a2 h = some r) : Z κ h 0 [(0, .ref (zα κ 14)), (1, .int (zi a1)), (2, .int (zi a2))] [] := by
  unfold fX11_hasRow at hF
  refine z_aload_n (q := 1) C dX11_hasRow_0 0 rfl rfl rfl ?_
  refine z_iload_n (q := 2) C dX11_hasRow_1 1 rfl rfl rfl ?_
  refine z_iload_n (q := 3) C dX11_hasRow_2 2 rfl rfl rfl ?_
  obtain ⟨v1, ev1, hF⟩ := zb_e hF
  refine z_callV (q := 6) (o := 14) (av := [.int (zi a1), .int (zi a2)]) (rest := []) (stk2 := [.int (zi v1)]) C hR clX11 (zon C zo_14) kd_14 (M_fX11_lacks (zlv hd rfl) ev1) mY_X11_lacks q_1639 (Nat.le_of_ble_eq_true rfl) dX11_hasRow_3 rfl rfl rfl ?_
  refine z_istore_n (q := 7) C dX11_hasRow_6 (by decide) rfl rfl rfl ?_
  refine z_iload_n (q := 8) C dX11_hasRow_7 3 rfl rfl rfl ?_
  refine z_istore (q := 10) C dX11_hasRow_8 (by decide) rfl rfl ?_
  refine z_iconst (q := 11) C dX11_hasRow_10 rfl ?_
  refine z_istore (q := 13) C dX11_hasRow_11 (by decide) rfl rfl ?_
  exact z_sub (J_fX11_hasRow_c13 C hR hd e1 e2 N _ _ _ hF) [3, 2, 1, 0] rfl
set_option maxRecDepth 20000 in
set_option maxHeartbeats 4000000 in
theorem M_fX11_hasRow {l : Launch} {D : va_G} {cy : ClassId} {α : Nat → Nat} {n : Nat} {σ : zSg} {d : Nat} (hd : 3 ≤ d) {N : Nat} {a1 : Int} {a2 : Int} {h : zH} {r : Int} (hF : fX11_hasRow N a1 a2 h = some r) : zMet l yX11_hasRow cX11_hasRow 7 (some .boolean) (zrm d) D cy α n σ [.ref (α 14), .int (zi a1), .int (zi a2)] h (some (.int (zi r))) h := by
  obtain ⟨d, rfl⟩ : ∃ e, d = e + 1 := ⟨d - 1, by omega⟩
  refine z_met (by decide +kernel) (Nat.le_of_ble_eq_true rfl) (fun κ k1 k2 k3 k4 k5 k6 k7 k8 k9 C => ?_)
  subst k1 k3 k4 k5 k6 k7
  exact J_fX11_hasRow C k2 hd k8 k9 hF
set_option maxRecDepth 20000 in
set_option maxHeartbeats 4000000 in
theorem J_fX11_waived_c45 {κ : zT} (C : zC κ RX11 cX11_waived 5 (some .int)) {d : Nat} (hR : zR κ = zrm (d + 1)) (hd : 4 ≤ d + 1) {N : Nat} {h : zH} {r : Int} (e1 : zrv κ = some (.int (zi r))) (e2 : zhf κ = h) {K14 : Int → Int → Int → Option Int} (hK14 : ∀ (l1 : Int) (l2 : Int) (l3 : Int), K14 l1 l2 l3 = some r → Z κ h 14 [(0, .ref (zα κ 14)), (1, .int (zi l1)), (2, .int (zi l2)), (3, .int (zi l3))] []) (l1 : Int) (l2 : Int) (l3 : Int) (s0 : Int) (hF : fX11_waived_c45 N h K14 l1 l2 l3 s0 = some r) : Z κ h 45 [(0, .ref (zα κ 14)), (1, .int (zi l1)), (2, .int (zi l2)), (3, .int (zi l3))] [.int (zi s0)] := by
  unfold fX11_waived_c45 at hF
  refine z_istore (q := 47) C dX11_waived_45 (by decide) rfl rfl ?_
  refine z_iload (q := 49) C dX11_waived_47 0 rfl rfl ?_
  refine z_if_eq (tgt := 72) (q := 52) C dX11_waived_49 (by decide) rfl (fun c1 => ?_) (fun c1 => ?_)
  · have hF := (if_pos c1).symm.trans hF
    refine z_iload_n (q := 73) C dX11_waived_72 3 rfl rfl rfl ?_
    refine z_istore_n (q := 74) C dX11_waived_73 (by decide) rfl rfl rfl ?_
    refine z_iinc (q := 77) (x := l3) C dX11_waived_74 (j := 4) rfl (by decide) rfl rfl ?_
    refine z_goto (q := 14) C dX11_waived_77 (by decide) ?_
    exact z_sub (hK14 _ _ _ hF) [3, 4, 1, 0] rfl
  · have hF := (if_neg c1).symm.trans hF
    refine z_aload_n (q := 53) C dX11_waived_52 1 rfl rfl rfl ?_
    refine z_iload_n (q := 54) C dX11_waived_53 2 rfl rfl rfl ?_
    refine z_aload_n (q := 55) C dX11_waived_54 1 rfl rfl rfl ?_
    refine z_iload_n (q := 56) C dX11_waived_55 2 rfl rfl rfl ?_
    refine z_iconst (q := 57) C dX11_waived_56 rfl ?_
    obtain ⟨v2, ev2, hF⟩ := zb_e hF
    refine z_callV (q := 60) (o := 14) (av := [.int (zi l1), .int (zi 0)]) (rest := [.int (zi l1), .ref (zα κ 14)]) (stk2 := [.int (zi v2), .int (zi l1), .ref (zα κ 14)]) C hR clX11 (zon C zo_14) kd_14 (M_fX11_of (zlv hd rfl) ev2) mY_X11_of q_1430 (Nat.le_of_ble_eq_true rfl) dX11_waived_57 rfl rfl rfl ?_
    refine z_iload_n (q := 61) C dX11_waived_60 4 rfl rfl rfl ?_
    refine z_ior (q := 62) C dX11_waived_61 rfl ?_
    obtain ⟨v3, ev3, hF⟩ := zb_e hF
    refine z_callV (q := 65) (o := 14) (av := [.int (zi l1), .int (zi (zor v2 l3))]) (rest := []) (stk2 := [.int (zi v3)]) C hR clX11 (zon C zo_14) kd_14 (M_fX11_hasRow (zlv hd rfl) ev3) mY_X11_hasRow q_1655 (Nat.le_of_ble_eq_true rfl) dX11_waived_62 rfl rfl rfl ?_
    refine z_if_eq (tgt := 72) (q := 68) C dX11_waived_65 (by decide) rfl (fun c4 => ?_) (fun c4 => ?_)
    · have hF := (if_pos c4).symm.trans hF
      refine z_iload_n (q := 73) C dX11_waived_72 3 rfl rfl rfl ?_
      refine z_istore_n (q := 74) C dX11_waived_73 (by decide) rfl rfl rfl ?_
      refine z_iinc (q := 77) (x := l3) C dX11_waived_74 (j := 4) rfl (by decide) rfl rfl ?_
      refine z_goto (q := 14) C dX11_waived_77 (by decide) ?_
      exact z_sub (hK14 _ _ _ hF) [3, 4, 1, 0] rfl
    · have hF := (if_neg c4).symm.trans hF
      refine z_iload_n (q := 69) C dX11_waived_68 4 rfl rfl rfl ?_
      refine z_goto (q := 73) C dX11_waived_69 (by decide) ?_
      refine z_istore_n (q := 74) C dX11_waived_73 (by decide) rfl rfl rfl ?_
      refine z_iinc (q := 77) (x := l3) C dX11_waived_74 (j := 4) rfl (by decide) rfl rfl ?_
      refine z_goto (q := 14) C dX11_waived_77 (by decide) ?_
      exact z_sub (hK14 _ _ _ hF) [3, 4, 1, 0] rfl
set_option maxRecDepth 20000 in
set_option maxHeartbeats 4000000 in
theorem J_fX11_waived_c14b {κ : zT} (C : zC κ RX11 cX11_waived 5 (some .int)) {d : Nat} (hR : zR κ = zrm (d + 1)) (hd : 4 ≤ d + 1) {N : Nat} {h : zH} {r : Int} (e1 : zrv κ = some (.int (zi r))) (e2 : zhf κ = h) {K14 : Int → Int → Int → Option Int} (hK14 : ∀ (l1 : Int) (l2 : Int) (l3 : Int), K14 l1 l2 l3 = some r → Z κ h 14 [(0, .ref (zα κ 14)), (1, .int (zi l1)), (2, .int (zi l2)), (3, .int (zi l3))] []) (l1 : Int) (l2 : Int) (l3 : Int) (hF : fX11_waived_c14b N h K14 l1 l2 l3 = some r) : Z κ h 14 [(0, .ref (zα κ 14)), (1, .int (zi l1)), (2, .int (zi l2)), (3, .int (zi l3))] [] := by
  unfold fX11_waived_c14b at hF
  refine z_iload_n (q := 15) C dX11_waived_14 3 rfl rfl rfl ?_
  refine z_iconst (q := 16) C dX11_waived_15 rfl ?_
  refine z_aload_n (q := 17) C dX11_waived_16 0 rfl rfl rfl ?_
  refine z_getf (q := 20) C clX11 (zon C zo_14) kd_14 (k := 30) (by decide) q_1132 rfl (zfv_i kd_14 rfl) dX11_waived_17 rfl ?_
  refine z_ishl (q := 21) C dX11_waived_20 rfl ?_
  refine z_icmp_ge (tgt := 80) (q := 24) C dX11_waived_21 (by decide) rfl (fun c1 => ?_) (fun c1 => ?_)
  · have hF := (if_pos c1).symm.trans hF
    refine z_iload_n (q := 81) C dX11_waived_80 2 rfl rfl rfl ?_
    cases hF
    exact z_iret C e1 e2 dX11_waived_81
  · have hF := (if_neg c1).symm.trans hF
    refine z_iload_n (q := 25) C dX11_waived_24 2 rfl rfl rfl ?_
    refine z_iconst (q := 26) C dX11_waived_25 rfl ?_
    refine z_icmp_eq (tgt := 40) (q := 29) C dX11_waived_26 (by decide) rfl (fun c2 => ?_) (fun c2 => ?_)
    · have hF := (if_pos c2).symm.trans hF
      refine z_iconst (q := 41) C dX11_waived_40 rfl ?_
      refine z_goto (q := 45) C dX11_waived_41 (by decide) ?_
      exact z_sub (J_fX11_waived_c45 C hR hd e1 e2 hK14 _ _ _ _ hF) [0, 1, 2, 3] rfl
    · have hF := (if_neg c2).symm.trans hF
      refine z_iload_n (q := 30) C dX11_waived_29 3 rfl rfl rfl ?_
      refine z_callS (q := 33) (av := [.int (zi l3)]) (rest := []) (stk2 := [.int (zi (fJ6_bitCount_0f7a4 l3))]) C hR (M_fJ6_bitCount_0f7a4 (zlv hd rfl) rfl) mY_J6_bitCount_0f7a4 q_1555 (Nat.le_of_ble_eq_true rfl) dX11_waived_30 rfl rfl rfl ?_
      refine z_iload_n (q := 34) C dX11_waived_33 2 rfl rfl rfl ?_
      refine z_callS (q := 37) (av := [.int (zi l2)]) (rest := [.int (zi (fJ6_bitCount_0f7a4 l3))]) (stk2 := [.int (zi (fJ6_bitCount_0f7a4 l2)), .int (zi (fJ6_bitCount_0f7a4 l3))]) C hR (M_fJ6_bitCount_0f7a4 (zlv hd rfl) rfl) mY_J6_bitCount_0f7a4 q_1555 (Nat.le_of_ble_eq_true rfl) dX11_waived_34 rfl rfl rfl ?_
      refine z_icmp_ge (tgt := 44) (q := 40) C dX11_waived_37 (by decide) rfl (fun c3 => ?_) (fun c3 => ?_)
      · have hF := (if_pos c3).symm.trans hF
        refine z_iconst (q := 45) C dX11_waived_44 rfl ?_
        exact z_sub (J_fX11_waived_c45 C hR hd e1 e2 hK14 _ _ _ _ hF) [0, 1, 2, 3] rfl
      · have hF := (if_neg c3).symm.trans hF
        refine z_iconst (q := 41) C dX11_waived_40 rfl ?_
        refine z_goto (q := 45) C dX11_waived_41 (by decide) ?_
        exact z_sub (J_fX11_waived_c45 C hR hd e1 e2 hK14 _ _ _ _ hF) [0, 1, 2, 3] rfl
set_option maxRecDepth 20000 in
set_option maxHeartbeats 4000000 in
theorem J_fX11_waived_c14 {κ : zT} (C : zC κ RX11 cX11_waived 5 (some .int)) {d : Nat} (hR : zR κ = zrm (d + 1)) (hd : 4 ≤ d + 1) {N : Nat} {h : zH} {r : Int} (e1 : zrv κ = some (.int (zi r))) (e2 : zhf κ = h) : ∀ (k : Nat) (l1 : Int) (l2 : Int) (l3 : Int), fX11_waived_c14 N h k l1 l2 l3 = some r → Z κ h 14 [(0, .ref (zα κ 14)), (1, .int (zi l1)), (2, .int (zi l2)), (3, .int (zi l3))] [] := by
  intro k
  induction k with
  | zero => intro l1 l2 l3 hF; cases hF
  | succ k ih => intro l1 l2 l3 hF; exact J_fX11_waived_c14b C hR hd e1 e2 ih l1 l2 l3 hF
set_option maxRecDepth 20000 in
set_option maxHeartbeats 4000000 in
theorem J_fX11_waived {κ : zT} (C : zC κ RX11 cX11_waived 5 (some .int)) {d : Nat} (hR : zR κ = zrm (d + 1)) (hd : 4 ≤ d + 1) {N : Nat} {h : zH} {r : Int} (e1 : zrv κ = some (.int (zi r))) (e2 : zhf κ = h) {a1 : Int} (hF : fX11_waived N a1 h = some r) : Z κ h 0 [(0, .ref (zα κ 14)), (1, .int (zi a1))] [] := by
  unfold fX11_waived at hF
  refine z_aload_n (q := 1) C dX11_waived_0 0 rfl rfl rfl ?_
  refine z_iload_n (q := 2) C dX11_waived_1 1 rfl rfl rfl ?_
  refine z_callV (q := 5) (o := 14) (av := [.int (zi a1)]) (rest := []) (stk2 := [.int (zi (fX11_isParish a1 h))]) C hR clX11 (zon C zo_14) kd_14 (M_fX11_isParish (zlv hd rfl) rfl) mY_X11_isParish q_1426 (Nat.le_of_ble_eq_true rfl) dX11_waived_2 rfl rfl rfl ?_
  refine z_if_ne (tgt := 10) (q := 8) C dX11_waived_5 (by decide) rfl (fun c1 => ?_) (fun c1 => ?_)
  · have hF := (if_neg c1).symm.trans hF
    refine z_iconst (q := 11) C dX11_waived_10 rfl ?_
    refine z_istore_n (q := 12) C dX11_waived_11 (by decide) rfl rfl rfl ?_
    refine z_iconst (q := 13) C dX11_waived_12 rfl ?_
    refine z_istore_n (q := 14) C dX11_waived_13 (by decide) rfl rfl rfl ?_
    exact z_sub (J_fX11_waived_c14 C hR hd e1 e2 N _ _ _ hF) [2, 3, 1, 0] rfl
  · have hF := (if_pos c1).symm.trans hF
    refine z_iconst (q := 9) C dX11_waived_8 rfl ?_
    cases hF
    exact z_iret C e1 e2 dX11_waived_9
set_option maxRecDepth 20000 in
set_option maxHeartbeats 4000000 in
theorem M_fX11_waived {l : Launch} {D : va_G} {cy : ClassId} {α : Nat → Nat} {n : Nat} {σ : zSg} {d : Nat} (hd : 4 ≤ d) {N : Nat} {a1 : Int} {h : zH} {r : Int} (hF : fX11_waived N a1 h = some r) : zMet l yX11_waived cX11_waived 5 (some .int) (zrm d) D cy α n σ [.ref (α 14), .int (zi a1)] h (some (.int (zi r))) h := by
  obtain ⟨d, rfl⟩ : ∃ e, d = e + 1 := ⟨d - 1, by omega⟩
  refine z_met (by decide +kernel) (Nat.le_of_ble_eq_true rfl) (fun κ k1 k2 k3 k4 k5 k6 k7 k8 k9 C => ?_)
  subst k1 k3 k4 k5 k6 k7
  exact J_fX11_waived C k2 hd k8 k9 hF
set_option maxRecDepth 20000 in
set_option maxHeartbeats 4000000 in
theorem J_fX11_earliest_c6b {κ : zT} (C : zC κ RX11 cX11_earliest 4 (some .int)) {d : Nat} (hR : zR κ = zrm (d + 1)) (hd : 64 ≤ d + 1) {N : Nat} {r : Int × zH} (e1 : zrv κ = some (.int (zi r.1))) (e2 : zhf κ = r.2) {K6 : Int → Int → Int → zH → Option (Int × zH)} (hK6 : ∀ (l1 : Int) (l2 : Int) (l3 : Int) (h : zH), K6 l1 l2 l3 h = some r → Z κ h 6 [(0, .ref (zα κ 14)), (1, .int (zi l1)), (2, .int (zi l2)), (3, .int (zi l3))] []) (l1 : Int) (l2 : Int) (l3 : Int) (h : zH) (hF : fX11_earliest_c6b N K6 l1 l2 l3 h = some r) : Z κ h 6 [(0, .ref (zα κ 14)), (1, .int (zi l1)), (2, .int (zi l2)), (3, .int (zi l3))] [] := by
  unfold fX11_earliest_c6b at hF
  refine z_iload_n (q := 7) C dX11_earliest_6 3 rfl rfl rfl ?_
  refine z_aload_n (q := 8) C dX11_earliest_7 0 rfl rfl rfl ?_
  refine z_getf (q := 11) C clX11 (zon C zo_14) kd_14 (k := 28) (by decide) q_1130 rfl (zfv_i kd_14 rfl) dX11_earliest_8 rfl ?_
  refine z_icmp_ge (tgt := 59) (q := 14) C dX11_earliest_11 (by decide) rfl (fun c1 => ?_) (fun c1 => ?_)
  · have hF := (if_pos c1).symm.trans hF
    refine z_iload_n (q := 60) C dX11_earliest_59 1 rfl rfl rfl ?_
    cases hF
    exact z_iret C e1 e2 dX11_earliest_60
  · have hF := (if_neg c1).symm.trans hF
    refine z_aload_n (q := 15) C dX11_earliest_14 0 rfl rfl rfl ?_
    refine z_iload_n (q := 16) C dX11_earliest_15 3 rfl rfl rfl ?_
    refine z_aload_n (q := 17) C dX11_earliest_16 0 rfl rfl rfl ?_
    refine z_iload_n (q := 18) C dX11_earliest_17 3 rfl rfl rfl ?_
    refine z_iconst (q := 19) C dX11_earliest_18 rfl ?_
    obtain ⟨v2, ev2, hF⟩ := zb_e hF
    refine z_callV (q := 22) (o := 14) (av := [.int (zi l3), .int (zi 0)]) (rest := [.int (zi l3), .ref (zα κ 14)]) (stk2 := [.int (zi v2), .int (zi l3), .ref (zα κ 14)]) C hR clX11 (zon C zo_14) kd_14 (M_fX11_of (zlv hd rfl) ev2) mY_X11_of q_1430 (Nat.le_of_ble_eq_true rfl) dX11_earliest_19 rfl rfl rfl ?_
    obtain ⟨h3, eh3, hF⟩ := zb_e hF
    refine z_callV (q := 25) (o := 14) (av := [.int (zi l3), .int (zi v2)]) (rest := []) (stk2 := []) C hR clX11 (zon C zo_14) kd_14 (M_fX11_laySoonest (zlv hd rfl) eh3) mY_X11_laySoonest q_1635 (Nat.le_of_ble_eq_true rfl) dX11_earliest_22 rfl rfl rfl ?_
    refine z_aload_n (q := 26) C dX11_earliest_25 0 rfl rfl rfl ?_
    refine z_getf (q := 29) C clX11 (zon C zo_14) kd_14 (k := 41) (by decide) q_1143 rfl (zfv_i kd_14 rfl) dX11_earliest_26 rfl ?_
    refine z_iconst (q := 30) C dX11_earliest_29 rfl ?_
    refine z_icmp_eq (tgt := 53) (q := 33) C dX11_earliest_30 (by decide) rfl (fun c4 => ?_) (fun c4 => ?_)
    · have hF := (if_pos c4).symm.trans hF
      refine z_iinc (q := 56) (x := l3) C dX11_earliest_53 (j := 3) rfl (by decide) rfl rfl ?_
      refine z_goto (q := 6) C dX11_earliest_56 (by decide) ?_
      exact z_sub (hK6 _ _ _ _ hF) [1, 2, 3, 0] rfl
    · have hF := (if_neg c4).symm.trans hF
      refine z_iload_n (q := 34) C dX11_earliest_33 1 rfl rfl rfl ?_
      refine z_iconst (q := 35) C dX11_earliest_34 rfl ?_
      refine z_icmp_eq (tgt := 46) (q := 38) C dX11_earliest_35 (by decide) rfl (fun c5 => ?_) (fun c5 => ?_)
      · have hF := (if_pos c5).symm.trans hF
        refine z_iload_n (q := 47) C dX11_earliest_46 3 rfl rfl rfl ?_
        refine z_istore_n (q := 48) C dX11_earliest_47 (by decide) rfl rfl rfl ?_
        refine z_aload_n (q := 49) C dX11_earliest_48 1 rfl rfl rfl ?_
        refine z_getf (q := 52) C clX11 (zon C zo_14) kd_14 (k := 41) (by decide) q_1143 rfl (zfv_i kd_14 rfl) dX11_earliest_49 rfl ?_
        obtain ⟨v6, ev6, hF⟩ := zlet_e hF
        refine z_istoreE_n (q := 53) C ev6 dX11_earliest_52 (by decide) rfl rfl rfl ?_
        refine z_iinc (q := 56) (x := l3) C dX11_earliest_53 (j := 3) rfl (by decide) rfl rfl ?_
        refine z_goto (q := 6) C dX11_earliest_56 (by decide) ?_
        exact z_sub (hK6 _ _ _ _ hF) [3, 2, 1, 0] rfl
      · have hF := (if_neg c5).symm.trans hF
        refine z_aload_n (q := 39) C dX11_earliest_38 0 rfl rfl rfl ?_
        refine z_getf (q := 42) C clX11 (zon C zo_14) kd_14 (k := 41) (by decide) q_1143 rfl (zfv_i kd_14 rfl) dX11_earliest_39 rfl ?_
        refine z_iload_n (q := 43) C dX11_earliest_42 2 rfl rfl rfl ?_
        refine z_icmp_ge (tgt := 53) (q := 46) C dX11_earliest_43 (by decide) rfl (fun c7 => ?_) (fun c7 => ?_)
        · have hF := (if_pos c7).symm.trans hF
          refine z_iinc (q := 56) (x := l3) C dX11_earliest_53 (j := 3) rfl (by decide) rfl rfl ?_
          refine z_goto (q := 6) C dX11_earliest_56 (by decide) ?_
          exact z_sub (hK6 _ _ _ _ hF) [1, 2, 3, 0] rfl
        · have hF := (if_neg c7).symm.trans hF
          refine z_iload_n (q := 47) C dX11_earliest_46 3 rfl rfl rfl ?_
          refine z_istore_n (q := 48) C dX11_earliest_47 (by decide) rfl rfl rfl ?_
          refine z_aload_n (q := 49) C dX11_earliest_48 1 rfl rfl rfl ?_
          refine z_getf (q := 52) C clX11 (zon C zo_14) kd_14 (k := 41) (by decide) q_1143 rfl (zfv_i kd_14 rfl) dX11_earliest_49 rfl ?_
          obtain ⟨v8, ev8, hF⟩ := zlet_e hF
          refine z_istoreE_n (q := 53) C ev8 dX11_earliest_52 (by decide) rfl rfl rfl ?_
          refine z_iinc (q := 56) (x := l3) C dX11_earliest_53 (j := 3) rfl (by decide) rfl rfl ?_
          refine z_goto (q := 6) C dX11_earliest_56 (by decide) ?_
          exact z_sub (hK6 _ _ _ _ hF) [3, 2, 1, 0] rfl
set_option maxRecDepth 20000 in
set_option maxHeartbeats 4000000 in
theorem J_fX11_earliest_c6 {κ : zT} (C : zC κ RX11 cX11_earliest 4 (some .int)) {d : Nat} (hR : zR κ = zrm (d + 1)) (hd : 64 ≤ d + 1) {N : Nat} {r : Int × zH} (e1 : zrv κ = some (.int (zi r.1))) (e2 : zhf κ = r.2) : ∀ (k : Nat) (l1 : Int) (l2 : Int) (l3 : Int) (h : zH), fX11_earliest_c6 N k l1 l2 l3 h = some r → Z κ h 6 [(0, .ref (zα κ 14)), (1, .int (zi l1)), (2, .int (zi l2)), (3, .int (zi l3))] [] := by
  intro k
  induction k with
  | zero => intro l1 l2 l3 h hF; cases hF
  | succ k ih => intro l1 l2 l3 h hF; exact J_fX11_earliest_c6b C hR hd e1 e2 ih l1 l2 l3 h hF
set_option maxRecDepth 20000 in
set_option maxHeartbeats 4000000 in
theorem J_fX11_earliest {κ : zT} (C : zC κ RX11 cX11_earliest 4 (some .int)) {d : Nat} (hR : zR κ = zrm (d + 1)) (hd : 64 ≤ d + 1) {N : Nat} {r : Int × zH} (e1 : zrv κ = some (.int (zi r.1))) (e2 : zhf κ = r.2) {h : zH} (hF : fX11_earliest N h = some r) : Z κ h 0 [(0, .ref (zα κ 14))] [] := by
  unfold fX11_earliest at hF
  refine z_iconst (q := 1) C dX11_earliest_0 rfl ?_
  refine z_istore_n (q := 2) C dX11_earliest_1 (by decide) rfl rfl rfl ?_
  refine z_iconst (q := 3) C dX11_earliest_2 rfl ?_
  refine z_istore_n (q := 4) C dX11_earliest_3 (by decide) rfl rfl rfl ?_
  refine z_iconst (q := 5) C dX11_earliest_4 rfl ?_
  refine z_istore_n (q := 6) C dX11_earliest_5 (by decide) rfl rfl rfl ?_
  exact z_sub (J_fX11_earliest_c6 C hR hd e1 e2 N _ _ _ _ hF) [3, 2, 1, 0] rfl
set_option maxRecDepth 20000 in
set_option maxHeartbeats 4000000 in
theorem M_fX11_earliest {l : Launch} {D : va_G} {cy : ClassId} {α : Nat → Nat} {n : Nat} {σ : zSg} {d : Nat} (hd : 64 ≤ d) {N : Nat} {h : zH} {r : Int} {g : zH} (hF : fX11_earliest N h = some (r, g)) : zMet l yX11_earliest cX11_earliest 4 (some .int) (zrm d) D cy α n σ [.ref (α 14)] h (some (.int (zi r))) g := by
  obtain ⟨d, rfl⟩ : ∃ e, d = e + 1 := ⟨d - 1, by omega⟩
  refine z_met (by decide +kernel) (Nat.le_of_ble_eq_true rfl) (fun κ k1 k2 k3 k4 k5 k6 k7 k8 k9 C => ?_)
  subst k1 k3 k4 k5 k6 k7
  exact J_fX11_earliest C k2 hd k8 k9 hF
set_option maxRecDepth 20000 in
set_option maxHeartbeats 4000000 in
theorem J_fX11_ten_c4b {κ : zT} (C : zC κ RX11 cX11_ten 3 (some .int)) {d : Nat} (hR : zR κ = zrm (d + 1)) (hd : 1 ≤ d + 1) {N : Nat} {h : zH} {r : Int} (e1 : zrv κ = some (.int (zi r))) (e2 : zhf κ = h) {K4 : Int → Int → Int → Option Int} (hK4 : ∀ (l0 : Int) (l1 : Int) (l2 : Int), K4 l0 l1 l2 = some r → Z κ h 4 [(0, .int (zi l0)), (1, .int (zi l1)), (2, .int (zi l2))] []) (l0 : Int) (l1 : Int) (l2 : Int) (hF : fX11_ten_c4b N K4 l0 l1 l2 = some r) : Z κ h 4 [(0, .int (zi l0)), (1, .int (zi l1)), (2, .int (zi l2))] [] := by
  unfold fX11_ten_c4b at hF
  refine z_iload_n (q := 5) C dX11_ten_4 2 rfl rfl rfl ?_
  refine z_iload_n (q := 6) C dX11_ten_5 0 rfl rfl rfl ?_
  refine z_icmp_ge (tgt := 20) (q := 9) C dX11_ten_6 (by decide) rfl (fun c1 => ?_) (fun c1 => ?_)
  · have hF := (if_pos c1).symm.trans hF
    refine z_iload_n (q := 21) C dX11_ten_20 1 rfl rfl rfl ?_
    cases hF
    exact z_iret C e1 e2 dX11_ten_21
  · have hF := (if_neg c1).symm.trans hF
    refine z_iload_n (q := 10) C dX11_ten_9 1 rfl rfl rfl ?_
    refine z_bipush (q := 12) C dX11_ten_10 bp_10 rfl ?_
    refine z_imul (q := 13) C dX11_ten_12 rfl ?_
    refine z_istore_n (q := 14) C dX11_ten_13 (by decide) rfl rfl rfl ?_
    refine z_iinc (q := 17) (x := l2) C dX11_ten_14 (j := 2) rfl (by decide) rfl rfl ?_
    refine z_goto (q := 4) C dX11_ten_17 (by decide) ?_
    exact z_sub (hK4 _ _ _ hF) [2, 1, 0] rfl
set_option maxRecDepth 20000 in
set_option maxHeartbeats 4000000 in
theorem J_fX11_ten_c4 {κ : zT} (C : zC κ RX11 cX11_ten 3 (some .int)) {d : Nat} (hR : zR κ = zrm (d + 1)) (hd : 1 ≤ d + 1) {N : Nat} {h : zH} {r : Int} (e1 : zrv κ = some (.int (zi r))) (e2 : zhf κ = h) : ∀ (k : Nat) (l0 : Int) (l1 : Int) (l2 : Int), fX11_ten_c4 N k l0 l1 l2 = some r → Z κ h 4 [(0, .int (zi l0)), (1, .int (zi l1)), (2, .int (zi l2))] [] := by
  intro k
  induction k with
  | zero => intro l0 l1 l2 hF; cases hF
  | succ k ih => intro l0 l1 l2 hF; exact J_fX11_ten_c4b C hR hd e1 e2 ih l0 l1 l2 hF
set_option maxRecDepth 20000 in
set_option maxHeartbeats 4000000 in
theorem J_fX11_ten {κ : zT} (C : zC κ RX11 cX11_ten 3 (some .int)) {d : Nat} (hR : zR κ = zrm (d + 1)) (hd : 1 ≤ d + 1) {N : Nat} {h : zH} {r : Int} (e1 : zrv κ = some (.int (zi r))) (e2 : zhf κ = h) {a0 : Int} (hF : fX11_ten N a0 = some r) : Z κ h 0 [(0, .int (zi a0))] [] := by
  unfold fX11_ten at hF
  refine z_iconst (q := 1) C dX11_ten_0 rfl ?_
  refine z_istore_n (q := 2) C dX11_ten_1 (by decide) rfl rfl rfl ?_
  refine z_iconst (q := 3) C dX11_ten_2 rfl ?_
  refine z_istore_n (q := 4) C dX11_ten_3 (by decide) rfl rfl rfl ?_
  exact z_sub (J_fX11_ten_c4 C hR hd e1 e2 N _ _ _ hF) [2, 1, 0] rfl
set_option maxRecDepth 20000 in
set_option maxHeartbeats 4000000 in
theorem M_fX11_ten {l : Launch} {D : va_G} {cy : ClassId} {α : Nat → Nat} {n : Nat} {σ : zSg} {d : Nat} (hd : 1 ≤ d) {N : Nat} {a0 : Int} {h : zH} {r : Int} (hF : fX11_ten N a0 = some r) : zMet l yX11_ten cX11_ten 3 (some .int) (zrm d) D cy α n σ [.int (zi a0)] h (some (.int (zi r))) h := by
  obtain ⟨d, rfl⟩ : ∃ e, d = e + 1 := ⟨d - 1, by omega⟩
  refine z_met (by decide +kernel) (Nat.le_of_ble_eq_true rfl) (fun κ k1 k2 k3 k4 k5 k6 k7 k8 k9 C => ?_)
  subst k1 k3 k4 k5 k6 k7
  exact J_fX11_ten C k2 hd k8 k9 hF
set_option maxRecDepth 20000 in
set_option maxHeartbeats 4000000 in
theorem J_fX11_isForm_c2b {κ : zT} (C : zC κ RX11 cX11_isForm 3 (some .boolean)) {d : Nat} (hR : zR κ = zrm (d + 1)) (hd : 2 ≤ d + 1) {N : Nat} {h : zH} {r : Int} (e1 : zrv κ = some (.int (zi r))) (e2 : zhf κ = h) {K2 : Int → Int → Option Int} (hK2 : ∀ (l1 : Int) (l2 : Int), K2 l1 l2 = some r → Z κ h 2 [(0, .ref (zα κ 14)), (1, .int (zi l1)), (2, .int (zi l2))] []) (l1 : Int) (l2 : Int) (hF : fX11_isForm_c2b N h K2 l1 l2 = some r) : Z κ h 2 [(0, .ref (zα κ 14)), (1, .int (zi l1)), (2, .int (zi l2))] [] := by
  unfold fX11_isForm_c2b at hF
  refine z_iload_n (q := 3) C dX11_isForm_2 2 rfl rfl rfl ?_
  refine z_aload_n (q := 4) C dX11_isForm_3 0 rfl rfl rfl ?_
  refine z_getf (q := 7) C clX11 (zon C zo_14) kd_14 (k := 28) (by decide) q_1130 rfl (zfv_i kd_14 rfl) dX11_isForm_4 rfl ?_
  refine z_icmp_ge (tgt := 27) (q := 10) C dX11_isForm_7 (by decide) rfl (fun c1 => ?_) (fun c1 => ?_)
  · have hF := (if_pos c1).symm.trans hF
    refine z_iconst (q := 28) C dX11_isForm_27 rfl ?_
    cases hF
    exact z_zret C (zb01 (Or.inl rfl)) e1 e2 dX11_isForm_28
  · have hF := (if_neg c1).symm.trans hF
    refine z_aload_n (q := 11) C dX11_isForm_10 0 rfl rfl rfl ?_
    refine z_iload_n (q := 12) C dX11_isForm_11 2 rfl rfl rfl ?_
    obtain ⟨v2, ev2, hF⟩ := zb_e hF
    refine z_callV (q := 15) (o := 14) (av := [.int (zi l2)]) (rest := []) (stk2 := [.int (zi v2)]) C hR clX11 (zon C zo_14) kd_14 (M_fX11_form (zlv hd rfl) ev2) mY_X11_form q_1530 (Nat.le_of_ble_eq_true rfl) dX11_isForm_12 rfl rfl rfl ?_
    refine z_iload_n (q := 16) C dX11_isForm_15 1 rfl rfl rfl ?_
    refine z_icmp_ne (tgt := 21) (q := 19) C dX11_isForm_16 (by decide) rfl (fun c3 => ?_) (fun c3 => ?_)
    · have hF := (if_neg c3).symm.trans hF
      refine z_iinc (q := 24) (x := l2) C dX11_isForm_21 (j := 2) rfl (by decide) rfl rfl ?_
      refine z_goto (q := 2) C dX11_isForm_24 (by decide) ?_
      exact z_sub (hK2 _ _ hF) [1, 2, 0] rfl
    · have hF := (if_pos c3).symm.trans hF
      refine z_iconst (q := 20) C dX11_isForm_19 rfl ?_
      cases hF
      exact z_zret C (zb01 (Or.inr rfl)) e1 e2 dX11_isForm_20
set_option maxRecDepth 20000 in
set_option maxHeartbeats 4000000 in
theorem J_fX11_isForm_c2 {κ : zT} (C : zC κ RX11 cX11_isForm 3 (some .boolean)) {d : Nat} (hR : zR κ = zrm (d + 1)) (hd : 2 ≤ d + 1) {N : Nat} {h : zH} {r : Int} (e1 : zrv κ = some (.int (zi r))) (e2 : zhf κ = h) : ∀ (k : Nat) (l1 : Int) (l2 : Int), fX11_isForm_c2 N h k l1 l2 = some r → Z κ h 2 [(0, .ref (zα κ 14)), (1, .int (zi l1)), (2, .int (zi l2))] [] := by
  intro k
  induction k with
  | zero => intro l1 l2 hF; cases hF
  | succ k ih => intro l1 l2 hF; exact J_fX11_isForm_c2b C hR hd e1 e2 ih l1 l2 hF
set_option maxRecDepth 20000 in
set_option maxHeartbeats 4000000 in
theorem J_fX11_isForm {κ : zT} (C : zC κ RX11 cX11_isForm 3 (some .boolean)) {d : Nat} (hR : zR κ = zrm (d + 1)) (hd : 2 ≤ d + 1) {N : Nat} {h : zH} {r : Int} (e1 : zrv κ = some (.int (zi r))) (e2 : zhf κ = h) {a1 : Int} (hF : fX11_isForm N a1 h = some r) : Z κ h 0 [(0, .ref (zα κ 14)), (1, .int (zi a1))] [] := by
  unfold fX11_isForm at hF
  refine z_iconst (q := 1) C dX11_isForm_0 rfl ?_
  refine z_istore_n (q := 2) C dX11_isForm_1 (by decide) rfl rfl rfl ?_
  exact z_sub (J_fX11_isForm_c2 C hR hd e1 e2 N _ _ hF) [1, 2, 0] rfl
set_option maxRecDepth 20000 in
set_option maxHeartbeats 4000000 in
theorem M_fX11_isForm {l : Launch} {D : va_G} {cy : ClassId} {α : Nat → Nat} {n : Nat} {σ : zSg} {d : Nat} (hd : 2 ≤ d) {N : Nat} {a1 : Int} {h : zH} {r : Int} (hF : fX11_isForm N a1 h = some r) : zMet l yX11_isForm cX11_isForm 3 (some .boolean) (zrm d) D cy α n σ [.ref (α 14), .int (zi a1)] h (some (.int (zi r))) h := by
  obtain ⟨d, rfl⟩ : ∃ e, d = e + 1 := ⟨d - 1, by omega⟩
  refine z_met (by decide +kernel) (Nat.le_of_ble_eq_true rfl) (fun κ k1 k2 k3 k4 k5 k6 k7 k8 k9 C => ?_)
  subst k1 k3 k4 k5 k6 k7
  exact J_fX11_isForm C k2 hd k8 k9 hF
set_option maxRecDepth 20000 in
set_option maxHeartbeats 4000000 in
theorem J_fX11_layRow_c54 {κ : zT} (C : zC κ RX11 cX11_layRow 4 (some .boolean)) {d : Nat} (hR : zR κ = zrm (d + 1)) (hd : 3 ≤ d + 1) {N : Nat} {r : Int × zH} (e1 : zrv κ = some (.int (zi r.1))) (e2 : zhf κ = r.2) {K17 : Int → Int → Int → zH → Option (Int × zH)} (hK17 : ∀ (l1 : Int) (l2 : Int) (l3 : Int) (h : zH), K17 l1 l2 l3 h = some r → Z κ h 17 [(0, .ref (zα κ 14)), (1, .int (zi l1)), (2, .int (zi l2)), (3, .int (zi l3))] []) (l1 : Int) (l2 : Int) (l3 : Int) (s0 : Int) (s1 : Int) (h : zH) (hF : fX11_layRow_c54 N K17 l1 l2 l3 s0 s1 h = some r) : Z κ h 54 [(0, .ref (zα κ 14)), (1, .int (zi l1)), (2, .int (zi l2)), (3, .int (zi l3))] [.int (zi s0), .int (zi s1), .ref (zα κ 72)] := by
  unfold fX11_layRow_c54 at hF
  obtain ⟨g1, hF⟩ := zif_none hF
  obtain ⟨h2, eh2, hF⟩ := zlet_e hF
  refine z_iast (q := 55) C (zon C zo_72) kd_72 g1.1 (by rw [ln_72]; exact g1.2) dX11_layRow_54 rfl eh2 ?_
  refine z_iload_n (q := 56) C dX11_layRow_55 2 rfl rfl rfl ?_
  refine z_if_eq (tgt := 76) (q := 59) C dX11_layRow_56 (by decide) rfl (fun c3 => ?_) (fun c3 => ?_)
  · have hF := (if_pos c3).symm.trans hF
    refine z_iconst (q := 77) C dX11_layRow_76 rfl ?_
    refine z_istore_n (q := 78) C dX11_layRow_77 (by decide) rfl rfl rfl ?_
    refine z_iinc (q := 81) (x := l3) C dX11_layRow_78 (j := 3) rfl (by decide) rfl rfl ?_
    refine z_goto (q := 17) C dX11_layRow_81 (by decide) ?_
    exact z_sub (hK17 _ _ _ _ hF) [2, 3, 1, 0] rfl
  · have hF := (if_neg c3).symm.trans hF
    refine z_aload_n (q := 60) C dX11_layRow_59 0 rfl rfl rfl ?_
    refine z_aload_n (q := 61) C dX11_layRow_60 0 rfl rfl rfl ?_
    refine z_getf (q := 64) C clX11 (zon C zo_14) kd_14 (k := 43) (by decide) q_1145 rfl (zfv_r kd_14 rfl fr_14_43) dX11_layRow_61 rfl ?_
    refine z_iload_n (q := 65) C dX11_layRow_64 3 rfl rfl rfl ?_
    obtain ⟨g4, hF⟩ := zif_none hF
    refine z_iald (q := 66) C (zon C zo_72) kd_72 g4.1 (by rw [ln_72]; exact g4.2) dX11_layRow_65 rfl ?_
    obtain ⟨v5, ev5, hF⟩ := zb_e hF
    refine z_callV (q := 69) (o := 14) (av := [.int (zi (h2 72 (zw l3).toNat))]) (rest := []) (stk2 := [.int (zi v5)]) C hR clX11 (zon C zo_14) kd_14 (M_fX11_isForm (zlv hd rfl) ev5) mY_X11_isForm q_1674 (Nat.le_of_ble_eq_true rfl) dX11_layRow_66 rfl rfl rfl ?_
    refine z_if_eq (tgt := 76) (q := 72) C dX11_layRow_69 (by decide) rfl (fun c6 => ?_) (fun c6 => ?_)
    · have hF := (if_pos c6).symm.trans hF
      refine z_iconst (q := 77) C dX11_layRow_76 rfl ?_
      refine z_istore_n (q := 78) C dX11_layRow_77 (by decide) rfl rfl rfl ?_
      refine z_iinc (q := 81) (x := l3) C dX11_layRow_78 (j := 3) rfl (by decide) rfl rfl ?_
      refine z_goto (q := 17) C dX11_layRow_81 (by decide) ?_
      exact z_sub (hK17 _ _ _ _ hF) [2, 3, 1, 0] rfl
    · have hF := (if_neg c6).symm.trans hF
      refine z_iconst (q := 73) C dX11_layRow_72 rfl ?_
      refine z_goto (q := 77) C dX11_layRow_73 (by decide) ?_
      refine z_istore_n (q := 78) C dX11_layRow_77 (by decide) rfl rfl rfl ?_
      refine z_iinc (q := 81) (x := l3) C dX11_layRow_78 (j := 3) rfl (by decide) rfl rfl ?_
      refine z_goto (q := 17) C dX11_layRow_81 (by decide) ?_
      exact z_sub (hK17 _ _ _ _ hF) [2, 3, 1, 0] rfl
set_option maxRecDepth 20000 in
set_option maxHeartbeats 4000000 in
theorem J_fX11_layRow_c17b {κ : zT} (C : zC κ RX11 cX11_layRow 4 (some .boolean)) {d : Nat} (hR : zR κ = zrm (d + 1)) (hd : 3 ≤ d + 1) {N : Nat} {r : Int × zH} (e1 : zrv κ = some (.int (zi r.1))) (e2 : zhf κ = r.2) {K17 : Int → Int → Int → zH → Option (Int × zH)} (hK17 : ∀ (l1 : Int) (l2 : Int) (l3 : Int) (h : zH), K17 l1 l2 l3 h = some r → Z κ h 17 [(0, .ref (zα κ 14)), (1, .int (zi l1)), (2, .int (zi l2)), (3, .int (zi l3))] []) (l1 : Int) (l2 : Int) (l3 : Int) (h : zH) (hF : fX11_layRow_c17b N K17 l1 l2 l3 h = some r) : Z κ h 17 [(0, .ref (zα κ 14)), (1, .int (zi l1)), (2, .int (zi l2)), (3, .int (zi l3))] [] := by
  unfold fX11_layRow_c17b at hF
  refine z_iload_n (q := 18) C dX11_layRow_17 3 rfl rfl rfl ?_
  refine z_aload_n (q := 19) C dX11_layRow_18 0 rfl rfl rfl ?_
  refine z_getf (q := 22) C clX11 (zon C zo_14) kd_14 (k := 28) (by decide) q_1130 rfl (zfv_i kd_14 rfl) dX11_layRow_19 rfl ?_
  refine z_icmp_ge (tgt := 84) (q := 25) C dX11_layRow_22 (by decide) rfl (fun c1 => ?_) (fun c1 => ?_)
  · have hF := (if_pos c1).symm.trans hF
    refine z_iload_n (q := 85) C dX11_layRow_84 2 rfl rfl rfl ?_
    obtain ⟨g2, hF⟩ := zif_none hF
    cases hF
    exact z_zret C (zb01 g2) e1 e2 dX11_layRow_85
  · have hF := (if_neg c1).symm.trans hF
    refine z_aload_n (q := 26) C dX11_layRow_25 0 rfl rfl rfl ?_
    refine z_getf (q := 29) C clX11 (zon C zo_14) kd_14 (k := 43) (by decide) q_1145 rfl (zfv_r kd_14 rfl fr_14_43) dX11_layRow_26 rfl ?_
    refine z_iload_n (q := 30) C dX11_layRow_29 3 rfl rfl rfl ?_
    refine z_iload_n (q := 31) C dX11_layRow_30 2 rfl rfl rfl ?_
    refine z_if_eq (tgt := 53) (q := 34) C dX11_layRow_31 (by decide) rfl (fun c3 => ?_) (fun c3 => ?_)
    · have hF := (if_pos c3).symm.trans hF
      refine z_iconst (q := 54) C dX11_layRow_53 rfl ?_
      exact z_sub (J_fX11_layRow_c54 C hR hd e1 e2 hK17 _ _ _ _ _ _ hF) [0, 1, 2, 3] rfl
    · have hF := (if_neg c3).symm.trans hF
      refine z_iload_n (q := 35) C dX11_layRow_34 1 rfl rfl rfl ?_
      refine z_aload_n (q := 36) C dX11_layRow_35 0 rfl rfl rfl ?_
      refine z_getf (q := 39) C clX11 (zon C zo_14) kd_14 (k := 28) (by decide) q_1130 rfl (zfv_i kd_14 rfl) dX11_layRow_36 rfl ?_
      refine z_iconst (q := 40) C dX11_layRow_39 rfl ?_
      refine z_isub (q := 41) C dX11_layRow_40 rfl ?_
      refine z_iload_n (q := 42) C dX11_layRow_41 3 rfl rfl rfl ?_
      refine z_isub (q := 43) C dX11_layRow_42 rfl ?_
      obtain ⟨v4, ev4, hF⟩ := zb_e hF
      refine z_callS (q := 46) (av := [.int (zi (((h 14 28) - 1) - l3))]) (rest := [.int (zi l1), .int (zi l3), .ref (zα κ 72)]) (stk2 := [.int (zi v4), .int (zi l1), .int (zi l3), .ref (zα κ 72)]) C hR (M_fX11_ten (zlv hd rfl) ev4) mY_X11_ten q_1671 (Nat.le_of_ble_eq_true rfl) dX11_layRow_43 rfl rfl rfl ?_
      obtain ⟨g5, hF⟩ := zif_none hF
      refine z_idiv (q := 47) C g5 dX11_layRow_46 rfl ?_
      refine z_bipush (q := 49) C dX11_layRow_47 bp_10 rfl ?_
      refine z_irem (q := 50) C (by decide) dX11_layRow_49 rfl ?_
      refine z_goto (q := 54) C dX11_layRow_50 (by decide) ?_
      exact z_sub (J_fX11_layRow_c54 C hR hd e1 e2 hK17 _ _ _ _ _ _ hF) [0, 1, 2, 3] rfl
set_option maxRecDepth 20000 in
set_option maxHeartbeats 4000000 in
theorem J_fX11_layRow_c17 {κ : zT} (C : zC κ RX11 cX11_layRow 4 (some .boolean)) {d : Nat} (hR : zR κ = zrm (d + 1)) (hd : 3 ≤ d + 1) {N : Nat} {r : Int × zH} (e1 : zrv κ = some (.int (zi r.1))) (e2 : zhf κ = r.2) : ∀ (k : Nat) (l1 : Int) (l2 : Int) (l3 : Int) (h : zH), fX11_layRow_c17 N k l1 l2 l3 h = some r → Z κ h 17 [(0, .ref (zα κ 14)), (1, .int (zi l1)), (2, .int (zi l2)), (3, .int (zi l3))] [] := by
  intro k
  induction k with
  | zero => intro l1 l2 l3 h hF; cases hF
  | succ k ih => intro l1 l2 l3 h hF; exact J_fX11_layRow_c17b C hR hd e1 e2 ih l1 l2 l3 h hF
set_option maxRecDepth 20000 in
set_option maxHeartbeats 4000000 in
theorem J_fX11_layRow {κ : zT} (C : zC κ RX11 cX11_layRow 4 (some .boolean)) {d : Nat} (hR : zR κ = zrm (d + 1)) (hd : 3 ≤ d + 1) {N : Nat} {r : Int × zH} (e1 : zrv κ = some (.int (zi r.1))) (e2 : zhf κ = r.2) {a1 : Int} {h : zH} (hF : fX11_layRow N a1 h = some r) : Z κ h 0 [(0, .ref (zα κ 14)), (1, .int (zi a1))] [] := by
  unfold fX11_layRow at hF
  refine z_iload_n (q := 1) C dX11_layRow_0 1 rfl rfl rfl ?_
  refine z_iconst (q := 2) C dX11_layRow_1 rfl ?_
  refine z_aload_n (q := 3) C dX11_layRow_2 0 rfl rfl rfl ?_
  refine z_getf (q := 6) C clX11 (zon C zo_14) kd_14 (k := 28) (by decide) q_1130 rfl (zfv_i kd_14 rfl) dX11_layRow_3 rfl ?_
  obtain ⟨v1, ev1, hF⟩ := zb_e hF
  refine z_callS (q := 9) (av := [.int (zi (h 14 28))]) (rest := [.int (zi 0), .int (zi a1)]) (stk2 := [.int (zi v1), .int (zi 0), .int (zi a1)]) C hR (M_fX11_ten (zlv hd rfl) ev1) mY_X11_ten q_1671 (Nat.le_of_ble_eq_true rfl) dX11_layRow_6 rfl rfl rfl ?_
  refine z_iconst (q := 10) C dX11_layRow_9 rfl ?_
  refine z_isub (q := 11) C dX11_layRow_10 rfl ?_
  refine z_callS (q := 14) (av := [.int (zi a1), .int (zi 0), .int (zi (v1 - 1))]) (rest := []) (stk2 := [.int (zi (fX11_in a1 0 (v1 - 1)))]) C hR (M_fX11_in (zlv hd rfl) rfl) mY_X11_in q_1314 (Nat.le_of_ble_eq_true rfl) dX11_layRow_11 rfl rfl rfl ?_
  obtain ⟨v2, ev2, hF⟩ := zlet_e hF
  refine z_istoreE_n (q := 15) C ev2 dX11_layRow_14 (by decide) rfl rfl rfl ?_
  refine z_iconst (q := 16) C dX11_layRow_15 rfl ?_
  refine z_istore_n (q := 17) C dX11_layRow_16 (by decide) rfl rfl rfl ?_
  exact z_sub (J_fX11_layRow_c17 C hR hd e1 e2 N _ _ _ _ hF) [2, 3, 1, 0] rfl
set_option maxRecDepth 20000 in
set_option maxHeartbeats 4000000 in
theorem M_fX11_layRow {l : Launch} {D : va_G} {cy : ClassId} {α : Nat → Nat} {n : Nat} {σ : zSg} {d : Nat} (hd : 3 ≤ d) {N : Nat} {a1 : Int} {h : zH} {r : Int} {g : zH} (hF : fX11_layRow N a1 h = some (r, g)) : zMet l yX11_layRow cX11_layRow 4 (some .boolean) (zrm d) D cy α n σ [.ref (α 14), .int (zi a1)] h (some (.int (zi r))) g := by
  obtain ⟨d, rfl⟩ : ∃ e, d = e + 1 := ⟨d - 1, by omega⟩
  refine z_met (by decide +kernel) (Nat.le_of_ble_eq_true rfl) (fun κ k1 k2 k3 k4 k5 k6 k7 k8 k9 C => ?_)
  subst k1 k3 k4 k5 k6 k7
  exact J_fX11_layRow C k2 hd k8 k9 hF
set_option maxRecDepth 20000 in
set_option maxHeartbeats 4000000 in
theorem J_fX11_chosenHours_c38 {κ : zT} (C : zC κ RX11 cX11_chosenHours 5 (some .int)) {d : Nat} (hR : zR κ = zrm (d + 1)) (hd : 3 ≤ d + 1) {N : Nat} {h : zH} {r : Int} (e1 : zrv κ = some (.int (zi r))) (e2 : zhf κ = h) {K7 : Int → Int → Int → Int → Option Int} (hK7 : ∀ (l1 : Int) (l2 : Int) (l3 : Int) (l4 : Int), K7 l1 l2 l3 l4 = some r → Z κ h 7 [(0, .ref (zα κ 14)), (1, .int (zi l1)), (2, .int (zi l2)), (3, .int (zi l3)), (4, .int (zi l4))] []) (l1 : Int) (l3 : Int) (l4 : Int) (s0 : Int) (s1 : Int) (hF : fX11_chosenHours_c38 N h K7 l1 l3 l4 s0 s1 = some r) : Z κ h 38 [(0, .ref (zα κ 14)), (1, .int (zi l1)), (3, .int (zi l3)), (4, .int (zi l4))] [.int (zi s0), .int (zi s1)] := by
  unfold fX11_chosenHours_c38 at hF
  refine z_iadd (q := 39) C dX11_chosenHours_38 rfl ?_
  refine z_istore_n (q := 40) C dX11_chosenHours_39 (by decide) rfl rfl rfl ?_
  refine z_iload_n (q := 41) C dX11_chosenHours_40 3 rfl rfl rfl ?_
  refine z_aload_n (q := 42) C dX11_chosenHours_41 1 rfl rfl rfl ?_
  refine z_getf (q := 45) C clX11 (zon C zo_14) kd_14 (k := 43) (by decide) q_1145 rfl (zfv_r kd_14 rfl fr_14_43) dX11_chosenHours_42 rfl ?_
  refine z_iload (q := 47) C dX11_chosenHours_45 4 rfl rfl ?_
  obtain ⟨g1, hF⟩ := zif_none hF
  refine z_iald (q := 48) C (zon C zo_72) kd_72 g1.1 (by rw [ln_72]; exact g1.2) dX11_chosenHours_47 rfl ?_
  refine z_aload_n (q := 49) C dX11_chosenHours_48 1 rfl rfl rfl ?_
  refine z_getf (q := 52) C clX11 (zon C zo_14) kd_14 (k := 43) (by decide) q_1145 rfl (zfv_r kd_14 rfl fr_14_43) dX11_chosenHours_49 rfl ?_
  refine z_iload_n (q := 53) C dX11_chosenHours_52 2 rfl rfl rfl ?_
  obtain ⟨g2, hF⟩ := zif_none hF
  refine z_iald (q := 54) C (zon C zo_72) kd_72 g2.1 (by rw [ln_72]; exact g2.2) dX11_chosenHours_53 rfl ?_
  refine z_icmp_ne (tgt := 67) (q := 57) C dX11_chosenHours_54 (by decide) rfl (fun c3 => ?_) (fun c3 => ?_)
  · have hF := (if_neg c3).symm.trans hF
    refine z_iconst (q := 68) C dX11_chosenHours_67 rfl ?_
    refine z_iadd (q := 69) C dX11_chosenHours_68 rfl ?_
    refine z_istore_n (q := 70) C dX11_chosenHours_69 (by decide) rfl rfl rfl ?_
    refine z_iinc (q := 73) (x := l4) C dX11_chosenHours_70 (j := 4) rfl (by decide) rfl rfl ?_
    refine z_goto (q := 7) C dX11_chosenHours_73 (by decide) ?_
    exact z_sub (hK7 _ _ _ _ hF) [3, 4, 2, 1, 0] rfl
  · have hF := (if_pos c3).symm.trans hF
    refine z_iload (q := 59) C dX11_chosenHours_57 4 rfl rfl ?_
    refine z_iload_n (q := 60) C dX11_chosenHours_59 2 rfl rfl rfl ?_
    refine z_icmp_ge (tgt := 67) (q := 63) C dX11_chosenHours_60 (by decide) rfl (fun c4 => ?_) (fun c4 => ?_)
    · have hF := (if_pos c4).symm.trans hF
      refine z_iconst (q := 68) C dX11_chosenHours_67 rfl ?_
      refine z_iadd (q := 69) C dX11_chosenHours_68 rfl ?_
      refine z_istore_n (q := 70) C dX11_chosenHours_69 (by decide) rfl rfl rfl ?_
      refine z_iinc (q := 73) (x := l4) C dX11_chosenHours_70 (j := 4) rfl (by decide) rfl rfl ?_
      refine z_goto (q := 7) C dX11_chosenHours_73 (by decide) ?_
      exact z_sub (hK7 _ _ _ _ hF) [3, 4, 2, 1, 0] rfl
    · have hF := (if_neg c4).symm.trans hF
      refine z_iconst (q := 64) C dX11_chosenHours_63 rfl ?_
      refine z_goto (q := 68) C dX11_chosenHours_64 (by decide) ?_
      refine z_iadd (q := 69) C dX11_chosenHours_68 rfl ?_
      refine z_istore_n (q := 70) C dX11_chosenHours_69 (by decide) rfl rfl rfl ?_
      refine z_iinc (q := 73) (x := l4) C dX11_chosenHours_70 (j := 4) rfl (by decide) rfl rfl ?_
      refine z_goto (q := 7) C dX11_chosenHours_73 (by decide) ?_
      exact z_sub (hK7 _ _ _ _ hF) [3, 4, 2, 1, 0] rfl
set_option maxRecDepth 20000 in
set_option maxHeartbeats 4000000 in
theorem J_fX11_chosenHours_c7b {κ : zT} (C : zC κ RX11 cX11_chosenHours 5 (some .int)) {d : Nat} (hR : zR κ = zrm (d + 1)) (hd : 3 ≤ d + 1) {N : Nat} {h : zH} {r : Int} (e1 : zrv κ = some (.int (zi r))) (e2 : zhf κ = h) {K7 : Int → Int → Int → Int → Option Int} (hK7 : ∀ (l1 : Int) (l2 : Int) (l3 : Int) (l4 : Int), K7 l1 l2 l3 l4 = some r → Z κ h 7 [(0, .ref (zα κ 14)), (1, .int (zi l1)), (2, .int (zi l2)), (3, .int (zi l3)), (4, .int (zi l4))] []) (l1 : Int) (l2 : Int) (l3 : Int) (l4 : Int) (hF : fX11_chosenHours_c7b N h K7 l1 l2 l3 l4 = some r) : Z κ h 7 [(0, .ref (zα κ 14)), (1, .int (zi l1)), (2, .int (zi l2)), (3, .int (zi l3)), (4, .int (zi l4))] [] := by
  unfold fX11_chosenHours_c7b at hF
  refine z_iload (q := 9) C dX11_chosenHours_7 4 rfl rfl ?_
  refine z_aload_n (q := 10) C dX11_chosenHours_9 0 rfl rfl rfl ?_
  refine z_getf (q := 13) C clX11 (zon C zo_14) kd_14 (k := 28) (by decide) q_1130 rfl (zfv_i kd_14 rfl) dX11_chosenHours_10 rfl ?_
  refine z_icmp_ge (tgt := 76) (q := 16) C dX11_chosenHours_13 (by decide) rfl (fun c1 => ?_) (fun c1 => ?_)
  · have hF := (if_pos c1).symm.trans hF
    refine z_aload_n (q := 77) C dX11_chosenHours_76 0 rfl rfl rfl ?_
    refine z_iload_n (q := 78) C dX11_chosenHours_77 1 rfl rfl rfl ?_
    refine z_iload_n (q := 79) C dX11_chosenHours_78 2 rfl rfl rfl ?_
    refine z_iload_n (q := 80) C dX11_chosenHours_79 3 rfl rfl rfl ?_
    obtain ⟨v2, ev2, hF⟩ := zb_e hF
    refine z_callV (q := 83) (o := 14) (av := [.int (zi l1), .int (zi l2), .int (zi l3)]) (rest := []) (stk2 := [.int (zi v2)]) C hR clX11 (zon C zo_14) kd_14 (M_fX11_shareOf (zlv hd rfl) ev2) mY_X11_shareOf q_1538 (Nat.le_of_ble_eq_true rfl) dX11_chosenHours_80 rfl rfl rfl ?_
    cases hF
    exact z_iret C e1 e2 dX11_chosenHours_83
  · have hF := (if_neg c1).symm.trans hF
    refine z_iload_n (q := 17) C dX11_chosenHours_16 2 rfl rfl rfl ?_
    refine z_aload_n (q := 18) C dX11_chosenHours_17 0 rfl rfl rfl ?_
    refine z_getf (q := 21) C clX11 (zon C zo_14) kd_14 (k := 43) (by decide) q_1145 rfl (zfv_r kd_14 rfl fr_14_43) dX11_chosenHours_18 rfl ?_
    refine z_iload (q := 23) C dX11_chosenHours_21 4 rfl rfl ?_
    obtain ⟨g3, hF⟩ := zif_none hF
    refine z_iald (q := 24) C (zon C zo_72) kd_72 g3.1 (by rw [ln_72]; exact g3.2) dX11_chosenHours_23 rfl ?_
    refine z_aload_n (q := 25) C dX11_chosenHours_24 0 rfl rfl rfl ?_
    refine z_getf (q := 28) C clX11 (zon C zo_14) kd_14 (k := 43) (by decide) q_1145 rfl (zfv_r kd_14 rfl fr_14_43) dX11_chosenHours_25 rfl ?_
    refine z_iload_n (q := 29) C dX11_chosenHours_28 1 rfl rfl rfl ?_
    obtain ⟨g4, hF⟩ := zif_none hF
    refine z_iald (q := 30) C (zon C zo_72) kd_72 g4.1 (by rw [ln_72]; exact g4.2) dX11_chosenHours_29 rfl ?_
    refine z_icmp_ne (tgt := 37) (q := 33) C dX11_chosenHours_30 (by decide) rfl (fun c5 => ?_) (fun c5 => ?_)
    · have hF := (if_neg c5).symm.trans hF
      refine z_iconst (q := 38) C dX11_chosenHours_37 rfl ?_
      exact z_sub (J_fX11_chosenHours_c38 C hR hd e1 e2 hK7 _ _ _ _ _ hF) [0, 1, 3, 4] rfl
    · have hF := (if_pos c5).symm.trans hF
      refine z_iconst (q := 34) C dX11_chosenHours_33 rfl ?_
      refine z_goto (q := 38) C dX11_chosenHours_34 (by decide) ?_
      exact z_sub (J_fX11_chosenHours_c38 C hR hd e1 e2 hK7 _ _ _ _ _ hF) [0, 1, 3, 4] rfl
set_option maxRecDepth 20000 in
set_option maxHeartbeats 4000000 in
theorem J_fX11_chosenHours_c7 {κ : zT} (C : zC κ RX11 cX11_chosenHours 5 (some .int)) {d : Nat} (hR : zR κ = zrm (d + 1)) (hd : 3 ≤ d + 1) {N : Nat} {h : zH} {r : Int} (e1 : zrv κ = some (.int (zi r))) (e2 : zhf κ = h) : ∀ (k : Nat) (l1 : Int) (l2 : Int) (l3 : Int) (l4 : Int), fX11_chosenHours_c7 N h k l1 l2 l3 l4 = some r → Z κ h 7 [(0, .ref (zα κ 14)), (1, .int (zi l1)), (2, .int (zi l2)), (3, .int (zi l3)), (4, .int (zi l4))] [] := by
  intro k
  induction k with
  | zero => intro l1 l2 l3 l4 hF; cases hF
  | succ k ih => intro l1 l2 l3 l4 hF; exact J_fX11_chosenHours_c7b C hR hd e1 e2 ih l1 l2 l3 l4 hF
set_option maxRecDepth 20000 in
set_option maxHeartbeats 4000000 in
theorem J_fX11_chosenHours {κ : zT} (C : zC κ RX11 cX11_chosenHours 5 (some .int)) {d : Nat} (hR : zR κ = zrm (d + 1)) (hd : 3 ≤ d + 1) {N : Nat} {h : zH} {r : Int} (e1 : zrv κ = some (.int (zi r))) (e2 : zhf κ = h) {a1 : Int} (hF : fX11_chosenHours N a1 h = some r) : Z κ h 0 [(0, .ref (zα κ 14)), (1, .int (zi a1))] [] := by
  unfold fX11_chosenHours at hF
  refine z_iconst (q := 1) C dX11_chosenHours_0 rfl ?_
  refine z_istore_n (q := 2) C dX11_chosenHours_1 (by decide) rfl rfl rfl ?_
  refine z_iconst (q := 3) C dX11_chosenHours_2 rfl ?_
  refine z_istore_n (q := 4) C dX11_chosenHours_3 (by decide) rfl rfl rfl ?_
  refine z_iconst (q := 5) C dX11_chosenHours_4 rfl ?_
  refine z_istore (q := 7) C dX11_chosenHours_5 (by decide) rfl rfl ?_
  exact z_sub (J_fX11_chosenHours_c7 C hR hd e1 e2 N _ _ _ _ hF) [3, 4, 2, 1, 0] rfl
set_option maxRecDepth 20000 in
set_option maxHeartbeats 4000000 in
theorem M_fX11_chosenHours {l : Launch} {D : va_G} {cy : ClassId} {α : Nat → Nat} {n : Nat} {σ : zSg} {d : Nat} (hd : 3 ≤ d) {N : Nat} {a1 : Int} {h : zH} {r : Int} (hF : fX11_chosenHours N a1 h = some r) : zMet l yX11_chosenHours cX11_chosenHours 5 (some .int) (zrm d) D cy α n σ [.ref (α 14), .int (zi a1)] h (some (.int (zi r))) h := by
  obtain ⟨d, rfl⟩ : ∃ e, d = e + 1 := ⟨d - 1, by omega⟩
  refine z_met (by decide +kernel) (Nat.le_of_ble_eq_true rfl) (fun κ k1 k2 k3 k4 k5 k6 k7 k8 k9 C => ?_)
  subst k1 k3 k4 k5 k6 k7
  exact J_fX11_chosenHours C k2 hd k8 k9 hF
set_option maxRecDepth 20000 in
set_option maxHeartbeats 4000000 in
theorem J_fX11_share {κ : zT} (C : zC κ RX11 cX11_share 3 (some .int)) {d : Nat} (hR : zR κ = zrm (d + 1)) (hd : 4 ≤ d + 1) {N : Nat} {r : Int × zH} (e1 : zrv κ = some (.int (zi r.1))) (e2 : zhf κ = r.2) {a1 : Int} {a2 : Int} {h : zH} (hF : fX11_share N a1 a2 h = some r) : Z κ h 0 [(0, .ref (zα κ 14)), (1, .int (zi a1)), (2, .int (zi a2))] [] := by
  unfold fX11_share at hF
  refine z_aload_n (q := 1) C dX11_share_0 0 rfl rfl rfl ?_
  refine z_iload_n (q := 2) C dX11_share_1 2 rfl rfl rfl ?_
  refine z_callV (q := 5) (o := 14) (av := [.int (zi a2)]) (rest := []) (stk2 := [.int (zi (fX11_isParish a2 h))]) C hR clX11 (zon C zo_14) kd_14 (M_fX11_isParish (zlv hd rfl) rfl) mY_X11_isParish q_1426 (Nat.le_of_ble_eq_true rfl) dX11_share_2 rfl rfl rfl ?_
  refine z_if_eq (tgt := 32) (q := 8) C dX11_share_5 (by decide) rfl (fun c1 => ?_) (fun c1 => ?_)
  · have hF := (if_pos c1).symm.trans hF
    refine z_ldcw (q := 35) C kc_RX11_392 dX11_share_32 rfl ?_
    cases hF
    exact z_iret C e1 e2 dX11_share_35
  · have hF := (if_neg c1).symm.trans hF
    refine z_aload_n (q := 9) C dX11_share_8 0 rfl rfl rfl ?_
    refine z_getf (q := 12) C clX11 (zon C zo_14) kd_14 (k := 28) (by decide) q_1130 rfl (zfv_i kd_14 rfl) dX11_share_9 rfl ?_
    refine z_iconst (q := 13) C dX11_share_12 rfl ?_
    refine z_icmp_gt (tgt := 32) (q := 16) C dX11_share_13 (by decide) rfl (fun c2 => ?_) (fun c2 => ?_)
    · have hF := (if_pos c2).symm.trans hF
      refine z_ldcw (q := 35) C kc_RX11_392 dX11_share_32 rfl ?_
      cases hF
      exact z_iret C e1 e2 dX11_share_35
    · have hF := (if_neg c2).symm.trans hF
      refine z_aload_n (q := 17) C dX11_share_16 0 rfl rfl rfl ?_
      refine z_iload_n (q := 18) C dX11_share_17 1 rfl rfl rfl ?_
      obtain ⟨v4, h3, ev4, hF⟩ := z2_e hF
      refine z_callV (q := 21) (o := 14) (av := [.int (zi a1)]) (rest := []) (stk2 := [.int (zi v4)]) C hR clX11 (zon C zo_14) kd_14 (M_fX11_layRow (zlv hd rfl) ev4) mY_X11_layRow q_1667 (Nat.le_of_ble_eq_true rfl) dX11_share_18 rfl rfl rfl ?_
      refine z_if_eq (tgt := 32) (q := 24) C dX11_share_21 (by decide) rfl (fun c5 => ?_) (fun c5 => ?_)
      · have hF := (if_pos c5).symm.trans hF
        refine z_ldcw (q := 35) C kc_RX11_392 dX11_share_32 rfl ?_
        cases hF
        exact z_iret C e1 e2 dX11_share_35
      · have hF := (if_neg c5).symm.trans hF
        refine z_aload_n (q := 25) C dX11_share_24 0 rfl rfl rfl ?_
        refine z_iload_n (q := 26) C dX11_share_25 2 rfl rfl rfl ?_
        obtain ⟨v6, ev6, hF⟩ := zb_e hF
        refine z_callV (q := 29) (o := 14) (av := [.int (zi a2)]) (rest := []) (stk2 := [.int (zi v6)]) C hR clX11 (zon C zo_14) kd_14 (M_fX11_chosenHours (zlv hd rfl) ev6) mY_X11_chosenHours q_1678 (Nat.le_of_ble_eq_true rfl) dX11_share_26 rfl rfl rfl ?_
        refine z_goto (q := 35) C dX11_share_29 (by decide) ?_
        cases hF
        exact z_iret C e1 e2 dX11_share_35
set_option maxRecDepth 20000 in
set_option maxHeartbeats 4000000 in
theorem M_fX11_share {l : Launch} {D : va_G} {cy : ClassId} {α : Nat → Nat} {n : Nat} {σ : zSg} {d : Nat} (hd : 4 ≤ d) {N : Nat} {a1 : Int} {a2 : Int} {h : zH} {r : Int} {g : zH} (hF : fX11_share N a1 a2 h = some (r, g)) : zMet l yX11_share cX11_share 3 (some .int) (zrm d) D cy α n σ [.ref (α 14), .int (zi a1), .int (zi a2)] h (some (.int (zi r))) g := by
  obtain ⟨d, rfl⟩ : ∃ e, d = e + 1 := ⟨d - 1, by omega⟩
  refine z_met (by decide +kernel) (Nat.le_of_ble_eq_true rfl) (fun κ k1 k2 k3 k4 k5 k6 k7 k8 k9 C => ?_)
  subst k1 k3 k4 k5 k6 k7
  exact J_fX11_share C k2 hd k8 k9 hF
set_option maxRecDepth 20000 in
set_option maxHeartbeats 4000000 in
theorem J_fX11_isRest_c29b {κ : zT} (C : zC κ RX11 cX11_isRest 6 (some .boolean)) {d : Nat} (hR : zR κ = zrm (d + 1)) (hd : 4 ≤ d + 1) {N : Nat} {r : Int × zH} (e1 : zrv κ = some (.int (zi r.1))) (e2 : zhf κ = r.2) {K2 : Int → zH → Option (Int × zH)} (hK2 : ∀ (l1 : Int) (h : zH), K2 l1 h = some r → Z κ h 2 [(0, .ref (zα κ 14)), (1, .int (zi l1))] []) {K29 : Int → Int → Int → Int → Int → zH → Option (Int × zH)} (hK29 : ∀ (l1 : Int) (l2 : Int) (l3 : Int) (l4 : Int) (l5 : Int) (h : zH), K29 l1 l2 l3 l4 l5 h = some r → Z κ h 29 [(0, .ref (zα κ 14)), (1, .int (zi l1)), (2, .int (zi l2)), (3, .int (zi l3)), (4, .int (zi l4)), (5, .int (zi l5))] []) (l1 : Int) (l2 : Int) (l3 : Int) (l4 : Int) (l5 : Int) (h : zH) (hF : fX11_isRest_c29b N K2 K29 l1 l2 l3 l4 l5 h = some r) : Z κ h 29 [(0, .ref (zα κ 14)), (1, .int (zi l1)), (2, .int (zi l2)), (3, .int (zi l3)), (4, .int (zi l4)), (5, .int (zi l5))] [] := by
  unfold fX11_isRest_c29b at hF
  refine z_iload (q := 31) C dX11_isRest_29 5 rfl rfl ?_
  refine z_aload_n (q := 32) C dX11_isRest_31 0 rfl rfl rfl ?_
  refine z_getf (q := 35) C clX11 (zon C zo_14) kd_14 (k := 30) (by decide) q_1132 rfl (zfv_i kd_14 rfl) dX11_isRest_32 rfl ?_
  refine z_icmp_ge (tgt := 82) (q := 38) C dX11_isRest_35 (by decide) rfl (fun c1 => ?_) (fun c1 => ?_)
  · have hF := (if_pos c1).symm.trans hF
    refine z_aload_n (q := 83) C dX11_isRest_82 0 rfl rfl rfl ?_
    refine z_getf (q := 86) C clX11 (zon C zo_14) kd_14 (k := 43) (by decide) q_1145 rfl (zfv_r kd_14 rfl fr_14_43) dX11_isRest_83 rfl ?_
    refine z_iload_n (q := 87) C dX11_isRest_86 1 rfl rfl rfl ?_
    refine z_iload_n (q := 88) C dX11_isRest_87 3 rfl rfl rfl ?_
    obtain ⟨g2, hF⟩ := zif_none hF
    obtain ⟨h3, eh3, hF⟩ := zlet_e hF
    refine z_iast (q := 89) C (zon C zo_72) kd_72 g2.1 (by rw [ln_72]; exact g2.2) dX11_isRest_88 rfl eh3 ?_
    refine z_iload (q := 91) C dX11_isRest_89 4 rfl rfl ?_
    refine z_if_ne (tgt := 96) (q := 94) C dX11_isRest_91 (by decide) rfl (fun c4 => ?_) (fun c4 => ?_)
    · have hF := (if_neg c4).symm.trans hF
      refine z_iinc (q := 99) (x := l1) C dX11_isRest_96 (j := 1) rfl (by decide) rfl rfl ?_
      refine z_goto (q := 2) C dX11_isRest_99 (by decide) ?_
      exact z_sub (hK2 _ _ hF) [1, 0] rfl
    · have hF := (if_pos c4).symm.trans hF
      refine z_iconst (q := 95) C dX11_isRest_94 rfl ?_
      cases hF
      exact z_zret C (zb01 (Or.inl rfl)) e1 e2 dX11_isRest_95
  · have hF := (if_neg c1).symm.trans hF
    refine z_aload_n (q := 39) C dX11_isRest_38 0 rfl rfl rfl ?_
    refine z_iload (q := 41) C dX11_isRest_39 5 rfl rfl ?_
    obtain ⟨v5, ev5, hF⟩ := zb_e hF
    refine z_callV (q := 44) (o := 14) (av := [.int (zi l5)]) (rest := []) (stk2 := [.int (zi v5)]) C hR clX11 (zon C zo_14) kd_14 (M_fX11_isForm (zlv hd rfl) ev5) mY_X11_isForm q_1674 (Nat.le_of_ble_eq_true rfl) dX11_isRest_41 rfl rfl rfl ?_
    refine z_if_eq (tgt := 76) (q := 47) C dX11_isRest_44 (by decide) rfl (fun c6 => ?_) (fun c6 => ?_)
    · have hF := (if_pos c6).symm.trans hF
      refine z_iinc (q := 79) (x := l5) C dX11_isRest_76 (j := 5) rfl (by decide) rfl rfl ?_
      refine z_goto (q := 29) C dX11_isRest_79 (by decide) ?_
      exact z_sub (hK29 _ _ _ _ _ _ hF) [1, 2, 3, 4, 5, 0] rfl
    · have hF := (if_neg c6).symm.trans hF
      refine z_aload_n (q := 48) C dX11_isRest_47 0 rfl rfl rfl ?_
      refine z_getf (q := 51) C clX11 (zon C zo_14) kd_14 (k := 43) (by decide) q_1145 rfl (zfv_r kd_14 rfl fr_14_43) dX11_isRest_48 rfl ?_
      refine z_iload_n (q := 52) C dX11_isRest_51 1 rfl rfl rfl ?_
      refine z_iload (q := 54) C dX11_isRest_52 5 rfl rfl ?_
      obtain ⟨g7, hF⟩ := zif_none hF
      obtain ⟨h8, eh8, hF⟩ := zlet_e hF
      refine z_iast (q := 55) C (zon C zo_72) kd_72 g7.1 (by rw [ln_72]; exact g7.2) dX11_isRest_54 rfl eh8 ?_
      refine z_iload (q := 57) C dX11_isRest_55 4 rfl rfl ?_
      refine z_if_eq (tgt := 73) (q := 60) C dX11_isRest_57 (by decide) rfl (fun c9 => ?_) (fun c9 => ?_)
      · have hF := (if_pos c9).symm.trans hF
        refine z_iconst (q := 74) C dX11_isRest_73 rfl ?_
        refine z_istore (q := 76) C dX11_isRest_74 (by decide) rfl rfl ?_
        refine z_iinc (q := 79) (x := l5) C dX11_isRest_76 (j := 5) rfl (by decide) rfl rfl ?_
        refine z_goto (q := 29) C dX11_isRest_79 (by decide) ?_
        exact z_sub (hK29 _ _ _ _ _ _ hF) [2, 3, 4, 5, 1, 0] rfl
      · have hF := (if_neg c9).symm.trans hF
        refine z_aload_n (q := 61) C dX11_isRest_60 0 rfl rfl rfl ?_
        refine z_iload_n (q := 62) C dX11_isRest_61 1 rfl rfl rfl ?_
        obtain ⟨v10, ev10, hF⟩ := zb_e hF
        refine z_callV (q := 65) (o := 14) (av := [.int (zi l1)]) (rest := []) (stk2 := [.int (zi v10)]) C hR clX11 (zon C zo_14) kd_14 (M_fX11_chosenHours (zlv hd rfl) ev10) mY_X11_chosenHours q_1678 (Nat.le_of_ble_eq_true rfl) dX11_isRest_62 rfl rfl rfl ?_
        refine z_iload_n (q := 66) C dX11_isRest_65 2 rfl rfl rfl ?_
        refine z_icmp_gt (tgt := 73) (q := 69) C dX11_isRest_66 (by decide) rfl (fun c11 => ?_) (fun c11 => ?_)
        · have hF := (if_pos c11).symm.trans hF
          refine z_iconst (q := 74) C dX11_isRest_73 rfl ?_
          refine z_istore (q := 76) C dX11_isRest_74 (by decide) rfl rfl ?_
          refine z_iinc (q := 79) (x := l5) C dX11_isRest_76 (j := 5) rfl (by decide) rfl rfl ?_
          refine z_goto (q := 29) C dX11_isRest_79 (by decide) ?_
          exact z_sub (hK29 _ _ _ _ _ _ hF) [2, 3, 4, 5, 1, 0] rfl
        · have hF := (if_neg c11).symm.trans hF
          refine z_iconst (q := 70) C dX11_isRest_69 rfl ?_
          refine z_goto (q := 74) C dX11_isRest_70 (by decide) ?_
          refine z_istore (q := 76) C dX11_isRest_74 (by decide) rfl rfl ?_
          refine z_iinc (q := 79) (x := l5) C dX11_isRest_76 (j := 5) rfl (by decide) rfl rfl ?_
          refine z_goto (q := 29) C dX11_isRest_79 (by decide) ?_
          exact z_sub (hK29 _ _ _ _ _ _ hF) [2, 3, 4, 5, 1, 0] rfl
set_option maxRecDepth 20000 in
set_option maxHeartbeats 4000000 in
theorem J_fX11_isRest_c29 {κ : zT} (C : zC κ RX11 cX11_isRest 6 (some .boolean)) {d : Nat} (hR : zR κ = zrm (d + 1)) (hd : 4 ≤ d + 1) {N : Nat} {r : Int × zH} (e1 : zrv κ = some (.int (zi r.1))) (e2 : zhf κ = r.2) {K2 : Int → zH → Option (Int × zH)} (hK2 : ∀ (l1 : Int) (h : zH), K2 l1 h = some r → Z κ h 2 [(0, .ref (zα κ 14)), (1, .int (zi l1))] []) : ∀ (k : Nat) (l1 : Int) (l2 : Int) (l3 : Int) (l4 : Int) (l5 : Int) (h : zH), fX11_isRest_c29 N K2 k l1 l2 l3 l4 l5 h = some r → Z κ h 29 [(0, .ref (zα κ 14)), (1, .int (zi l1)), (2, .int (zi l2)), (3, .int (zi l3)), (4, .int (zi l4)), (5, .int (zi l5))] [] := by
  intro k
  induction k with
  | zero => intro l1 l2 l3 l4 l5 h hF; cases hF
  | succ k ih => intro l1 l2 l3 l4 l5 h hF; exact J_fX11_isRest_c29b C hR hd e1 e2 hK2 ih l1 l2 l3 l4 l5 h hF
set_option maxRecDepth 20000 in
set_option maxHeartbeats 4000000 in
theorem J_fX11_isRest_c2b {κ : zT} (C : zC κ RX11 cX11_isRest 6 (some .boolean)) {d : Nat} (hR : zR κ = zrm (d + 1)) (hd : 4 ≤ d + 1) {N : Nat} {r : Int × zH} (e1 : zrv κ = some (.int (zi r.1))) (e2 : zhf κ = r.2) {K2 : Int → zH → Option (Int × zH)} (hK2 : ∀ (l1 : Int) (h : zH), K2 l1 h = some r → Z κ h 2 [(0, .ref (zα κ 14)), (1, .int (zi l1))] []) (l1 : Int) (h : zH) (hF : fX11_isRest_c2b N K2 l1 h = some r) : Z κ h 2 [(0, .ref (zα κ 14)), (1, .int (zi l1))] [] := by
  unfold fX11_isRest_c2b at hF
  refine z_iload_n (q := 3) C dX11_isRest_2 1 rfl rfl rfl ?_
  refine z_aload_n (q := 4) C dX11_isRest_3 0 rfl rfl rfl ?_
  refine z_getf (q := 7) C clX11 (zon C zo_14) kd_14 (k := 28) (by decide) q_1130 rfl (zfv_i kd_14 rfl) dX11_isRest_4 rfl ?_
  refine z_icmp_ge (tgt := 102) (q := 10) C dX11_isRest_7 (by decide) rfl (fun c1 => ?_) (fun c1 => ?_)
  · have hF := (if_pos c1).symm.trans hF
    refine z_iconst (q := 103) C dX11_isRest_102 rfl ?_
    cases hF
    exact z_zret C (zb01 (Or.inr rfl)) e1 e2 dX11_isRest_103
  · have hF := (if_neg c1).symm.trans hF
    refine z_aload_n (q := 11) C dX11_isRest_10 0 rfl rfl rfl ?_
    refine z_iload_n (q := 12) C dX11_isRest_11 1 rfl rfl rfl ?_
    obtain ⟨v2, ev2, hF⟩ := zb_e hF
    refine z_callV (q := 15) (o := 14) (av := [.int (zi l1)]) (rest := []) (stk2 := [.int (zi v2)]) C hR clX11 (zon C zo_14) kd_14 (M_fX11_chosenHours (zlv hd rfl) ev2) mY_X11_chosenHours q_1678 (Nat.le_of_ble_eq_true rfl) dX11_isRest_12 rfl rfl rfl ?_
    refine z_istore_n (q := 16) C dX11_isRest_15 (by decide) rfl rfl rfl ?_
    refine z_aload_n (q := 17) C dX11_isRest_16 1 rfl rfl rfl ?_
    refine z_getf (q := 20) C clX11 (zon C zo_14) kd_14 (k := 43) (by decide) q_1145 rfl (zfv_r kd_14 rfl fr_14_43) dX11_isRest_17 rfl ?_
    refine z_iload_n (q := 21) C dX11_isRest_20 2 rfl rfl rfl ?_
    obtain ⟨g3, hF⟩ := zif_none hF
    refine z_iald (q := 22) C (zon C zo_72) kd_72 g3.1 (by rw [ln_72]; exact g3.2) dX11_isRest_21 rfl ?_
    obtain ⟨v4, ev4, hF⟩ := zlet_e hF
    refine z_istoreE_n (q := 23) C ev4 dX11_isRest_22 (by decide) rfl rfl rfl ?_
    refine z_iconst (q := 24) C dX11_isRest_23 rfl ?_
    refine z_istore (q := 26) C dX11_isRest_24 (by decide) rfl rfl ?_
    refine z_iconst (q := 27) C dX11_isRest_26 rfl ?_
    refine z_istore (q := 29) C dX11_isRest_27 (by decide) rfl rfl ?_
    exact z_sub (J_fX11_isRest_c29 C hR hd e1 e2 hK2 N _ _ _ _ _ _ hF) [4, 5, 3, 2, 1, 0] rfl
set_option maxRecDepth 20000 in
set_option maxHeartbeats 4000000 in
theorem J_fX11_isRest_c2 {κ : zT} (C : zC κ RX11 cX11_isRest 6 (some .boolean)) {d : Nat} (hR : zR κ = zrm (d + 1)) (hd : 4 ≤ d + 1) {N : Nat} {r : Int × zH} (e1 : zrv κ = some (.int (zi r.1))) (e2 : zhf κ = r.2) : ∀ (k : Nat) (l1 : Int) (h : zH), fX11_isRest_c2 N k l1 h = some r → Z κ h 2 [(0, .ref (zα κ 14)), (1, .int (zi l1))] [] := by
  intro k
  induction k with
  | zero => intro l1 h hF; cases hF
  | succ k ih => intro l1 h hF; exact J_fX11_isRest_c2b C hR hd e1 e2 ih l1 h hF
set_option maxRecDepth 20000 in
set_option maxHeartbeats 4000000 in
theorem J_fX11_isRest {κ : zT} (C : zC κ RX11 cX11_isRest 6 (some .boolean)) {d : Nat} (hR : zR κ = zrm (d + 1)) (hd : 4 ≤ d + 1) {N : Nat} {r : Int × zH} (e1 : zrv κ = some (.int (zi r.1))) (e2 : zhf κ = r.2) {h : zH} (hF : fX11_isRest N h = some r) : Z κ h 0 [(0, .ref (zα κ 14))] [] := by
  unfold fX11_isRest at hF
  refine z_iconst (q := 1) C dX11_isRest_0 rfl ?_
  refine z_istore_n (q := 2) C dX11_isRest_1 (by decide) rfl rfl rfl ?_
  exact z_sub (J_fX11_isRest_c2 C hR hd e1 e2 N _ _ hF) [1, 0] rfl
set_option maxRecDepth 20000 in
set_option maxHeartbeats 4000000 in
theorem M_fX11_isRest {l : Launch} {D : va_G} {cy : ClassId} {α : Nat → Nat} {n : Nat} {σ : zSg} {d : Nat} (hd : 4 ≤ d) {N : Nat} {h : zH} {r : Int} {g : zH} (hF : fX11_isRest N h = some (r, g)) : zMet l yX11_isRest cX11_isRest 6 (some .boolean) (zrm d) D cy α n σ [.ref (α 14)] h (some (.int (zi r))) g := by
  obtain ⟨d, rfl⟩ : ∃ e, d = e + 1 := ⟨d - 1, by omega⟩
  refine z_met (by decide +kernel) (Nat.le_of_ble_eq_true rfl) (fun κ k1 k2 k3 k4 k5 k6 k7 k8 k9 C => ?_)
  subst k1 k3 k4 k5 k6 k7
  exact J_fX11_isRest C k2 hd k8 k9 hF
