set_option maxRecDepth 20000 in
set_option maxHeartbeats 4000000 in
theorem J_fX1_lacks_c31b {κ : zT} (C : zC κ RX1 cX1_lacks 7 (some .int)) {d : Nat} (hR : zR κ = zrm (d + 1)) (hd : 3 ≤ d + 1) {N : Nat} {o0 : Nat} (ho0 : o0 < zN) (hd0 : zkd o0 = 1) {h : zH} {r : Int} (e1 : zrv κ = some (.int (zi r))) (e2 : zhf κ = h) {K12 : Int → Int → Int → Int → Option Int} (hK12 : ∀ (l2 : Int) (l3 : Int) (l4 : Int) (l5 : Int), K12 l2 l3 l4 l5 = some r → Z κ h 12 [(0, .ref (zα κ o0)), (2, .int (zi l2)), (3, .int (zi l3)), (4, .int (zi l4)), (5, .int (zi l5))] []) {K31 : Int → Int → Int → Int → Int → Option Int} (hK31 : ∀ (l2 : Int) (l3 : Int) (l4 : Int) (l5 : Int) (l6 : Int), K31 l2 l3 l4 l5 l6 = some r → Z κ h 31 [(0, .ref (zα κ o0)), (2, .int (zi l2)), (3, .int (zi l3)), (4, .int (zi l4)), (5, .int (zi l5)), (6, .int (zi l6))] []) (l2 : Int) (l3 : Int) (l4 : Int) (l5 : Int) (l6 : Int) (hF : fX1_lacks_c31b N o0 h K12 K31 l2 l3 l4 l5 l6 = some r) : Z κ h 31 [(0, .ref (zα κ o0)), (2, .int (zi l2)), (3, .int (zi l3)), (4, .int (zi l4)), (5, .int (zi l5)), (6, .int (zi l6))] [] := by
  unfold fX1_lacks_c31b at hF
  refine z_iload (q := 33) C dX1_lacks_31 5 rfl rfl ?_
  refine z_aload_n (q := 34) C dX1_lacks_33 0 rfl rfl rfl ?_
  refine z_iconst (q := 35) C dX1_lacks_34 rfl ?_
  refine z_callV (q := 38) (o := o0) (av := [.int (zi 3)]) (rest := [.int (zi l6)]) (stk2 := [.int (zi (fX1_many o0 3 h)), .int (zi l6)]) C hR clX1 (zon C ho0) hd0 (M_fX1_many (zlv hd rfl) ho0 hd0 rfl) mY_X1_many q_427 (Nat.le_of_ble_eq_true rfl) dX1_lacks_35 rfl rfl rfl ?_
  refine z_icmp_ge (tgt := 69) (q := 41) C dX1_lacks_38 (by decide) rfl (fun c1 => ?_) (fun c1 => ?_)
  · have hF := (if_pos c1).symm.trans hF
    refine z_iinc (q := 72) (x := l5) C dX1_lacks_69 (j := 4) rfl (by decide) rfl rfl ?_
    refine z_goto (q := 12) C dX1_lacks_72 (by decide) ?_
    exact z_sub (hK12 _ _ _ _ hF) [1, 2, 3, 4, 0] rfl
  · have hF := (if_neg c1).symm.trans hF
    refine z_iload_n (q := 42) C dX1_lacks_41 2 rfl rfl rfl ?_
    refine z_iload (q := 44) C dX1_lacks_42 5 rfl rfl ?_
    refine z_callSN (q := 47) (av := [.int (zi l3), .int (zi l6)]) (rest := []) (stk2 := [.int (zi (fX10_isIn l3 l6))]) C hR (M_fX10_isIn (zlv hd rfl) rfl) mY_X10_isIn q_447 (Nat.le_of_ble_eq_true rfl) dX1_lacks_44 rfl rfl rfl ?_
    refine z_if_eq (tgt := 63) (q := 50) C dX1_lacks_47 (by decide) rfl (fun c2 => ?_) (fun c2 => ?_)
    · have hF := (if_pos c2).symm.trans hF
      refine z_iinc (q := 66) (x := l6) C dX1_lacks_63 (j := 5) rfl (by decide) rfl rfl ?_
      refine z_goto (q := 31) C dX1_lacks_66 (by decide) ?_
      exact z_sub (hK31 _ _ _ _ _ hF) [1, 2, 3, 4, 5, 0] rfl
    · have hF := (if_neg c2).symm.trans hF
      refine z_iload_n (q := 51) C dX1_lacks_50 2 rfl rfl rfl ?_
      refine z_aload_n (q := 52) C dX1_lacks_51 0 rfl rfl rfl ?_
      refine z_iload (q := 54) C dX1_lacks_52 5 rfl rfl ?_
      refine z_callV (q := 57) (o := o0) (av := [.int (zi l6)]) (rest := [.int (zi l3)]) (stk2 := [.int (zi (fX1_wants o0 l6 h)), .int (zi l3)]) C hR clX1 (zon C ho0) hd0 (M_fX1_wants (zlv hd rfl) ho0 hd0 rfl) mY_X1_wants q_791 (Nat.le_of_ble_eq_true rfl) dX1_lacks_54 rfl rfl rfl ?_
      refine z_iload_n (q := 58) C dX1_lacks_57 1 rfl rfl rfl ?_
      refine z_iconst (q := 59) C dX1_lacks_58 rfl ?_
      refine z_ixor (q := 60) C dX1_lacks_59 rfl ?_
      refine z_iand (q := 61) C dX1_lacks_60 rfl ?_
      refine z_ior (q := 62) C dX1_lacks_61 rfl ?_
      obtain ⟨v3, ev3, hF⟩ := zlet_e hF
      refine z_istoreE_n (q := 63) C ev3 dX1_lacks_62 (by decide) rfl rfl rfl ?_
      refine z_iinc (q := 66) (x := l6) C dX1_lacks_63 (j := 5) rfl (by decide) rfl rfl ?_
      refine z_goto (q := 31) C dX1_lacks_66 (by decide) ?_
      exact z_sub (hK31 _ _ _ _ _ hF) [2, 3, 1, 4, 5, 0] rfl
set_option maxRecDepth 20000 in
set_option maxHeartbeats 4000000 in
theorem J_fX1_lacks_c31 {κ : zT} (C : zC κ RX1 cX1_lacks 7 (some .int)) {d : Nat} (hR : zR κ = zrm (d + 1)) (hd : 3 ≤ d + 1) {N : Nat} {o0 : Nat} (ho0 : o0 < zN) (hd0 : zkd o0 = 1) {h : zH} {r : Int} (e1 : zrv κ = some (.int (zi r))) (e2 : zhf κ = h) {K12 : Int → Int → Int → Int → Option Int} (hK12 : ∀ (l2 : Int) (l3 : Int) (l4 : Int) (l5 : Int), K12 l2 l3 l4 l5 = some r → Z κ h 12 [(0, .ref (zα κ o0)), (2, .int (zi l2)), (3, .int (zi l3)), (4, .int (zi l4)), (5, .int (zi l5))] []) : ∀ (k : Nat) (l2 : Int) (l3 : Int) (l4 : Int) (l5 : Int) (l6 : Int), fX1_lacks_c31 N o0 h K12 k l2 l3 l4 l5 l6 = some r → Z κ h 31 [(0, .ref (zα κ o0)), (2, .int (zi l2)), (3, .int (zi l3)), (4, .int (zi l4)), (5, .int (zi l5)), (6, .int (zi l6))] [] := by
  intro k
  induction k with
  | zero => intro l2 l3 l4 l5 l6 hF; cases hF
  | succ k ih => intro l2 l3 l4 l5 l6 hF; exact J_fX1_lacks_c31b C hR hd ho0 hd0 e1 e2 hK12 ih l2 l3 l4 l5 l6 hF
set_option maxRecDepth 20000 in
set_option maxHeartbeats 4000000 in
theorem J_fX1_lacks_c12b {κ : zT} (C : zC κ RX1 cX1_lacks 7 (some .int)) {d : Nat} (hR : zR κ = zrm (d + 1)) (hd : 3 ≤ d + 1) {N : Nat} {o0 : Nat} (ho0 : o0 < zN) (hd0 : zkd o0 = 1) {h : zH} {r : Int} (e1 : zrv κ = some (.int (zi r))) (e2 : zhf κ = h) {K12 : Int → Int → Int → Int → Option Int} (hK12 : ∀ (l2 : Int) (l3 : Int) (l4 : Int) (l5 : Int), K12 l2 l3 l4 l5 = some r → Z κ h 12 [(0, .ref (zα κ o0)), (2, .int (zi l2)), (3, .int (zi l3)), (4, .int (zi l4)), (5, .int (zi l5))] []) (l2 : Int) (l3 : Int) (l4 : Int) (l5 : Int) (hF : fX1_lacks_c12b N o0 h K12 l2 l3 l4 l5 = some r) : Z κ h 12 [(0, .ref (zα κ o0)), (2, .int (zi l2)), (3, .int (zi l3)), (4, .int (zi l4)), (5, .int (zi l5))] [] := by
  unfold fX1_lacks_c12b at hF
  refine z_iload (q := 14) C dX1_lacks_12 4 rfl rfl ?_
  refine z_bipush (q := 16) C dX1_lacks_14 bp_8 rfl ?_
  refine z_icmp_ge (tgt := 75) (q := 19) C dX1_lacks_16 (by decide) rfl (fun c1 => ?_) (fun c1 => ?_)
  · have hF := (if_pos c1).symm.trans hF
    refine z_iload_n (q := 76) C dX1_lacks_75 2 rfl rfl rfl ?_
    have hF := Option.some.inj hF
    subst hF
    exact z_iret C e1 e2 dX1_lacks_76
  · have hF := (if_neg c1).symm.trans hF
    refine z_iload_n (q := 20) C dX1_lacks_19 2 rfl rfl rfl ?_
    refine z_iload (q := 22) C dX1_lacks_20 3 rfl rfl ?_
    refine z_icmp_eq (tgt := 75) (q := 25) C dX1_lacks_22 (by decide) rfl (fun c2 => ?_) (fun c2 => ?_)
    · have hF := (if_pos c2).symm.trans hF
      refine z_iload_n (q := 76) C dX1_lacks_75 2 rfl rfl rfl ?_
      have hF := Option.some.inj hF
      subst hF
      exact z_iret C e1 e2 dX1_lacks_76
    · have hF := (if_neg c2).symm.trans hF
      refine z_iload_n (q := 26) C dX1_lacks_25 2 rfl rfl rfl ?_
      refine z_istore (q := 28) C dX1_lacks_26 (by decide) rfl rfl ?_
      refine z_iconst (q := 29) C dX1_lacks_28 rfl ?_
      refine z_istore (q := 31) C dX1_lacks_29 (by decide) rfl rfl ?_
      exact z_sub (J_fX1_lacks_c31 C hR hd ho0 hd0 e1 e2 hK12 N _ _ _ _ _ hF) [2, 3, 4, 1, 5, 0] rfl
set_option maxRecDepth 20000 in
set_option maxHeartbeats 4000000 in
theorem J_fX1_lacks_c12 {κ : zT} (C : zC κ RX1 cX1_lacks 7 (some .int)) {d : Nat} (hR : zR κ = zrm (d + 1)) (hd : 3 ≤ d + 1) {N : Nat} {o0 : Nat} (ho0 : o0 < zN) (hd0 : zkd o0 = 1) {h : zH} {r : Int} (e1 : zrv κ = some (.int (zi r))) (e2 : zhf κ = h) : ∀ (k : Nat) (l2 : Int) (l3 : Int) (l4 : Int) (l5 : Int), fX1_lacks_c12 N o0 h k l2 l3 l4 l5 = some r → Z κ h 12 [(0, .ref (zα κ o0)), (2, .int (zi l2)), (3, .int (zi l3)), (4, .int (zi l4)), (5, .int (zi l5))] [] := by
  intro k
  induction k with
  | zero => intro l2 l3 l4 l5 hF; cases hF
  | succ k ih => intro l2 l3 l4 l5 hF; exact J_fX1_lacks_c12b C hR hd ho0 hd0 e1 e2 ih l2 l3 l4 l5 hF
set_option maxRecDepth 20000 in
set_option maxHeartbeats 4000000 in
theorem J_fX1_lacks {κ : zT} (C : zC κ RX1 cX1_lacks 7 (some .int)) {d : Nat} (hR : zR κ = zrm (d + 1)) (hd : 3 ≤ d + 1) {N : Nat} {o0 : Nat} (ho0 : o0 < zN) (hd0 : zkd o0 = 1) {h : zH} {r : Int} (e1 : zrv κ = some (.int (zi r))) (e2 : zhf κ = h) {a1 : Int} {a2 : Int} (hF : fX1_lacks N o0 a1 a2 h = some r) : Z κ h 0 [(0, .ref (zα κ o0)), (1, .int (zi a1)), (2, .int (zi a2))] [] := by
  unfold fX1_lacks at hF
  refine z_iload_n (q := 1) C dX1_lacks_0 1 rfl rfl rfl ?_
  refine z_iload_n (q := 2) C dX1_lacks_1 2 rfl rfl rfl ?_
  refine z_iconst (q := 3) C dX1_lacks_2 rfl ?_
  refine z_ixor (q := 4) C dX1_lacks_3 rfl ?_
  refine z_iand (q := 5) C dX1_lacks_4 rfl ?_
  obtain ⟨v1, ev1, hF⟩ := zlet_e hF
  refine z_istoreE_n (q := 6) C ev1 dX1_lacks_5 (by decide) rfl rfl rfl ?_
  refine z_iconst (q := 7) C dX1_lacks_6 rfl ?_
  refine z_istore (q := 9) C dX1_lacks_7 (by decide) rfl rfl ?_
  refine z_iconst (q := 10) C dX1_lacks_9 rfl ?_
  refine z_istore (q := 12) C dX1_lacks_10 (by decide) rfl rfl ?_
  exact z_sub (J_fX1_lacks_c12 C hR hd ho0 hd0 e1 e2 N _ _ _ _ hF) [3, 5, 2, 1, 0] rfl
set_option maxRecDepth 20000 in
set_option maxHeartbeats 4000000 in
theorem M_fX1_lacks {l : Launch} {D : va_G} {cy : ClassId} {α : Nat → Nat} {n : Nat} {σ : zSg} {d : Nat} (hd : 3 ≤ d) {N : Nat} {o0 : Nat} (ho0 : o0 < zN) (hd0 : zkd o0 = 1) {a1 : Int} {a2 : Int} {h : zH} {r : Int} (hF : fX1_lacks N o0 a1 a2 h = some r) : zMet l yX1_lacks cX1_lacks 7 (some .int) (zrm d) D cy α n σ [.ref (α o0), .int (zi a1), .int (zi a2)] h (some (.int (zi r))) h := by
  obtain ⟨d, rfl⟩ : ∃ e, d = e + 1 := ⟨d - 1, by omega⟩
  refine z_met (by decide +kernel) (Nat.le_of_ble_eq_true rfl) (fun κ k1 k2 k3 k4 k5 k6 k7 k8 k9 C => ?_)
  subst k1 k3 k4 k5 k6 k7
  exact J_fX1_lacks C k2 hd ho0 hd0 k8 k9 hF
set_option maxRecDepth 20000 in
set_option maxHeartbeats 4000000 in
theorem J_fX10_lacksOf {κ : zT} (C : zC κ RX10 cX10_lacksOf 3 (some .int)) {d : Nat} (hR : zR κ = zrm (d + 1)) (hd : 4 ≤ d + 1) {N : Nat} {h : zH} {r : Int} (e1 : zrv κ = some (.int (zi r))) (e2 : zhf κ = h) {a1 : Int} {a2 : Int} (hF : fX10_lacksOf N a1 a2 h = some r) : Z κ h 0 [(0, .ref (zα κ 0)), (1, .int (zi a1)), (2, .int (zi a2))] [] := by
  unfold fX10_lacksOf at hF
  refine z_aload_n (q := 1) C dX10_lacksOf_0 0 rfl rfl rfl ?_
  refine z_getf (q := 4) C clX10 (zon C zo_0) kd_0 (k := 1) (by decide) q_272 rfl (zfv_r kd_0 rfl fr_0_1) dX10_lacksOf_1 rfl ?_
  refine z_iconst (q := 5) C dX10_lacksOf_4 rfl ?_
  refine z_aload_n (q := 6) C dX10_lacksOf_5 0 rfl rfl rfl ?_
  refine z_getf (q := 9) C clX10 (zon C zo_0) kd_0 (k := 1) (by decide) q_272 rfl (zfv_r kd_0 rfl fr_0_1) dX10_lacksOf_6 rfl ?_
  refine z_iconst (q := 10) C dX10_lacksOf_9 rfl ?_
  refine z_iload_n (q := 11) C dX10_lacksOf_10 1 rfl rfl rfl ?_
  refine z_iconst (q := 12) C dX10_lacksOf_11 rfl ?_
  refine z_callV (q := 15) (o := 2) (av := [.int (zi 1), .int (zi a1), .int (zi 0)]) (rest := [.int (zi 1), .ref (zα κ 2)]) (stk2 := [.int (zi (fX1_item 2 1 a1 0 h)), .int (zi 1), .ref (zα κ 2)]) C hR clX1 (zon C zo_2) kd_2 (M_fX1_item (zlv hd rfl) zo_2 kd_2 rfl) mY_X1_item q_629 (Nat.le_of_ble_eq_true rfl) dX10_lacksOf_12 rfl rfl rfl ?_
  refine z_ishl (q := 16) C dX10_lacksOf_15 rfl ?_
  refine z_aload_n (q := 17) C dX10_lacksOf_16 0 rfl rfl rfl ?_
  refine z_getf (q := 20) C clX10 (zon C zo_0) kd_0 (k := 6) (by decide) q_277 rfl (zfv_r kd_0 rfl fr_0_6) dX10_lacksOf_17 rfl ?_
  refine z_iconst (q := 21) C dX10_lacksOf_20 rfl ?_
  refine z_iload_n (q := 22) C dX10_lacksOf_21 1 rfl rfl rfl ?_
  refine z_callV (q := 25) (o := 7) (av := [.int (zi 0), .int (zi a1)]) (rest := [.int (zi (zshl 1 (fX1_item 2 1 a1 0 h))), .ref (zα κ 2)]) (stk2 := [.int (zi (fX8_of 7 0 a1 h)), .int (zi (zshl 1 (fX1_item 2 1 a1 0 h))), .ref (zα κ 2)]) C hR clX8 (zon C zo_7) kd_7 (M_fX8_of (zlv hd rfl) zo_7 kd_7 rfl) mY_X8_of q_786 (Nat.le_of_ble_eq_true rfl) dX10_lacksOf_22 rfl rfl rfl ?_
  refine z_iload_n (q := 26) C dX10_lacksOf_25 2 rfl rfl rfl ?_
  refine z_ior (q := 27) C dX10_lacksOf_26 rfl ?_
  obtain ⟨v1, ev1, hF⟩ := zb_e hF
  refine z_callV (q := 30) (o := 2) (av := [.int (zi (zshl 1 (fX1_item 2 1 a1 0 h))), .int (zi (zor (fX8_of 7 0 a1 h) a2))]) (rest := []) (stk2 := [.int (zi v1)]) C hR clX1 (zon C zo_2) kd_2 (M_fX1_lacks (zlv hd rfl) zo_2 kd_2 ev1) mY_X1_lacks q_787 (Nat.le_of_ble_eq_true rfl) dX10_lacksOf_27 rfl rfl rfl ?_
  have hF := Option.some.inj hF
  subst hF
  exact z_iret C e1 e2 dX10_lacksOf_30
set_option maxRecDepth 20000 in
set_option maxHeartbeats 4000000 in
theorem M_fX10_lacksOf {l : Launch} {D : va_G} {cy : ClassId} {α : Nat → Nat} {n : Nat} {σ : zSg} {d : Nat} (hd : 4 ≤ d) {N : Nat} {a1 : Int} {a2 : Int} {h : zH} {r : Int} (hF : fX10_lacksOf N a1 a2 h = some r) : zMet l yX10_lacksOf cX10_lacksOf 3 (some .int) (zrm d) D cy α n σ [.ref (α 0), .int (zi a1), .int (zi a2)] h (some (.int (zi r))) h := by
  obtain ⟨d, rfl⟩ : ∃ e, d = e + 1 := ⟨d - 1, by omega⟩
  refine z_met (by decide +kernel) (Nat.le_of_ble_eq_true rfl) (fun κ k1 k2 k3 k4 k5 k6 k7 k8 k9 C => ?_)
  subst k1 k3 k4 k5 k6 k7
  exact J_fX10_lacksOf C k2 hd k8 k9 hF
set_option maxRecDepth 20000 in
set_option maxHeartbeats 4000000 in
theorem J_fX3_isNext {κ : zT} (C : zC κ RX3 cX3_isNext 3 (some .boolean)) {d : Nat} (hR : zR κ = zrm (d + 1)) (hd : 3 ≤ d + 1) {o0 : Nat} (ho0 : o0 < zN) (hd0 : zkd o0 = 1) {h : zH} {r : Int} (e1 : zrv κ = some (.int (zi r))) (e2 : zhf κ = h) {a1 : Int} {a2 : Int} (hF : fX3_isNext o0 a1 a2 h = r) : Z κ h 0 [(0, .ref (zα κ o0)), (1, .int (zi a1)), (2, .int (zi a2))] [] := by
  unfold fX3_isNext at hF
  refine z_iload_n (q := 1) C dX3_isNext_0 1 rfl rfl rfl ?_
  refine z_iload_n (q := 2) C dX3_isNext_1 2 rfl rfl rfl ?_
  refine z_callSN (q := 5) (av := [.int (zi a1), .int (zi a2)]) (rest := []) (stk2 := [.int (zi (fX10_isIn a1 a2))]) C hR (M_fX10_isIn (zlv hd rfl) rfl) mY_X10_isIn q_804 (Nat.le_of_ble_eq_true rfl) dX3_isNext_2 rfl rfl rfl ?_
  refine z_if_eq (tgt := 22) (q := 8) C dX3_isNext_5 (by decide) rfl (fun c1 => ?_) (fun c1 => ?_)
  · have hF := (if_pos c1).symm.trans hF
    refine z_iconst (q := 23) C dX3_isNext_22 rfl ?_
    subst hF
    exact z_zret C (zb01 (Or.inl rfl)) e1 e2 dX3_isNext_23
  · have hF := (if_neg c1).symm.trans hF
    refine z_aload_n (q := 9) C dX3_isNext_8 0 rfl rfl rfl ?_
    refine z_iload_n (q := 10) C dX3_isNext_9 2 rfl rfl rfl ?_
    refine z_callV (q := 13) (o := o0) (av := [.int (zi a2)]) (rest := []) (stk2 := [.int (zi (fX1_wants o0 a2 h))]) C hR clX1 (zon C ho0) hd0 (M_fX1_wants (zlv hd rfl) ho0 hd0 rfl) mY_X1_wants q_805 (Nat.le_of_ble_eq_true rfl) dX3_isNext_10 rfl rfl rfl ?_
    refine z_iload_n (q := 14) C dX3_isNext_13 1 rfl rfl rfl ?_
    refine z_iand (q := 15) C dX3_isNext_14 rfl ?_
    refine z_if_ne (tgt := 22) (q := 18) C dX3_isNext_15 (by decide) rfl (fun c2 => ?_) (fun c2 => ?_)
    · have hF := (if_neg c2).symm.trans hF
      refine z_iconst (q := 23) C dX3_isNext_22 rfl ?_
      subst hF
      exact z_zret C (zb01 (Or.inl rfl)) e1 e2 dX3_isNext_23
    · have hF := (if_pos c2).symm.trans hF
      refine z_iconst (q := 19) C dX3_isNext_18 rfl ?_
      refine z_goto (q := 23) C dX3_isNext_19 (by decide) ?_
      subst hF
      exact z_zret C (zb01 (Or.inr rfl)) e1 e2 dX3_isNext_23
set_option maxRecDepth 20000 in
set_option maxHeartbeats 4000000 in
theorem M_fX3_isNext {l : Launch} {D : va_G} {cy : ClassId} {α : Nat → Nat} {n : Nat} {σ : zSg} {d : Nat} (hd : 3 ≤ d) {o0 : Nat} (ho0 : o0 < zN) (hd0 : zkd o0 = 1) {a1 : Int} {a2 : Int} {h : zH} {r : Int} (hF : fX3_isNext o0 a1 a2 h = r) : zMet l yX3_isNext cX3_isNext 3 (some .boolean) (zrm d) D cy α n σ [.ref (α o0), .int (zi a1), .int (zi a2)] h (some (.int (zi r))) h := by
  obtain ⟨d, rfl⟩ : ∃ e, d = e + 1 := ⟨d - 1, by omega⟩
  refine z_met (by decide +kernel) (Nat.le_of_ble_eq_true rfl) (fun κ k1 k2 k3 k4 k5 k6 k7 k8 k9 C => ?_)
  subst k1 k3 k4 k5 k6 k7
  exact J_fX3_isNext C k2 hd ho0 hd0 k8 k9 hF
theorem B_fX3_isNext {o0 : Nat} {a1 : Int} {a2 : Int} {h : zH} : fX3_isNext o0 a1 a2 h = 0 ∨ fX3_isNext o0 a1 a2 h = 1 := by
  unfold fX3_isNext
  try simp only [zlet, zlet2]
  repeat' (first | exact Or.inl rfl | exact Or.inr rfl | exact B_fX10_isIn | apply zite01)
set_option maxRecDepth 20000 in
set_option maxHeartbeats 4000000 in
theorem J_fX1_span_c61 {κ : zT} (C : zC κ RX1 cX1_span 10 (some .int)) {d : Nat} (hR : zR κ = zrm (d + 1)) (hd : 3 ≤ d + 1) {o0 : Nat} (ho0 : o0 < zN) (hd0 : zkd o0 = 1) {h : zH} {r : Int} (e1 : zrv κ = some (.int (zi r))) (e2 : zhf κ = h) (l2 : Int) (l3 : Int) (l4 : Int) (l5 : Int) (l6 : Int) (s0 : Int) (hF : fX1_span_c61 o0 h l2 l3 l4 l5 l6 s0 = some r) : Z κ h 61 [(0, .ref (zα κ o0)), (2, .int (zi l2)), (3, .int (zi l3)), (4, .int (zi l4)), (5, .int (zi l5)), (6, .int (zi l6))] [.int (zi s0)] := by
  unfold fX1_span_c61 at hF
  refine z_istore (q := 63) C dX1_span_61 (by decide) rfl rfl ?_
  refine z_iload (q := 65) C dX1_span_63 0 rfl rfl ?_
  refine z_aload_n (q := 66) C dX1_span_65 1 rfl rfl rfl ?_
  refine z_iconst (q := 67) C dX1_span_66 rfl ?_
  refine z_iload_n (q := 68) C dX1_span_67 3 rfl rfl rfl ?_
  refine z_iconst (q := 69) C dX1_span_68 rfl ?_
  refine z_callV (q := 72) (o := o0) (av := [.int (zi 2), .int (zi l3), .int (zi 2)]) (rest := [.int (zi s0)]) (stk2 := [.int (zi (fX1_item o0 2 l3 2 h)), .int (zi s0)]) C hR clX1 (zon C ho0) hd0 (M_fX1_item (zlv hd rfl) ho0 hd0 rfl) mY_X1_item q_475 (Nat.le_of_ble_eq_true rfl) dX1_span_69 rfl rfl rfl ?_
  refine z_iadd (q := 73) C dX1_span_72 rfl ?_
  refine z_iconst (q := 74) C dX1_span_73 rfl ?_
  refine z_isub (q := 75) C dX1_span_74 rfl ?_
  obtain ⟨v1, ev1, hF⟩ := zlet_e hF
  refine z_istoreE (q := 77) C ev1 dX1_span_75 (by decide) rfl rfl ?_
  refine z_iload_n (q := 78) C dX1_span_77 3 rfl rfl rfl ?_
  refine z_iload (q := 80) C dX1_span_78 6 rfl rfl ?_
  refine z_icmp_lt (tgt := 88) (q := 83) C dX1_span_80 (by decide) rfl (fun c2 => ?_) (fun c2 => ?_)
  · have hF := (if_pos c2).symm.trans hF
    refine z_iconst (q := 89) C dX1_span_88 rfl ?_
    refine z_iload (q := 91) C dX1_span_89 0 rfl rfl ?_
    refine z_iload (q := 93) C dX1_span_91 7 rfl rfl ?_
    obtain ⟨g3, hF⟩ := zif_none hF
    refine z_idiv (q := 94) C g3 dX1_span_93 rfl ?_
    refine z_bipush (q := 96) C dX1_span_94 bp_24 rfl ?_
    refine z_imul (q := 97) C dX1_span_96 rfl ?_
    refine z_iadd (q := 98) C dX1_span_97 rfl ?_
    refine z_iload (q := 100) C dX1_span_98 5 rfl rfl ?_
    refine z_iadd (q := 101) C dX1_span_100 rfl ?_
    refine z_iload (q := 103) C dX1_span_101 0 rfl rfl ?_
    refine z_iload (q := 105) C dX1_span_103 7 rfl rfl ?_
    obtain ⟨g4, hF⟩ := zif_none hF
    refine z_irem (q := 106) C g4 dX1_span_105 rfl ?_
    refine z_iadd (q := 107) C dX1_span_106 rfl ?_
    refine z_iconst (q := 108) C dX1_span_107 rfl ?_
    refine z_iadd (q := 109) C dX1_span_108 rfl ?_
    obtain ⟨v5, ev5, hF⟩ := zlet_e hF
    refine z_istoreE (q := 111) C ev5 dX1_span_109 (by decide) rfl rfl ?_
    refine z_iload (q := 113) C dX1_span_111 0 rfl rfl ?_
    refine z_iload_n (q := 114) C dX1_span_113 4 rfl rfl rfl ?_
    refine z_isub (q := 115) C dX1_span_114 rfl ?_
    have hF := Option.some.inj hF
    subst hF
    exact z_iret C e1 e2 dX1_span_115
  · have hF := (if_neg c2).symm.trans hF
    refine z_bipush (q := 85) C dX1_span_83 bp_24 rfl ?_
    refine z_goto (q := 89) C dX1_span_85 (by decide) ?_
    refine z_iload (q := 91) C dX1_span_89 0 rfl rfl ?_
    refine z_iload (q := 93) C dX1_span_91 7 rfl rfl ?_
    obtain ⟨g6, hF⟩ := zif_none hF
    refine z_idiv (q := 94) C g6 dX1_span_93 rfl ?_
    refine z_bipush (q := 96) C dX1_span_94 bp_24 rfl ?_
    refine z_imul (q := 97) C dX1_span_96 rfl ?_
    refine z_iadd (q := 98) C dX1_span_97 rfl ?_
    refine z_iload (q := 100) C dX1_span_98 5 rfl rfl ?_
    refine z_iadd (q := 101) C dX1_span_100 rfl ?_
    refine z_iload (q := 103) C dX1_span_101 0 rfl rfl ?_
    refine z_iload (q := 105) C dX1_span_103 7 rfl rfl ?_
    obtain ⟨g7, hF⟩ := zif_none hF
    refine z_irem (q := 106) C g7 dX1_span_105 rfl ?_
    refine z_iadd (q := 107) C dX1_span_106 rfl ?_
    refine z_iconst (q := 108) C dX1_span_107 rfl ?_
    refine z_iadd (q := 109) C dX1_span_108 rfl ?_
    obtain ⟨v8, ev8, hF⟩ := zlet_e hF
    refine z_istoreE (q := 111) C ev8 dX1_span_109 (by decide) rfl rfl ?_
    refine z_iload (q := 113) C dX1_span_111 0 rfl rfl ?_
    refine z_iload_n (q := 114) C dX1_span_113 4 rfl rfl rfl ?_
    refine z_isub (q := 115) C dX1_span_114 rfl ?_
    have hF := Option.some.inj hF
    subst hF
    exact z_iret C e1 e2 dX1_span_115
set_option maxRecDepth 20000 in
set_option maxHeartbeats 4000000 in
theorem J_fX1_span {κ : zT} (C : zC κ RX1 cX1_span 10 (some .int)) {d : Nat} (hR : zR κ = zrm (d + 1)) (hd : 3 ≤ d + 1) {o0 : Nat} (ho0 : o0 < zN) (hd0 : zkd o0 = 1) {h : zH} {r : Int} (e1 : zrv κ = some (.int (zi r))) (e2 : zhf κ = h) {a1 : Int} {a2 : Int} (hF : fX1_span o0 a1 a2 h = some r) : Z κ h 0 [(0, .ref (zα κ o0)), (1, .int (zi a1)), (2, .int (zi a2))] [] := by
  unfold fX1_span at hF
  refine z_aload_n (q := 1) C dX1_span_0 0 rfl rfl rfl ?_
  refine z_iconst (q := 2) C dX1_span_1 rfl ?_
  refine z_iload_n (q := 3) C dX1_span_2 1 rfl rfl rfl ?_
  refine z_iconst (q := 4) C dX1_span_3 rfl ?_
  refine z_callV (q := 7) (o := o0) (av := [.int (zi 3), .int (zi a1), .int (zi 0)]) (rest := []) (stk2 := [.int (zi (fX1_item o0 3 a1 0 h))]) C hR clX1 (zon C ho0) hd0 (M_fX1_item (zlv hd rfl) ho0 hd0 rfl) mY_X1_item q_475 (Nat.le_of_ble_eq_true rfl) dX1_span_4 rfl rfl rfl ?_
  obtain ⟨v1, ev1, hF⟩ := zlet_e hF
  refine z_istoreE_n (q := 8) C ev1 dX1_span_7 (by decide) rfl rfl rfl ?_
  refine z_aload_n (q := 9) C dX1_span_8 1 rfl rfl rfl ?_
  refine z_iconst (q := 10) C dX1_span_9 rfl ?_
  refine z_iload_n (q := 11) C dX1_span_10 0 rfl rfl rfl ?_
  refine z_iconst (q := 12) C dX1_span_11 rfl ?_
  refine z_callV (q := 15) (o := o0) (av := [.int (zi 2), .int (zi v1), .int (zi 0)]) (rest := []) (stk2 := [.int (zi (fX1_item o0 2 v1 0 h))]) C hR clX1 (zon C ho0) hd0 (M_fX1_item (zlv hd rfl) ho0 hd0 rfl) mY_X1_item q_475 (Nat.le_of_ble_eq_true rfl) dX1_span_12 rfl rfl rfl ?_
  obtain ⟨v2, ev2, hF⟩ := zlet_e hF
  refine z_istoreE (q := 17) C ev2 dX1_span_15 (by decide) rfl rfl ?_
  refine z_aload_n (q := 18) C dX1_span_17 2 rfl rfl rfl ?_
  refine z_iconst (q := 19) C dX1_span_18 rfl ?_
  refine z_iload_n (q := 20) C dX1_span_19 1 rfl rfl rfl ?_
  refine z_iconst (q := 21) C dX1_span_20 rfl ?_
  refine z_callV (q := 24) (o := o0) (av := [.int (zi 2), .int (zi v1), .int (zi 1)]) (rest := []) (stk2 := [.int (zi (fX1_item o0 2 v1 1 h))]) C hR clX1 (zon C ho0) hd0 (M_fX1_item (zlv hd rfl) ho0 hd0 rfl) mY_X1_item q_475 (Nat.le_of_ble_eq_true rfl) dX1_span_21 rfl rfl rfl ?_
  obtain ⟨v3, ev3, hF⟩ := zlet_e hF
  refine z_istoreE (q := 26) C ev3 dX1_span_24 (by decide) rfl rfl ?_
  refine z_iload (q := 28) C dX1_span_26 0 rfl rfl ?_
  refine z_iload (q := 30) C dX1_span_28 1 rfl rfl ?_
  refine z_isub (q := 31) C dX1_span_30 rfl ?_
  refine z_istore (q := 33) C dX1_span_31 (by decide) rfl rfl ?_
  refine z_iload (q := 35) C dX1_span_33 0 rfl rfl ?_
  refine z_iconst (q := 36) C dX1_span_35 rfl ?_
  refine z_icmp_ge (tgt := 41) (q := 39) C dX1_span_36 (by decide) rfl (fun c4 => ?_) (fun c4 => ?_)
  · have hF := (if_pos c4).symm.trans hF
    refine z_iload_n (q := 42) C dX1_span_41 6 rfl rfl rfl ?_
    refine z_iload (q := 44) C dX1_span_42 2 rfl rfl ?_
    refine z_icmp_le (tgt := 60) (q := 47) C dX1_span_44 (by decide) rfl (fun c5 => ?_) (fun c5 => ?_)
    · have hF := (if_pos c5).symm.trans hF
      refine z_iconst (q := 61) C dX1_span_60 rfl ?_
      exact z_sub (J_fX1_span_c61 C hR hd ho0 hd0 e1 e2 _ _ _ _ _ _ hF) [4, 6, 3, 2, 1, 0] rfl
    · have hF := (if_neg c5).symm.trans hF
      refine z_iload_n (q := 48) C dX1_span_47 6 rfl rfl rfl ?_
      refine z_iload (q := 50) C dX1_span_48 1 rfl rfl ?_
      refine z_icmp_ge (tgt := 60) (q := 53) C dX1_span_50 (by decide) rfl (fun c6 => ?_) (fun c6 => ?_)
      · have hF := (if_pos c6).symm.trans hF
        refine z_iconst (q := 61) C dX1_span_60 rfl ?_
        exact z_sub (J_fX1_span_c61 C hR hd ho0 hd0 e1 e2 _ _ _ _ _ _ hF) [4, 6, 3, 2, 1, 0] rfl
      · have hF := (if_neg c6).symm.trans hF
        refine z_iload_n (q := 54) C dX1_span_53 6 rfl rfl rfl ?_
        refine z_iload (q := 56) C dX1_span_54 2 rfl rfl ?_
        refine z_isub (q := 57) C dX1_span_56 rfl ?_
        refine z_goto (q := 61) C dX1_span_57 (by decide) ?_
        exact z_sub (J_fX1_span_c61 C hR hd ho0 hd0 e1 e2 _ _ _ _ _ _ hF) [4, 6, 3, 2, 1, 0] rfl
  · have hF := (if_neg c4).symm.trans hF
    refine z_iconst (q := 40) C dX1_span_39 rfl ?_
    have hF := Option.some.inj hF
    subst hF
    exact z_iret C e1 e2 dX1_span_40
set_option maxRecDepth 20000 in
set_option maxHeartbeats 4000000 in
theorem M_fX1_span {l : Launch} {D : va_G} {cy : ClassId} {α : Nat → Nat} {n : Nat} {σ : zSg} {d : Nat} (hd : 3 ≤ d) {o0 : Nat} (ho0 : o0 < zN) (hd0 : zkd o0 = 1) {a1 : Int} {a2 : Int} {h : zH} {r : Int} (hF : fX1_span o0 a1 a2 h = some r) : zMet l yX1_span cX1_span 10 (some .int) (zrm d) D cy α n σ [.ref (α o0), .int (zi a1), .int (zi a2)] h (some (.int (zi r))) h := by
  obtain ⟨d, rfl⟩ : ∃ e, d = e + 1 := ⟨d - 1, by omega⟩
  refine z_met (by decide +kernel) (Nat.le_of_ble_eq_true rfl) (fun κ k1 k2 k3 k4 k5 k6 k7 k8 k9 C => ?_)
  subst k1 k3 k4 k5 k6 k7
  exact J_fX1_span C k2 hd ho0 hd0 k8 k9 hF
set_option maxRecDepth 20000 in
set_option maxHeartbeats 4000000 in
theorem J_fX3_fewest_c43b {κ : zT} (C : zC κ RX3 cX3_fewest 10 (some .int)) {d : Nat} (hR : zR κ = zrm (d + 1)) (hd : 4 ≤ d + 1) {N : Nat} {R_fX3_fewest : Nat → Nat → Int → Int → Int → zH → Option (Int × zH)} (hM_fX3_fewest : ∀ {o0 : Nat} (ho0 : o0 < zN) (hd0 : zkd o0 = 100) {o1 : Nat} (ho1 : o1 < zN) (hd1 : zkd o1 = 1) {a2 : Int} {a3 : Int} {a4 : Int} {h : zH} {r : Int} {g : zH} (hF : R_fX3_fewest o0 o1 a2 a3 a4 h = some (r, g)), zMet (zla κ) yX3_fewest cX3_fewest 10 (some .int) (zrm d) (zD κ) (zcy κ) (zα κ) (zn κ) (zσ κ) [.ref (zα κ o0), .ref (zα κ o1), .int (zi a2), .int (zi a3), .int (zi a4)] h (some (.int (zi r))) g) {o0 : Nat} (ho0 : o0 < zN) (hd0 : zkd o0 = 100) {o1 : Nat} (ho1 : o1 < zN) (hd1 : zkd o1 = 1) {r : Int × zH} (e1 : zrv κ = some (.int (zi r.1))) (e2 : zhf κ = r.2) {K43 : Int → Int → Int → Int → Int → zH → Option (Int × zH)} (hK43 : ∀ (l2 : Int) (l3 : Int) (l4 : Int) (l6 : Int) (l7 : Int) (h : zH), K43 l2 l3 l4 l6 l7 h = some r → Z κ h 43 [(0, .ref (zα κ o0)), (1, .ref (zα κ o1)), (2, .int (zi l2)), (3, .int (zi l3)), (4, .int (zi l4)), (6, .int (zi l6)), (7, .int (zi l7))] []) (l2 : Int) (l3 : Int) (l4 : Int) (l6 : Int) (l7 : Int) (h : zH) (hF : fX3_fewest_c43b N R_fX3_fewest o0 o1 K43 l2 l3 l4 l6 l7 h = some r) : Z κ h 43 [(0, .ref (zα κ o0)), (1, .ref (zα κ o1)), (2, .int (zi l2)), (3, .int (zi l3)), (4, .int (zi l4)), (6, .int (zi l6)), (7, .int (zi l7))] [] := by
  unfold fX3_fewest_c43b at hF
  refine z_iload (q := 45) C dX3_fewest_43 6 rfl rfl ?_
  refine z_aload_n (q := 46) C dX3_fewest_45 1 rfl rfl rfl ?_
  refine z_iconst (q := 47) C dX3_fewest_46 rfl ?_
  refine z_callV (q := 50) (o := o1) (av := [.int (zi 3)]) (rest := [.int (zi l7)]) (stk2 := [.int (zi (fX1_many o1 3 h)), .int (zi l7)]) C hR clX1 (zon C ho1) hd1 (M_fX1_many (zlv hd rfl) ho1 hd1 rfl) mY_X1_many q_800 (Nat.le_of_ble_eq_true rfl) dX3_fewest_47 rfl rfl rfl ?_
  refine z_icmp_ge (tgt := 133) (q := 53) C dX3_fewest_50 (by decide) rfl (fun c1 => ?_) (fun c1 => ?_)
  · have hF := (if_pos c1).symm.trans hF
    refine z_aload_n (q := 134) C dX3_fewest_133 0 rfl rfl rfl ?_
    refine z_iload_n (q := 135) C dX3_fewest_134 2 rfl rfl rfl ?_
    refine z_bipush (q := 137) C dX3_fewest_135 bp_24 rfl ?_
    refine z_imul (q := 138) C dX3_fewest_137 rfl ?_
    refine z_iload_n (q := 139) C dX3_fewest_138 3 rfl rfl rfl ?_
    refine z_iadd (q := 140) C dX3_fewest_139 rfl ?_
    refine z_iload (q := 142) C dX3_fewest_140 5 rfl rfl ?_
    refine z_iconst (q := 143) C dX3_fewest_142 rfl ?_
    refine z_iadd (q := 144) C dX3_fewest_143 rfl ?_
    obtain ⟨h2, eh2, hF⟩ := zlet_e hF
    refine z_callSN (q := 147) (av := [.ref (zα κ o0), .int (zi ((l2 * 24) + l3)), .int (zi (l6 + 2))]) (rest := []) (stk2 := []) C hR (M_fX10_put (zlv hd rfl) ho0 hd0 eh2.symm) mY_X10_put q_810 (Nat.le_of_ble_eq_true rfl) dX3_fewest_144 rfl rfl rfl ?_
    refine z_iload (q := 149) C dX3_fewest_147 5 rfl rfl ?_
    have hF := Option.some.inj hF
    subst hF
    exact z_iret C e1 e2 dX3_fewest_149
  · have hF := (if_neg c1).symm.trans hF
    refine z_aload_n (q := 54) C dX3_fewest_53 1 rfl rfl rfl ?_
    refine z_iload_n (q := 55) C dX3_fewest_54 2 rfl rfl rfl ?_
    refine z_iload (q := 57) C dX3_fewest_55 6 rfl rfl ?_
    refine z_callS (q := 60) (av := [.ref (zα κ o1), .int (zi l2), .int (zi l7)]) (rest := []) (stk2 := [.int (zi (fX3_isNext o1 l2 l7 h))]) C hR (M_fX3_isNext (zlv hd rfl) ho1 hd1 rfl) mY_X3_isNext q_801 (Nat.le_of_ble_eq_true rfl) dX3_fewest_57 rfl rfl rfl ?_
    refine z_if_eq (tgt := 127) (q := 63) C dX3_fewest_60 (by decide) rfl (fun c3 => ?_) (fun c3 => ?_)
    · have hF := (if_pos c3).symm.trans hF
      refine z_iinc (q := 130) (x := l7) C dX3_fewest_127 (j := 6) rfl (by decide) rfl rfl ?_
      refine z_goto (q := 43) C dX3_fewest_130 (by decide) ?_
      exact z_sub (hK43 _ _ _ _ _ _ hF) [1, 2, 3, 4, 5, 6, 0] rfl
    · have hF := (if_neg c3).symm.trans hF
      refine z_aload_n (q := 64) C dX3_fewest_63 1 rfl rfl rfl ?_
      refine z_iload (q := 66) C dX3_fewest_64 6 rfl rfl ?_
      refine z_iload_n (q := 67) C dX3_fewest_66 3 rfl rfl rfl ?_
      obtain ⟨v4, ev4, hF⟩ := zb_e hF
      refine z_callV (q := 70) (o := o1) (av := [.int (zi l7), .int (zi l3)]) (rest := []) (stk2 := [.int (zi v4)]) C hR clX1 (zon C ho1) hd1 (M_fX1_span (zlv hd rfl) ho1 hd1 ev4) mY_X1_span q_806 (Nat.le_of_ble_eq_true rfl) dX3_fewest_67 rfl rfl rfl ?_
      refine z_istore (q := 72) C dX3_fewest_70 (by decide) rfl rfl ?_
      refine z_aload_n (q := 73) C dX3_fewest_72 1 rfl rfl rfl ?_
      refine z_aload_n (q := 74) C dX3_fewest_73 2 rfl rfl rfl ?_
      refine z_iload_n (q := 75) C dX3_fewest_74 3 rfl rfl rfl ?_
      refine z_iconst (q := 76) C dX3_fewest_75 rfl ?_
      refine z_iload (q := 78) C dX3_fewest_76 7 rfl rfl ?_
      refine z_ishl (q := 79) C dX3_fewest_78 rfl ?_
      refine z_iconst (q := 80) C dX3_fewest_79 rfl ?_
      refine z_ixor (q := 81) C dX3_fewest_80 rfl ?_
      refine z_iand (q := 82) C dX3_fewest_81 rfl ?_
      refine z_iload_n (q := 83) C dX3_fewest_82 4 rfl rfl rfl ?_
      refine z_iload (q := 85) C dX3_fewest_83 0 rfl rfl ?_
      refine z_iadd (q := 86) C dX3_fewest_85 rfl ?_
      refine z_bipush (q := 88) C dX3_fewest_86 bp_24 rfl ?_
      refine z_irem (q := 89) C (by decide) dX3_fewest_88 rfl ?_
      refine z_iload (q := 91) C dX3_fewest_89 5 rfl rfl ?_
      refine z_iconst (q := 92) C dX3_fewest_91 rfl ?_
      refine z_iadd (q := 93) C dX3_fewest_92 rfl ?_
      obtain ⟨v6, h5, ev6, hF⟩ := z2_e hF
      refine z_callS (q := 96) (av := [.ref (zα κ o0), .ref (zα κ o1), .int (zi (zand l2 (zxor (zshl 1 l7) (-1)))), .int (zi (zrem (l3 + v4) 24)), .int (zi (l4 + 1))]) (rest := []) (stk2 := [.int (zi v6)]) C hR (hM_fX3_fewest ho0 hd0 ho1 hd1 ev6) mY_X3_fewest q_796 (Nat.le_of_ble_eq_true rfl) dX3_fewest_93 rfl rfl rfl ?_
      refine z_istore (q := 98) C dX3_fewest_96 (by decide) rfl rfl ?_
      refine z_iload (q := 100) C dX3_fewest_98 0 rfl rfl ?_
      refine z_iconst (q := 101) C dX3_fewest_100 rfl ?_
      refine z_icmp_eq (tgt := 127) (q := 104) C dX3_fewest_101 (by decide) rfl (fun c7 => ?_) (fun c7 => ?_)
      · have hF := (if_pos c7).symm.trans hF
        refine z_iinc (q := 130) (x := l7) C dX3_fewest_127 (j := 8) rfl (by decide) rfl rfl ?_
        refine z_goto (q := 43) C dX3_fewest_130 (by decide) ?_
        exact z_sub (hK43 _ _ _ _ _ _ hF) [3, 4, 5, 6, 7, 8, 0] rfl
      · have hF := (if_neg c7).symm.trans hF
        refine z_iload (q := 106) C dX3_fewest_104 7 rfl rfl ?_
        refine z_iconst (q := 107) C dX3_fewest_106 rfl ?_
        refine z_icmp_eq (tgt := 120) (q := 110) C dX3_fewest_107 (by decide) rfl (fun c8 => ?_) (fun c8 => ?_)
        · have hF := (if_pos c8).symm.trans hF
          refine z_iload (q := 122) C dX3_fewest_120 1 rfl rfl ?_
          refine z_iload (q := 124) C dX3_fewest_122 0 rfl rfl ?_
          refine z_iadd (q := 125) C dX3_fewest_124 rfl ?_
          refine z_istore (q := 127) C dX3_fewest_125 (by decide) rfl rfl ?_
          refine z_iinc (q := 130) (x := l7) C dX3_fewest_127 (j := 8) rfl (by decide) rfl rfl ?_
          refine z_goto (q := 43) C dX3_fewest_130 (by decide) ?_
          exact z_sub (hK43 _ _ _ _ _ _ hF) [4, 5, 6, 7, 8, 1, 0] rfl
        · have hF := (if_neg c8).symm.trans hF
          refine z_iload (q := 112) C dX3_fewest_110 1 rfl rfl ?_
          refine z_iload (q := 114) C dX3_fewest_112 0 rfl rfl ?_
          refine z_iadd (q := 115) C dX3_fewest_114 rfl ?_
          refine z_iload (q := 117) C dX3_fewest_115 7 rfl rfl ?_
          refine z_icmp_ge (tgt := 127) (q := 120) C dX3_fewest_117 (by decide) rfl (fun c9 => ?_) (fun c9 => ?_)
          · have hF := (if_pos c9).symm.trans hF
            refine z_iinc (q := 130) (x := l7) C dX3_fewest_127 (j := 8) rfl (by decide) rfl rfl ?_
            refine z_goto (q := 43) C dX3_fewest_130 (by decide) ?_
            exact z_sub (hK43 _ _ _ _ _ _ hF) [3, 4, 5, 6, 7, 8, 0] rfl
          · have hF := (if_neg c9).symm.trans hF
            refine z_iload (q := 122) C dX3_fewest_120 1 rfl rfl ?_
            refine z_iload (q := 124) C dX3_fewest_122 0 rfl rfl ?_
            refine z_iadd (q := 125) C dX3_fewest_124 rfl ?_
            refine z_istore (q := 127) C dX3_fewest_125 (by decide) rfl rfl ?_
            refine z_iinc (q := 130) (x := l7) C dX3_fewest_127 (j := 8) rfl (by decide) rfl rfl ?_
            refine z_goto (q := 43) C dX3_fewest_130 (by decide) ?_
            exact z_sub (hK43 _ _ _ _ _ _ hF) [4, 5, 6, 7, 8, 1, 0] rfl
set_option maxRecDepth 20000 in
set_option maxHeartbeats 4000000 in
theorem J_fX3_fewest_c43 {κ : zT} (C : zC κ RX3 cX3_fewest 10 (some .int)) {d : Nat} (hR : zR κ = zrm (d + 1)) (hd : 4 ≤ d + 1) {N : Nat} {R_fX3_fewest : Nat → Nat → Int → Int → Int → zH → Option (Int × zH)} (hM_fX3_fewest : ∀ {o0 : Nat} (ho0 : o0 < zN) (hd0 : zkd o0 = 100) {o1 : Nat} (ho1 : o1 < zN) (hd1 : zkd o1 = 1) {a2 : Int} {a3 : Int} {a4 : Int} {h : zH} {r : Int} {g : zH} (hF : R_fX3_fewest o0 o1 a2 a3 a4 h = some (r, g)), zMet (zla κ) yX3_fewest cX3_fewest 10 (some .int) (zrm d) (zD κ) (zcy κ) (zα κ) (zn κ) (zσ κ) [.ref (zα κ o0), .ref (zα κ o1), .int (zi a2), .int (zi a3), .int (zi a4)] h (some (.int (zi r))) g) {o0 : Nat} (ho0 : o0 < zN) (hd0 : zkd o0 = 100) {o1 : Nat} (ho1 : o1 < zN) (hd1 : zkd o1 = 1) {r : Int × zH} (e1 : zrv κ = some (.int (zi r.1))) (e2 : zhf κ = r.2) : ∀ (k : Nat) (l2 : Int) (l3 : Int) (l4 : Int) (l6 : Int) (l7 : Int) (h : zH), fX3_fewest_c43 N R_fX3_fewest o0 o1 k l2 l3 l4 l6 l7 h = some r → Z κ h 43 [(0, .ref (zα κ o0)), (1, .ref (zα κ o1)), (2, .int (zi l2)), (3, .int (zi l3)), (4, .int (zi l4)), (6, .int (zi l6)), (7, .int (zi l7))] [] := by
  intro k
  induction k with
  | zero => intro l2 l3 l4 l6 l7 h hF; cases hF
  | succ k ih => intro l2 l3 l4 l6 l7 h hF; exact J_fX3_fewest_c43b C hR hd hM_fX3_fewest ho0 hd0 ho1 hd1 e1 e2 ih l2 l3 l4 l6 l7 h hF
set_option maxRecDepth 20000 in
set_option maxHeartbeats 4000000 in
theorem J_fX3_fewest_b {κ : zT} (C : zC κ RX3 cX3_fewest 10 (some .int)) {d : Nat} (hR : zR κ = zrm (d + 1)) (hd : 4 ≤ d + 1) {N : Nat} {R_fX3_fewest : Nat → Nat → Int → Int → Int → zH → Option (Int × zH)} (hM_fX3_fewest : ∀ {o0 : Nat} (ho0 : o0 < zN) (hd0 : zkd o0 = 100) {o1 : Nat} (ho1 : o1 < zN) (hd1 : zkd o1 = 1) {a2 : Int} {a3 : Int} {a4 : Int} {h : zH} {r : Int} {g : zH} (hF : R_fX3_fewest o0 o1 a2 a3 a4 h = some (r, g)), zMet (zla κ) yX3_fewest cX3_fewest 10 (some .int) (zrm d) (zD κ) (zcy κ) (zα κ) (zn κ) (zσ κ) [.ref (zα κ o0), .ref (zα κ o1), .int (zi a2), .int (zi a3), .int (zi a4)] h (some (.int (zi r))) g) {o0 : Nat} (ho0 : o0 < zN) (hd0 : zkd o0 = 100) {o1 : Nat} (ho1 : o1 < zN) (hd1 : zkd o1 = 1) {r : Int × zH} (e1 : zrv κ = some (.int (zi r.1))) (e2 : zhf κ = r.2) {a2 : Int} {a3 : Int} {a4 : Int} {h : zH} (hF : fX3_fewest_b N R_fX3_fewest o0 o1 a2 a3 a4 h = some r) : Z κ h 0 [(0, .ref (zα κ o0)), (1, .ref (zα κ o1)), (2, .int (zi a2)), (3, .int (zi a3)), (4, .int (zi a4))] [] := by
  unfold fX3_fewest_b at hF
  refine z_iload_n (q := 1) C dX3_fewest_0 2 rfl rfl rfl ?_
  refine z_if_ne (tgt := 6) (q := 4) C dX3_fewest_1 (by decide) rfl (fun c1 => ?_) (fun c1 => ?_)
  · have hF := (if_neg c1).symm.trans hF
    refine z_iload (q := 8) C dX3_fewest_6 4 rfl rfl ?_
    refine z_bipush (q := 10) C dX3_fewest_8 bp_8 rfl ?_
    refine z_icmp_lt (tgt := 15) (q := 13) C dX3_fewest_10 (by decide) rfl (fun c2 => ?_) (fun c2 => ?_)
    · have hF := (if_pos c2).symm.trans hF
      refine z_aload_n (q := 16) C dX3_fewest_15 0 rfl rfl rfl ?_
      refine z_iload_n (q := 17) C dX3_fewest_16 2 rfl rfl rfl ?_
      refine z_bipush (q := 19) C dX3_fewest_17 bp_24 rfl ?_
      refine z_imul (q := 20) C dX3_fewest_19 rfl ?_
      refine z_iload_n (q := 21) C dX3_fewest_20 3 rfl rfl rfl ?_
      refine z_iadd (q := 22) C dX3_fewest_21 rfl ?_
      refine z_callSN (q := 25) (av := [.ref (zα κ o0), .int (zi ((a2 * 24) + a3))]) (rest := []) (stk2 := [.int (zi (fX10_at o0 ((a2 * 24) + a3) h))]) C hR (M_fX10_at (zlv hd rfl) ho0 hd0 rfl) mY_X10_at q_799 (Nat.le_of_ble_eq_true rfl) dX3_fewest_22 rfl rfl rfl ?_
      obtain ⟨v3, ev3, hF⟩ := zlet_e hF
      refine z_istoreE (q := 27) C ev3 dX3_fewest_25 (by decide) rfl rfl ?_
      refine z_iload (q := 29) C dX3_fewest_27 0 rfl rfl ?_
      refine z_if_eq (tgt := 37) (q := 32) C dX3_fewest_29 (by decide) rfl (fun c4 => ?_) (fun c4 => ?_)
      · have hF := (if_pos c4).symm.trans hF
        refine z_iconst (q := 38) C dX3_fewest_37 rfl ?_
        refine z_istore (q := 40) C dX3_fewest_38 (by decide) rfl rfl ?_
        refine z_iconst (q := 41) C dX3_fewest_40 rfl ?_
        refine z_istore (q := 43) C dX3_fewest_41 (by decide) rfl rfl ?_
        exact z_sub (J_fX3_fewest_c43 C hR hd hM_fX3_fewest ho0 hd0 ho1 hd1 e1 e2 N _ _ _ _ _ _ hF) [3, 4, 5, 6, 7, 1, 0] rfl
      · have hF := (if_neg c4).symm.trans hF
        refine z_iload (q := 34) C dX3_fewest_32 0 rfl rfl ?_
        refine z_iconst (q := 35) C dX3_fewest_34 rfl ?_
        refine z_isub (q := 36) C dX3_fewest_35 rfl ?_
        have hF := Option.some.inj hF
        subst hF
        exact z_iret C e1 e2 dX3_fewest_36
    · have hF := (if_neg c2).symm.trans hF
      refine z_iconst (q := 14) C dX3_fewest_13 rfl ?_
      have hF := Option.some.inj hF
      subst hF
      exact z_iret C e1 e2 dX3_fewest_14
  · have hF := (if_pos c1).symm.trans hF
    refine z_iconst (q := 5) C dX3_fewest_4 rfl ?_
    have hF := Option.some.inj hF
    subst hF
    exact z_iret C e1 e2 dX3_fewest_5
set_option maxRecDepth 20000 in
set_option maxHeartbeats 4000000 in
theorem MG_fX3_fewest {N : Nat} : ∀ (k : Nat) {l : Launch} {D : va_G} {cy : ClassId} {α : Nat → Nat} {n : Nat} {σ : zSg} {d : Nat} (hd : 3 + k ≤ d), (∀ {o0 : Nat} (ho0 : o0 < zN) (hd0 : zkd o0 = 100) {o1 : Nat} (ho1 : o1 < zN) (hd1 : zkd o1 = 1) {a2 : Int} {a3 : Int} {a4 : Int} {h : zH} {r : Int} {g : zH} (hF : ((fG_X3_fewest N k)) o0 o1 a2 a3 a4 h = some (r, g)), zMet l yX3_fewest cX3_fewest 10 (some .int) (zrm d) D cy α n σ [.ref (α o0), .ref (α o1), .int (zi a2), .int (zi a3), .int (zi a4)] h (some (.int (zi r))) g) := by
  intro k
  induction k with
  | zero => intro l D cy α n σ d hd; exact (by intros; rename_i hF; cases hF)
  | succ k ih =>
    intro l D cy α n σ d hd
    obtain ⟨d, rfl⟩ : ∃ e, d = e + 1 := ⟨d - 1, by omega⟩
    · intro o0 ho0 hd0 o1 ho1 hd1 a2 a3 a4 h r g hF
      refine z_met (by decide +kernel) (Nat.le_of_ble_eq_true rfl) (fun κ k1 k2 k3 k4 k5 k6 k7 k8 k9 C => ?_)
      subst k1 k3 k4 k5 k6 k7
      exact J_fX3_fewest_b (N := N) C k2 (by omega) ((ih (by omega : 3 + k ≤ d))) ho0 hd0 ho1 hd1 k8 k9 hF
set_option maxRecDepth 20000 in
set_option maxHeartbeats 4000000 in
theorem M_fX3_fewest {l : Launch} {D : va_G} {cy : ClassId} {α : Nat → Nat} {n : Nat} {σ : zSg} {d : Nat} (hd : 63 ≤ d) {N : Nat} {o0 : Nat} (ho0 : o0 < zN) (hd0 : zkd o0 = 100) {o1 : Nat} (ho1 : o1 < zN) (hd1 : zkd o1 = 1) {a2 : Int} {a3 : Int} {a4 : Int} {h : zH} {r : Int} {g : zH} (hF : fX3_fewest N o0 o1 a2 a3 a4 h = some (r, g)) : zMet l yX3_fewest cX3_fewest 10 (some .int) (zrm d) D cy α n σ [.ref (α o0), .ref (α o1), .int (zi a2), .int (zi a3), .int (zi a4)] h (some (.int (zi r))) g :=
  (MG_fX3_fewest 60 (by omega : 3 + 60 ≤ d)) ho0 hd0 ho1 hd1 hF
set_option maxRecDepth 20000 in
set_option maxHeartbeats 4000000 in
theorem J_fX3_first_c16b {κ : zT} (C : zC κ RX3 cX3_first 8 (some .int)) {d : Nat} (hR : zR κ = zrm (d + 1)) (hd : 64 ≤ d + 1) {N : Nat} {o1 : Nat} (ho1 : o1 < zN) (hd1 : zkd o1 = 1) {r : Int × zH} (e1 : zrv κ = some (.int (zi r.1))) (e2 : zhf κ = r.2) {K16 : Int → Int → Int → Int → zH → Option (Int × zH)} (hK16 : ∀ (l2 : Int) (l3 : Int) (l4 : Int) (l5 : Int) (h : zH), K16 l2 l3 l4 l5 h = some r → Z κ h 16 [(0, .ref (zα κ 11)), (1, .ref (zα κ o1)), (2, .int (zi l2)), (3, .int (zi l3)), (4, .int (zi l4)), (5, .int (zi l5))] []) (l2 : Int) (l3 : Int) (l4 : Int) (l5 : Int) (h : zH) (hF : fX3_first_c16b N o1 K16 l2 l3 l4 l5 h = some r) : Z κ h 16 [(0, .ref (zα κ 11)), (1, .ref (zα κ o1)), (2, .int (zi l2)), (3, .int (zi l3)), (4, .int (zi l4)), (5, .int (zi l5))] [] := by
  unfold fX3_first_c16b at hF
  refine z_iload (q := 18) C dX3_first_16 5 rfl rfl ?_
  refine z_aload_n (q := 19) C dX3_first_18 1 rfl rfl rfl ?_
  refine z_iconst (q := 20) C dX3_first_19 rfl ?_
  refine z_callV (q := 23) (o := o1) (av := [.int (zi 3)]) (rest := [.int (zi l5)]) (stk2 := [.int (zi (fX1_many o1 3 h)), .int (zi l5)]) C hR clX1 (zon C ho1) hd1 (M_fX1_many (zlv hd rfl) ho1 hd1 rfl) mY_X1_many q_800 (Nat.le_of_ble_eq_true rfl) dX3_first_20 rfl rfl rfl ?_
  refine z_icmp_ge (tgt := 102) (q := 26) C dX3_first_23 (by decide) rfl (fun c1 => ?_) (fun c1 => ?_)
  · have hF := (if_pos c1).symm.trans hF
    refine z_iconst (q := 103) C dX3_first_102 rfl ?_
    have hF := Option.some.inj hF
    subst hF
    exact z_iret C e1 e2 dX3_first_103
  · have hF := (if_neg c1).symm.trans hF
    refine z_iload (q := 28) C dX3_first_26 4 rfl rfl ?_
    refine z_iconst (q := 29) C dX3_first_28 rfl ?_
    refine z_icmp_eq (tgt := 102) (q := 32) C dX3_first_29 (by decide) rfl (fun c2 => ?_) (fun c2 => ?_)
    · have hF := (if_pos c2).symm.trans hF
      refine z_iconst (q := 103) C dX3_first_102 rfl ?_
      have hF := Option.some.inj hF
      subst hF
      exact z_iret C e1 e2 dX3_first_103
    · have hF := (if_neg c2).symm.trans hF
      refine z_aload_n (q := 33) C dX3_first_32 1 rfl rfl rfl ?_
      refine z_iload_n (q := 34) C dX3_first_33 2 rfl rfl rfl ?_
      refine z_iload (q := 36) C dX3_first_34 5 rfl rfl ?_
      refine z_callS (q := 39) (av := [.ref (zα κ o1), .int (zi l2), .int (zi l5)]) (rest := []) (stk2 := [.int (zi (fX3_isNext o1 l2 l5 h))]) C hR (M_fX3_isNext (zlv hd rfl) ho1 hd1 rfl) mY_X3_isNext q_801 (Nat.le_of_ble_eq_true rfl) dX3_first_36 rfl rfl rfl ?_
      refine z_if_eq (tgt := 96) (q := 42) C dX3_first_39 (by decide) rfl (fun c3 => ?_) (fun c3 => ?_)
      · have hF := (if_pos c3).symm.trans hF
        refine z_iinc (q := 99) (x := l5) C dX3_first_96 (j := 5) rfl (by decide) rfl rfl ?_
        refine z_goto (q := 16) C dX3_first_99 (by decide) ?_
        exact z_sub (hK16 _ _ _ _ _ hF) [1, 2, 3, 4, 5, 0] rfl
      · have hF := (if_neg c3).symm.trans hF
        refine z_aload_n (q := 43) C dX3_first_42 1 rfl rfl rfl ?_
        refine z_iload (q := 45) C dX3_first_43 5 rfl rfl ?_
        refine z_iload_n (q := 46) C dX3_first_45 3 rfl rfl rfl ?_
        obtain ⟨v4, ev4, hF⟩ := zb_e hF
        refine z_callV (q := 49) (o := o1) (av := [.int (zi l5), .int (zi l3)]) (rest := []) (stk2 := [.int (zi v4)]) C hR clX1 (zon C ho1) hd1 (M_fX1_span (zlv hd rfl) ho1 hd1 ev4) mY_X1_span q_806 (Nat.le_of_ble_eq_true rfl) dX3_first_46 rfl rfl rfl ?_
        refine z_istore (q := 51) C dX3_first_49 (by decide) rfl rfl ?_
        refine z_aload_n (q := 52) C dX3_first_51 1 rfl rfl rfl ?_
        refine z_getf (q := 55) C clX3 (zon C zo_11) kd_11 (k := 0) (by decide) q_221 rfl (zfv_r kd_11 rfl fr_11_0) dX3_first_52 rfl ?_
        refine z_aload_n (q := 56) C dX3_first_55 2 rfl rfl rfl ?_
        refine z_iload_n (q := 57) C dX3_first_56 3 rfl rfl rfl ?_
        refine z_iconst (q := 58) C dX3_first_57 rfl ?_
        refine z_iload (q := 60) C dX3_first_58 6 rfl rfl ?_
        refine z_ishl (q := 61) C dX3_first_60 rfl ?_
        refine z_iconst (q := 62) C dX3_first_61 rfl ?_
        refine z_ixor (q := 63) C dX3_first_62 rfl ?_
        refine z_iand (q := 64) C dX3_first_63 rfl ?_
        refine z_iload_n (q := 65) C dX3_first_64 4 rfl rfl rfl ?_
        refine z_iload (q := 67) C dX3_first_65 0 rfl rfl ?_
        refine z_iadd (q := 68) C dX3_first_67 rfl ?_
        refine z_bipush (q := 70) C dX3_first_68 bp_24 rfl ?_
        refine z_irem (q := 71) C (by decide) dX3_first_70 rfl ?_
        refine z_iconst (q := 72) C dX3_first_71 rfl ?_
        obtain ⟨v6, h5, ev6, hF⟩ := z2_e hF
        refine z_callS (q := 75) (av := [.ref (zα κ 43), .ref (zα κ o1), .int (zi (zand l2 (zxor (zshl 1 l5) (-1)))), .int (zi (zrem (l3 + v4) 24)), .int (zi 0)]) (rest := []) (stk2 := [.int (zi v6)]) C hR (M_fX3_fewest (zlv hd rfl) zo_43 kd_43 ho1 hd1 ev6) mY_X3_fewest q_796 (Nat.le_of_ble_eq_true rfl) dX3_first_72 rfl rfl rfl ?_
        refine z_istore (q := 77) C dX3_first_75 (by decide) rfl rfl ?_
        refine z_iload (q := 79) C dX3_first_77 0 rfl rfl ?_
        refine z_iconst (q := 80) C dX3_first_79 rfl ?_
        refine z_icmp_eq (tgt := 96) (q := 83) C dX3_first_80 (by decide) rfl (fun c7 => ?_) (fun c7 => ?_)
        · have hF := (if_pos c7).symm.trans hF
          refine z_iinc (q := 99) (x := l5) C dX3_first_96 (j := 7) rfl (by decide) rfl rfl ?_
          refine z_goto (q := 16) C dX3_first_99 (by decide) ?_
          exact z_sub (hK16 _ _ _ _ _ hF) [3, 4, 5, 6, 7, 0] rfl
        · have hF := (if_neg c7).symm.trans hF
          refine z_iload (q := 85) C dX3_first_83 1 rfl rfl ?_
          refine z_iload (q := 87) C dX3_first_85 0 rfl rfl ?_
          refine z_iadd (q := 88) C dX3_first_87 rfl ?_
          refine z_iload (q := 90) C dX3_first_88 6 rfl rfl ?_
          refine z_icmp_ne (tgt := 96) (q := 93) C dX3_first_90 (by decide) rfl (fun c8 => ?_) (fun c8 => ?_)
          · have hF := (if_neg c8).symm.trans hF
            refine z_iinc (q := 99) (x := l5) C dX3_first_96 (j := 7) rfl (by decide) rfl rfl ?_
            refine z_goto (q := 16) C dX3_first_99 (by decide) ?_
            exact z_sub (hK16 _ _ _ _ _ hF) [3, 4, 5, 6, 7, 0] rfl
          · have hF := (if_pos c8).symm.trans hF
            refine z_iload (q := 95) C dX3_first_93 7 rfl rfl ?_
            have hF := Option.some.inj hF
            subst hF
            exact z_iret C e1 e2 dX3_first_95
set_option maxRecDepth 20000 in
set_option maxHeartbeats 4000000 in
theorem J_fX3_first_c16 {κ : zT} (C : zC κ RX3 cX3_first 8 (some .int)) {d : Nat} (hR : zR κ = zrm (d + 1)) (hd : 64 ≤ d + 1) {N : Nat} {o1 : Nat} (ho1 : o1 < zN) (hd1 : zkd o1 = 1) {r : Int × zH} (e1 : zrv κ = some (.int (zi r.1))) (e2 : zhf κ = r.2) : ∀ (k : Nat) (l2 : Int) (l3 : Int) (l4 : Int) (l5 : Int) (h : zH), fX3_first_c16 N o1 k l2 l3 l4 l5 h = some r → Z κ h 16 [(0, .ref (zα κ 11)), (1, .ref (zα κ o1)), (2, .int (zi l2)), (3, .int (zi l3)), (4, .int (zi l4)), (5, .int (zi l5))] [] := by
  intro k
  induction k with
  | zero => intro l2 l3 l4 l5 h hF; cases hF
  | succ k ih => intro l2 l3 l4 l5 h hF; exact J_fX3_first_c16b C hR hd ho1 hd1 e1 e2 ih l2 l3 l4 l5 h hF
set_option maxRecDepth 20000 in
set_option maxHeartbeats 4000000 in
theorem J_fX3_first {κ : zT} (C : zC κ RX3 cX3_first 8 (some .int)) {d : Nat} (hR : zR κ = zrm (d + 1)) (hd : 64 ≤ d + 1) {N : Nat} {o1 : Nat} (ho1 : o1 < zN) (hd1 : zkd o1 = 1) {r : Int × zH} (e1 : zrv κ = some (.int (zi r.1))) (e2 : zhf κ = r.2) {a2 : Int} {a3 : Int} {h : zH} (hF : fX3_first N o1 a2 a3 h = some r) : Z κ h 0 [(0, .ref (zα κ 11)), (1, .ref (zα κ o1)), (2, .int (zi a2)), (3, .int (zi a3))] [] := by
  unfold fX3_first at hF
  refine z_aload_n (q := 1) C dX3_first_0 0 rfl rfl rfl ?_
  refine z_getf (q := 4) C clX3 (zon C zo_11) kd_11 (k := 0) (by decide) q_221 rfl (zfv_r kd_11 rfl fr_11_0) dX3_first_1 rfl ?_
  refine z_aload_n (q := 5) C dX3_first_4 1 rfl rfl rfl ?_
  refine z_iload_n (q := 6) C dX3_first_5 2 rfl rfl rfl ?_
  refine z_iload_n (q := 7) C dX3_first_6 3 rfl rfl rfl ?_
  refine z_iconst (q := 8) C dX3_first_7 rfl ?_
  obtain ⟨v2, h1, ev2, hF⟩ := z2_e hF
  refine z_callS (q := 11) (av := [.ref (zα κ 43), .ref (zα κ o1), .int (zi a2), .int (zi a3), .int (zi 0)]) (rest := []) (stk2 := [.int (zi v2)]) C hR (M_fX3_fewest (zlv hd rfl) zo_43 kd_43 ho1 hd1 ev2) mY_X3_fewest q_796 (Nat.le_of_ble_eq_true rfl) dX3_first_8 rfl rfl rfl ?_
  refine z_istore (q := 13) C dX3_first_11 (by decide) rfl rfl ?_
  refine z_iconst (q := 14) C dX3_first_13 rfl ?_
  refine z_istore (q := 16) C dX3_first_14 (by decide) rfl rfl ?_
  exact z_sub (J_fX3_first_c16 C hR hd ho1 hd1 e1 e2 N _ _ _ _ _ hF) [2, 3, 4, 5, 1, 0] rfl
set_option maxRecDepth 20000 in
set_option maxHeartbeats 4000000 in
theorem M_fX3_first {l : Launch} {D : va_G} {cy : ClassId} {α : Nat → Nat} {n : Nat} {σ : zSg} {d : Nat} (hd : 64 ≤ d) {N : Nat} {o1 : Nat} (ho1 : o1 < zN) (hd1 : zkd o1 = 1) {a2 : Int} {a3 : Int} {h : zH} {r : Int} {g : zH} (hF : fX3_first N o1 a2 a3 h = some (r, g)) : zMet l yX3_first cX3_first 8 (some .int) (zrm d) D cy α n σ [.ref (α 11), .ref (α o1), .int (zi a2), .int (zi a3)] h (some (.int (zi r))) g := by
  obtain ⟨d, rfl⟩ : ∃ e, d = e + 1 := ⟨d - 1, by omega⟩
  refine z_met (by decide +kernel) (Nat.le_of_ble_eq_true rfl) (fun κ k1 k2 k3 k4 k5 k6 k7 k8 k9 C => ?_)
  subst k1 k3 k4 k5 k6 k7
  exact J_fX3_first C k2 hd ho1 hd1 k8 k9 hF
set_option maxRecDepth 20000 in
set_option maxHeartbeats 4000000 in
theorem J_fX10_fileSoonest {κ : zT} (C : zC κ RX10 cX10_fileSoonest 3 none) {d : Nat} (hR : zR κ = zrm (d + 1)) (hd : 65 ≤ d + 1) {N : Nat} {r : zH} (e1 : zrv κ = none) (e2 : zhf κ = r) {a1 : Int} {h : zH} (hF : fX10_fileSoonest N a1 h = some r) : Z κ h 0 [(0, .ref (zα κ 0)), (1, .int (zi a1))] [] := by
  unfold fX10_fileSoonest at hF
  refine z_aload_n (q := 1) C dX10_fileSoonest_0 0 rfl rfl rfl ?_
  refine z_getf (q := 4) C clX10 (zon C zo_0) kd_0 (k := 10) (by decide) q_281 rfl (zfv_r kd_0 rfl fr_0_10) dX10_fileSoonest_1 rfl ?_
  refine z_aload_n (q := 5) C dX10_fileSoonest_4 0 rfl rfl rfl ?_
  refine z_getf (q := 8) C clX10 (zon C zo_0) kd_0 (k := 1) (by decide) q_272 rfl (zfv_r kd_0 rfl fr_0_1) dX10_fileSoonest_5 rfl ?_
  refine z_aload_n (q := 9) C dX10_fileSoonest_8 0 rfl rfl rfl ?_
  refine z_iload_n (q := 10) C dX10_fileSoonest_9 1 rfl rfl rfl ?_
  refine z_iconst (q := 11) C dX10_fileSoonest_10 rfl ?_
  obtain ⟨v1, ev1, hF⟩ := zb_e hF
  refine z_callV (q := 14) (o := 0) (av := [.int (zi a1), .int (zi 0)]) (rest := [.ref (zα κ 2), .ref (zα κ 11)]) (stk2 := [.int (zi v1), .ref (zα κ 2), .ref (zα κ 11)]) C hR clX10 (zon C zo_0) kd_0 (M_fX10_lacksOf (zlv hd rfl) ev1) mY_X10_lacksOf q_782 (Nat.le_of_ble_eq_true rfl) dX10_fileSoonest_11 rfl rfl rfl ?_
  refine z_aload_n (q := 15) C dX10_fileSoonest_14 0 rfl rfl rfl ?_
  refine z_getf (q := 18) C clX10 (zon C zo_0) kd_0 (k := 6) (by decide) q_277 rfl (zfv_r kd_0 rfl fr_0_6) dX10_fileSoonest_15 rfl ?_
  refine z_callV (q := 21) (o := 7) (av := []) (rest := [.int (zi v1), .ref (zα κ 2), .ref (zα κ 11)]) (stk2 := [.int (zi (fX8_time 7 h)), .int (zi v1), .ref (zα κ 2), .ref (zα κ 11)]) C hR clX8 (zon C zo_7) kd_7 (M_fX8_time (zlv hd rfl) zo_7 kd_7 rfl) mY_X8_time q_648 (Nat.le_of_ble_eq_true rfl) dX10_fileSoonest_18 rfl rfl rfl ?_
  obtain ⟨v3, h2, ev3, hF⟩ := z2_e hF
  refine z_callV (q := 24) (o := 11) (av := [.ref (zα κ 2), .int (zi v1), .int (zi (fX8_time 7 h))]) (rest := []) (stk2 := [.int (zi v3)]) C hR clX3 (zon C zo_11) kd_11 (M_fX3_first (zlv hd rfl) zo_2 kd_2 ev3) mY_X3_first q_792 (Nat.le_of_ble_eq_true rfl) dX10_fileSoonest_21 rfl rfl rfl ?_
  refine z_istore_n (q := 25) C dX10_fileSoonest_24 (by decide) rfl rfl rfl ?_
  refine z_aload_n (q := 26) C dX10_fileSoonest_25 1 rfl rfl rfl ?_
  refine z_getf (q := 29) C clX10 (zon C zo_0) kd_0 (k := 6) (by decide) q_277 rfl (zfv_r kd_0 rfl fr_0_6) dX10_fileSoonest_26 rfl ?_
  refine z_aload_n (q := 30) C dX10_fileSoonest_29 1 rfl rfl rfl ?_
  refine z_getf (q := 33) C clX10 (zon C zo_0) kd_0 (k := 1) (by decide) q_272 rfl (zfv_r kd_0 rfl fr_0_1) dX10_fileSoonest_30 rfl ?_
  refine z_iconst (q := 34) C dX10_fileSoonest_33 rfl ?_
  refine z_iload_n (q := 35) C dX10_fileSoonest_34 2 rfl rfl rfl ?_
  refine z_iload_n (q := 36) C dX10_fileSoonest_35 0 rfl rfl rfl ?_
  refine z_callV (q := 39) (o := 7) (av := [.ref (zα κ 2), .int (zi 0), .int (zi a1), .int (zi v3)]) (rest := []) (stk2 := [.int (zi (fX8_allows 7 2 0 a1 v3 h2))]) C hR clX8 (zon C zo_7) kd_7 (M_fX8_allows (zlv hd rfl) zo_7 kd_7 zo_2 kd_2 rfl) mY_X8_allows q_672 (Nat.le_of_ble_eq_true rfl) dX10_fileSoonest_36 rfl rfl rfl ?_
  refine z_if_eq (tgt := 55) (q := 42) C dX10_fileSoonest_39 (by decide) rfl (fun c4 => ?_) (fun c4 => ?_)
  · have hF := (if_pos c4).symm.trans hF
    have hF := Option.some.inj hF
    subst hF
    exact z_vret C e1 e2 dX10_fileSoonest_55
  · have hF := (if_neg c4).symm.trans hF
    refine z_aload_n (q := 43) C dX10_fileSoonest_42 1 rfl rfl rfl ?_
    refine z_getf (q := 46) C clX10 (zon C zo_0) kd_0 (k := 6) (by decide) q_277 rfl (zfv_r kd_0 rfl fr_0_6) dX10_fileSoonest_43 rfl ?_
    refine z_aload_n (q := 47) C dX10_fileSoonest_46 1 rfl rfl rfl ?_
    refine z_getf (q := 50) C clX10 (zon C zo_0) kd_0 (k := 1) (by decide) q_272 rfl (zfv_r kd_0 rfl fr_0_1) dX10_fileSoonest_47 rfl ?_
    refine z_iload_n (q := 51) C dX10_fileSoonest_50 2 rfl rfl rfl ?_
    refine z_iload_n (q := 52) C dX10_fileSoonest_51 0 rfl rfl rfl ?_
    obtain ⟨h5, eh5, hF⟩ := zlet_e hF
    refine z_callV (q := 55) (o := 7) (av := [.ref (zα κ 2), .int (zi a1), .int (zi v3)]) (rest := []) (stk2 := []) C hR clX8 (zon C zo_7) kd_7 (M_fX8_enqueue (zlv hd rfl) zo_7 kd_7 zo_2 kd_2 eh5.symm) mY_X8_enqueue q_695 (Nat.le_of_ble_eq_true rfl) dX10_fileSoonest_52 rfl rfl rfl ?_
    have hF := Option.some.inj hF
    subst hF
    exact z_vret C e1 e2 dX10_fileSoonest_55
set_option maxRecDepth 20000 in
set_option maxHeartbeats 4000000 in
theorem M_fX10_fileSoonest {l : Launch} {D : va_G} {cy : ClassId} {α : Nat → Nat} {n : Nat} {σ : zSg} {d : Nat} (hd : 65 ≤ d) {N : Nat} {a1 : Int} {h : zH} {g : zH} (hF : fX10_fileSoonest N a1 h = some g) : zMet l yX10_fileSoonest cX10_fileSoonest 3 none (zrm d) D cy α n σ [.ref (α 0), .int (zi a1)] h (none) g := by
  obtain ⟨d, rfl⟩ : ∃ e, d = e + 1 := ⟨d - 1, by omega⟩
  refine z_met (by decide +kernel) (Nat.le_of_ble_eq_true rfl) (fun κ k1 k2 k3 k4 k5 k6 k7 k8 k9 C => ?_)
  subst k1 k3 k4 k5 k6 k7
  exact J_fX10_fileSoonest C k2 hd k8 k9 hF
set_option maxRecDepth 20000 in
set_option maxHeartbeats 4000000 in
theorem J_fX10_toil_c32b {κ : zT} (C : zC κ RX10 cX10_toil 4 (some .int)) {d : Nat} (hR : zR κ = zrm (d + 1)) (hd : 66 ≤ d + 1) {N : Nat} {r : Int × zH} (e1 : zrv κ = some (.int (zi r.1))) (e2 : zhf κ = r.2) {K14 : Int → Int → zH → Option (Int × zH)} (hK14 : ∀ (l1 : Int) (l2 : Int) (h : zH), K14 l1 l2 h = some r → Z κ h 14 [(0, .ref (zα κ 0)), (1, .int (zi l1)), (2, .int (zi l2))] []) {K32 : Int → Int → Int → zH → Option (Int × zH)} (hK32 : ∀ (l1 : Int) (l2 : Int) (l3 : Int) (h : zH), K32 l1 l2 l3 h = some r → Z κ h 32 [(0, .ref (zα κ 0)), (1, .int (zi l1)), (2, .int (zi l2)), (3, .int (zi l3))] []) (l1 : Int) (l2 : Int) (l3 : Int) (h : zH) (hF : fX10_toil_c32b N K14 K32 l1 l2 l3 h = some r) : Z κ h 32 [(0, .ref (zα κ 0)), (1, .int (zi l1)), (2, .int (zi l2)), (3, .int (zi l3))] [] := by
  unfold fX10_toil_c32b at hF
  refine z_iload_n (q := 33) C dX10_toil_32 3 rfl rfl rfl ?_
  refine z_aload_n (q := 34) C dX10_toil_33 0 rfl rfl rfl ?_
  refine z_getf (q := 37) C clX10 (zon C zo_0) kd_0 (k := 1) (by decide) q_272 rfl (zfv_r kd_0 rfl fr_0_1) dX10_toil_34 rfl ?_
  refine z_iconst (q := 38) C dX10_toil_37 rfl ?_
  refine z_callV (q := 41) (o := 2) (av := [.int (zi 1)]) (rest := [.int (zi l3)]) (stk2 := [.int (zi (fX1_many 2 1 h)), .int (zi l3)]) C hR clX1 (zon C zo_2) kd_2 (M_fX1_many (zlv hd rfl) zo_2 kd_2 rfl) mY_X1_many q_620 (Nat.le_of_ble_eq_true rfl) dX10_toil_38 rfl rfl rfl ?_
  refine z_icmp_ge (tgt := 70) (q := 44) C dX10_toil_41 (by decide) rfl (fun c1 => ?_) (fun c1 => ?_)
  · have hF := (if_pos c1).symm.trans hF
    refine z_aload_n (q := 71) C dX10_toil_70 0 rfl rfl rfl ?_
    refine z_getf (q := 74) C clX10 (zon C zo_0) kd_0 (k := 6) (by decide) q_277 rfl (zfv_r kd_0 rfl fr_0_6) dX10_toil_71 rfl ?_
    refine z_aload_n (q := 75) C dX10_toil_74 0 rfl rfl rfl ?_
    refine z_getf (q := 78) C clX10 (zon C zo_0) kd_0 (k := 1) (by decide) q_272 rfl (zfv_r kd_0 rfl fr_0_1) dX10_toil_75 rfl ?_
    refine z_aload_n (q := 79) C dX10_toil_78 0 rfl rfl rfl ?_
    refine z_getf (q := 82) C clX10 (zon C zo_0) kd_0 (k := 4) (by decide) q_275 rfl (zfv_r kd_0 rfl fr_0_4) dX10_toil_79 rfl ?_
    refine z_iconst (q := 83) C dX10_toil_82 rfl ?_
    obtain ⟨h2, eh2, hF⟩ := zb_e hF
    refine z_callV (q := 86) (o := 7) (av := [.ref (zα κ 2), .ref (zα κ 5), .int (zi 0)]) (rest := []) (stk2 := []) C hR clX8 (zon C zo_7) kd_7 (M_fX8_pass (zlv hd rfl) zo_7 kd_7 zo_2 kd_2 eh2) mY_X8_pass q_718 (Nat.le_of_ble_eq_true rfl) dX10_toil_83 rfl rfl rfl ?_
    refine z_iinc (q := 89) (x := l2) C dX10_toil_86 (j := 2) rfl (by decide) rfl rfl ?_
    refine z_goto (q := 14) C dX10_toil_89 (by decide) ?_
    exact z_sub (hK14 _ _ _ hF) [1, 2, 0] rfl
  · have hF := (if_neg c1).symm.trans hF
    refine z_aload_n (q := 45) C dX10_toil_44 0 rfl rfl rfl ?_
    refine z_getf (q := 48) C clX10 (zon C zo_0) kd_0 (k := 6) (by decide) q_277 rfl (zfv_r kd_0 rfl fr_0_6) dX10_toil_45 rfl ?_
    refine z_aload_n (q := 49) C dX10_toil_48 0 rfl rfl rfl ?_
    refine z_getf (q := 52) C clX10 (zon C zo_0) kd_0 (k := 1) (by decide) q_272 rfl (zfv_r kd_0 rfl fr_0_1) dX10_toil_49 rfl ?_
    refine z_iload_n (q := 53) C dX10_toil_52 3 rfl rfl rfl ?_
    refine z_callV (q := 56) (o := 7) (av := [.ref (zα κ 2), .int (zi l3)]) (rest := []) (stk2 := [.int (zi (fX8_isIdle 7 2 l3 h))]) C hR clX8 (zon C zo_7) kd_7 (M_fX8_isIdle (zlv hd rfl) zo_7 kd_7 zo_2 kd_2 rfl) mY_X8_isIdle q_774 (Nat.le_of_ble_eq_true rfl) dX10_toil_53 rfl rfl rfl ?_
    refine z_if_eq (tgt := 64) (q := 59) C dX10_toil_56 (by decide) rfl (fun c3 => ?_) (fun c3 => ?_)
    · have hF := (if_pos c3).symm.trans hF
      refine z_iinc (q := 67) (x := l3) C dX10_toil_64 (j := 3) rfl (by decide) rfl rfl ?_
      refine z_goto (q := 32) C dX10_toil_67 (by decide) ?_
      exact z_sub (hK32 _ _ _ _ hF) [1, 2, 3, 0] rfl
    · have hF := (if_neg c3).symm.trans hF
      refine z_aload_n (q := 60) C dX10_toil_59 0 rfl rfl rfl ?_
      refine z_iload_n (q := 61) C dX10_toil_60 3 rfl rfl rfl ?_
      obtain ⟨h4, eh4, hF⟩ := zb_e hF
      refine z_callV (q := 64) (o := 0) (av := [.int (zi l3)]) (rest := []) (stk2 := []) C hR clX10 (zon C zo_0) kd_0 (M_fX10_fileSoonest (zlv hd rfl) eh4) mY_X10_fileSoonest q_778 (Nat.le_of_ble_eq_true rfl) dX10_toil_61 rfl rfl rfl ?_
      refine z_iinc (q := 67) (x := l3) C dX10_toil_64 (j := 3) rfl (by decide) rfl rfl ?_
      refine z_goto (q := 32) C dX10_toil_67 (by decide) ?_
      exact z_sub (hK32 _ _ _ _ hF) [1, 2, 3, 0] rfl
set_option maxRecDepth 20000 in
set_option maxHeartbeats 4000000 in
theorem J_fX10_toil_c32 {κ : zT} (C : zC κ RX10 cX10_toil 4 (some .int)) {d : Nat} (hR : zR κ = zrm (d + 1)) (hd : 66 ≤ d + 1) {N : Nat} {r : Int × zH} (e1 : zrv κ = some (.int (zi r.1))) (e2 : zhf κ = r.2) {K14 : Int → Int → zH → Option (Int × zH)} (hK14 : ∀ (l1 : Int) (l2 : Int) (h : zH), K14 l1 l2 h = some r → Z κ h 14 [(0, .ref (zα κ 0)), (1, .int (zi l1)), (2, .int (zi l2))] []) : ∀ (k : Nat) (l1 : Int) (l2 : Int) (l3 : Int) (h : zH), fX10_toil_c32 N K14 k l1 l2 l3 h = some r → Z κ h 32 [(0, .ref (zα κ 0)), (1, .int (zi l1)), (2, .int (zi l2)), (3, .int (zi l3))] [] := by
  intro k
  induction k with
  | zero => intro l1 l2 l3 h hF; cases hF
  | succ k ih => intro l1 l2 l3 h hF; exact J_fX10_toil_c32b C hR hd e1 e2 hK14 ih l1 l2 l3 h hF
set_option maxRecDepth 20000 in
set_option maxHeartbeats 4000000 in
theorem J_fX10_toil_c14b {κ : zT} (C : zC κ RX10 cX10_toil 4 (some .int)) {d : Nat} (hR : zR κ = zrm (d + 1)) (hd : 66 ≤ d + 1) {N : Nat} {r : Int × zH} (e1 : zrv κ = some (.int (zi r.1))) (e2 : zhf κ = r.2) {K14 : Int → Int → zH → Option (Int × zH)} (hK14 : ∀ (l1 : Int) (l2 : Int) (h : zH), K14 l1 l2 h = some r → Z κ h 14 [(0, .ref (zα κ 0)), (1, .int (zi l1)), (2, .int (zi l2))] []) (l1 : Int) (l2 : Int) (h : zH) (hF : fX10_toil_c14b N K14 l1 l2 h = some r) : Z κ h 14 [(0, .ref (zα κ 0)), (1, .int (zi l1)), (2, .int (zi l2))] [] := by
  unfold fX10_toil_c14b at hF
  refine z_iload_n (q := 15) C dX10_toil_14 2 rfl rfl rfl ?_
  refine z_iload_n (q := 16) C dX10_toil_15 1 rfl rfl rfl ?_
  refine z_icmp_ge (tgt := 92) (q := 19) C dX10_toil_16 (by decide) rfl (fun c1 => ?_) (fun c1 => ?_)
  · have hF := (if_pos c1).symm.trans hF
    refine z_aload_n (q := 93) C dX10_toil_92 0 rfl rfl rfl ?_
    refine z_getf (q := 96) C clX10 (zon C zo_0) kd_0 (k := 6) (by decide) q_277 rfl (zfv_r kd_0 rfl fr_0_6) dX10_toil_93 rfl ?_
    refine z_callV (q := 99) (o := 7) (av := []) (rest := []) (stk2 := [.int (zi (fX8_hour 7 h))]) C hR clX8 (zon C zo_7) kd_7 (M_fX8_hour (zlv hd rfl) zo_7 kd_7 rfl) mY_X8_hour q_717 (Nat.le_of_ble_eq_true rfl) dX10_toil_96 rfl rfl rfl ?_
    have hF := Option.some.inj hF
    subst hF
    exact z_iret C e1 e2 dX10_toil_99
  · have hF := (if_neg c1).symm.trans hF
    refine z_aload_n (q := 20) C dX10_toil_19 0 rfl rfl rfl ?_
    refine z_getf (q := 23) C clX10 (zon C zo_0) kd_0 (k := 9) (by decide) q_280 rfl (zfv_r kd_0 rfl fr_0_9) dX10_toil_20 rfl ?_
    refine z_aload_n (q := 24) C dX10_toil_23 0 rfl rfl rfl ?_
    refine z_getf (q := 27) C clX10 (zon C zo_0) kd_0 (k := 6) (by decide) q_277 rfl (zfv_r kd_0 rfl fr_0_6) dX10_toil_24 rfl ?_
    obtain ⟨h2, eh2, hF⟩ := zb_e hF
    refine z_callV (q := 30) (o := 10) (av := [.ref (zα κ 7)]) (rest := []) (stk2 := []) C hR clX0 (zon C zo_10) kd_10 (M_fX0_keep (zlv hd rfl) zo_7 kd_7 eh2) mY_X0_keep q_686 (Nat.le_of_ble_eq_true rfl) dX10_toil_27 rfl rfl rfl ?_
    refine z_iconst (q := 31) C dX10_toil_30 rfl ?_
    refine z_istore_n (q := 32) C dX10_toil_31 (by decide) rfl rfl rfl ?_
    exact z_sub (J_fX10_toil_c32 C hR hd e1 e2 hK14 N _ _ _ _ hF) [1, 2, 3, 0] rfl
set_option maxRecDepth 20000 in
set_option maxHeartbeats 4000000 in
theorem J_fX10_toil_c14 {κ : zT} (C : zC κ RX10 cX10_toil 4 (some .int)) {d : Nat} (hR : zR κ = zrm (d + 1)) (hd : 66 ≤ d + 1) {N : Nat} {r : Int × zH} (e1 : zrv κ = some (.int (zi r.1))) (e2 : zhf κ = r.2) : ∀ (k : Nat) (l1 : Int) (l2 : Int) (h : zH), fX10_toil_c14 N k l1 l2 h = some r → Z κ h 14 [(0, .ref (zα κ 0)), (1, .int (zi l1)), (2, .int (zi l2))] [] := by
  intro k
  induction k with
  | zero => intro l1 l2 h hF; cases hF
  | succ k ih => intro l1 l2 h hF; exact J_fX10_toil_c14b C hR hd e1 e2 ih l1 l2 h hF
set_option maxRecDepth 20000 in
set_option maxHeartbeats 4000000 in
theorem J_fX10_toil {κ : zT} (C : zC κ RX10 cX10_toil 4 (some .int)) {d : Nat} (hR : zR κ = zrm (d + 1)) (hd : 66 ≤ d + 1) {N : Nat} {r : Int × zH} (e1 : zrv κ = some (.int (zi r.1))) (e2 : zhf κ = r.2) {a1 : Int} {h : zH} (hF : fX10_toil N a1 h = some r) : Z κ h 0 [(0, .ref (zα κ 0)), (1, .int (zi a1))] [] := by
  unfold fX10_toil at hF
  refine z_aload_n (q := 1) C dX10_toil_0 0 rfl rfl rfl ?_
  refine z_iload_n (q := 2) C dX10_toil_1 1 rfl rfl rfl ?_
  refine z_bipush (q := 4) C dX10_toil_2 bp_48 rfl ?_
  refine z_callV (q := 7) (o := 0) (av := [.int (zi a1), .int (zi 48)]) (rest := []) (stk2 := [.int (zi (fX10_canPass a1 48 h))]) C hR clX10 (zon C zo_0) kd_0 (M_fX10_canPass (zlv hd rfl) rfl) mY_X10_canPass q_713 (Nat.le_of_ble_eq_true rfl) dX10_toil_4 rfl rfl rfl ?_
  refine z_if_ne (tgt := 12) (q := 10) C dX10_toil_7 (by decide) rfl (fun c1 => ?_) (fun c1 => ?_)
  · have hF := (if_neg c1).symm.trans hF
    refine z_iconst (q := 13) C dX10_toil_12 rfl ?_
    refine z_istore_n (q := 14) C dX10_toil_13 (by decide) rfl rfl rfl ?_
    exact z_sub (J_fX10_toil_c14 C hR hd e1 e2 N _ _ _ hF) [1, 2, 0] rfl
  · have hF := (if_pos c1).symm.trans hF
    refine z_iconst (q := 11) C dX10_toil_10 rfl ?_
    have hF := Option.some.inj hF
    subst hF
    exact z_iret C e1 e2 dX10_toil_11
set_option maxRecDepth 20000 in
set_option maxHeartbeats 4000000 in
theorem M_fX10_toil {l : Launch} {D : va_G} {cy : ClassId} {α : Nat → Nat} {n : Nat} {σ : zSg} {d : Nat} (hd : 66 ≤ d) {N : Nat} {a1 : Int} {h : zH} {r : Int} {g : zH} (hF : fX10_toil N a1 h = some (r, g)) : zMet l yX10_toil cX10_toil 4 (some .int) (zrm d) D cy α n σ [.ref (α 0), .int (zi a1)] h (some (.int (zi r))) g := by
  obtain ⟨d, rfl⟩ : ∃ e, d = e + 1 := ⟨d - 1, by omega⟩
  refine z_met (by decide +kernel) (Nat.le_of_ble_eq_true rfl) (fun κ k1 k2 k3 k4 k5 k6 k7 k8 k9 C => ?_)
  subst k1 k3 k4 k5 k6 k7
  exact J_fX10_toil C k2 hd k8 k9 hF
set_option maxRecDepth 20000 in
set_option maxHeartbeats 4000000 in
theorem J_fX10_draw {κ : zT} (C : zC κ RX10 cX10_draw 2 (some .int)) {d : Nat} (hR : zR κ = zrm (d + 1)) (hd : 1 ≤ d + 1) {r : Int × zH} (e1 : zrv κ = some (.int (zi r.1))) (e2 : zhf κ = r.2) {a1 : Int} {h : zH} (hF : fX10_draw a1 h = some r) : Z κ h 0 [(0, .ref (zα κ 0)), (1, .int (zi a1))] [] := by
  unfold fX10_draw at hF
  refine z_aload_n (q := 1) C dX10_draw_0 0 rfl rfl rfl ?_
  refine z_aload_n (q := 2) C dX10_draw_1 0 rfl rfl rfl ?_
  refine z_getf (q := 5) C clX10 (zon C zo_0) kd_0 (k := 15) (by decide) q_286 rfl (zfv_l kd_0 rfl) dX10_draw_2 rfl ?_
  refine z_ldc2 (q := 8) C kc_RX10_312 dX10_draw_5 rfl ?_
  refine z_lmul (q := 9) C dX10_draw_8 rfl ?_
  refine z_ldc2 (q := 12) C kc_RX10_314 dX10_draw_9 rfl ?_
  refine z_ladd (q := 13) C dX10_draw_12 rfl ?_
  obtain ⟨h1, eh1, hF⟩ := zlet_e hF
  refine z_putf (q := 16) C clX10 (zon C zo_0) kd_0 (k := 15) (x := ((h 0 15) * 6364136223846793005) + 1442695040888963407) (by decide) q_286 rfl rfl rfl rfl (((zfv_l kd_0 rfl)).trans (by rw [if_pos rfl])) dX10_draw_13 rfl eh1 ?_
  refine z_iload_n (q := 17) C dX10_draw_16 1 rfl rfl rfl ?_
  refine z_iconst (q := 18) C dX10_draw_17 rfl ?_
  refine z_icmp_ge (tgt := 25) (q := 21) C dX10_draw_18 (by decide) rfl (fun c2 => ?_) (fun c2 => ?_)
  · have hF := (if_pos c2).symm.trans hF
    refine z_aload_n (q := 26) C dX10_draw_25 0 rfl rfl rfl ?_
    refine z_getf (q := 29) C clX10 (zon C zo_0) kd_0 (k := 15) (by decide) q_286 rfl (zfv_l kd_0 rfl) dX10_draw_26 rfl ?_
    refine z_bipush (q := 31) C dX10_draw_29 bp_33 rfl ?_
    refine z_lushr (q := 32) C dX10_draw_31 rfl ?_
    refine z_iload_n (q := 33) C dX10_draw_32 1 rfl rfl rfl ?_
    refine z_i2l (q := 34) C dX10_draw_33 rfl ?_
    obtain ⟨g3, hF⟩ := zif_none hF
    refine z_lrem (q := 35) C g3 dX10_draw_34 rfl ?_
    refine z_l2i (q := 36) C dX10_draw_35 rfl ?_
    have hF := Option.some.inj hF
    subst hF
    exact z_iret C e1 e2 dX10_draw_36
  · have hF := (if_neg c2).symm.trans hF
    refine z_iconst (q := 22) C dX10_draw_21 rfl ?_
    refine z_goto (q := 36) C dX10_draw_22 (by decide) ?_
    have hF := Option.some.inj hF
    subst hF
    exact z_iret C e1 e2 dX10_draw_36
set_option maxRecDepth 20000 in
set_option maxHeartbeats 4000000 in
theorem M_fX10_draw {l : Launch} {D : va_G} {cy : ClassId} {α : Nat → Nat} {n : Nat} {σ : zSg} {d : Nat} (hd : 1 ≤ d) {a1 : Int} {h : zH} {r : Int} {g : zH} (hF : fX10_draw a1 h = some (r, g)) : zMet l yX10_draw cX10_draw 2 (some .int) (zrm d) D cy α n σ [.ref (α 0), .int (zi a1)] h (some (.int (zi r))) g := by
  obtain ⟨d, rfl⟩ : ∃ e, d = e + 1 := ⟨d - 1, by omega⟩
  refine z_met (by decide +kernel) (Nat.le_of_ble_eq_true rfl) (fun κ k1 k2 k3 k4 k5 k6 k7 k8 k9 C => ?_)
  subst k1 k3 k4 k5 k6 k7
  exact J_fX10_draw C k2 hd k8 k9 hF
set_option maxRecDepth 20000 in
set_option maxHeartbeats 4000000 in
theorem J_fX10_years_c127 {κ : zT} (C : zC κ RX10 cX10_years 6 (some .int)) {d : Nat} (hR : zR κ = zrm (d + 1)) (hd : 66 ≤ d + 1) {N : Nat} {r : Int × zH} (e1 : zrv κ = some (.int (zi r.1))) (e2 : zhf κ = r.2) {K21 : Int → Int → zH → Option (Int × zH)} (hK21 : ∀ (l1 : Int) (l4 : Int) (h : zH), K21 l1 l4 h = some r → Z κ h 21 [(0, .ref (zα κ 0)), (1, .int (zi l1)), (4, .int (zi l4))] []) (l1 : Int) (l4 : Int) (s0 : Int) (h : zH) (hF : fX10_years_c127 N K21 l1 l4 s0 h = some r) : Z κ h 127 [(0, .ref (zα κ 0)), (1, .int (zi l1)), (4, .int (zi l4))] [.int (zi s0)] := by
  unfold fX10_years_c127 at hF
  refine z_istore (q := 129) C dX10_years_127 (by decide) rfl rfl ?_
  refine z_aload_n (q := 130) C dX10_years_129 1 rfl rfl rfl ?_
  refine z_getf (q := 133) C clX10 (zon C zo_0) kd_0 (k := 6) (by decide) q_277 rfl (zfv_r kd_0 rfl fr_0_6) dX10_years_130 rfl ?_
  refine z_aload_n (q := 134) C dX10_years_133 1 rfl rfl rfl ?_
  refine z_getf (q := 137) C clX10 (zon C zo_0) kd_0 (k := 1) (by decide) q_272 rfl (zfv_r kd_0 rfl fr_0_1) dX10_years_134 rfl ?_
  refine z_aload_n (q := 138) C dX10_years_137 1 rfl rfl rfl ?_
  refine z_getf (q := 141) C clX10 (zon C zo_0) kd_0 (k := 4) (by decide) q_275 rfl (zfv_r kd_0 rfl fr_0_4) dX10_years_138 rfl ?_
  refine z_iload (q := 143) C dX10_years_141 0 rfl rfl ?_
  refine z_if_eq (tgt := 163) (q := 146) C dX10_years_143 (by decide) rfl (fun c1 => ?_) (fun c1 => ?_)
  · have hF := (if_pos c1).symm.trans hF
    refine z_iconst (q := 164) C dX10_years_163 rfl ?_
    obtain ⟨h2, eh2, hF⟩ := zb_e hF
    refine z_callV (q := 167) (o := 7) (av := [.ref (zα κ 2), .ref (zα κ 5), .int (zi 0)]) (rest := []) (stk2 := []) C hR clX8 (zon C zo_7) kd_7 (M_fX8_pass (zlv hd rfl) zo_7 kd_7 zo_2 kd_2 eh2) mY_X8_pass q_718 (Nat.le_of_ble_eq_true rfl) dX10_years_164 rfl rfl rfl ?_
    refine z_iinc (q := 170) (x := l4) C dX10_years_167 (j := 3) rfl (by decide) rfl rfl ?_
    refine z_goto (q := 21) C dX10_years_170 (by decide) ?_
    exact z_sub (hK21 _ _ _ hF) [2, 3, 0] rfl
  · have hF := (if_neg c1).symm.trans hF
    refine z_aload_n (q := 147) C dX10_years_146 1 rfl rfl rfl ?_
    refine z_bipush (q := 149) C dX10_years_147 bp_100 rfl ?_
    obtain ⟨v4, h3, ev4, hF⟩ := z2_e hF
    refine z_callV (q := 152) (o := 0) (av := [.int (zi 100)]) (rest := [.ref (zα κ 5), .ref (zα κ 2), .ref (zα κ 7)]) (stk2 := [.int (zi v4), .ref (zα κ 5), .ref (zα κ 2), .ref (zα κ 7)]) C hR clX10 (zon C zo_0) kd_0 (M_fX10_draw (zlv hd rfl) ev4) mY_X10_draw q_815 (Nat.le_of_ble_eq_true rfl) dX10_years_149 rfl rfl rfl ?_
    refine z_aload_n (q := 153) C dX10_years_152 1 rfl rfl rfl ?_
    refine z_getf (q := 156) C clX10 (zon C zo_0) kd_0 (k := 14) (by decide) q_285 rfl (zfv_i kd_0 rfl) dX10_years_153 rfl ?_
    refine z_icmp_ge (tgt := 163) (q := 159) C dX10_years_156 (by decide) rfl (fun c5 => ?_) (fun c5 => ?_)
    · have hF := (if_pos c5).symm.trans hF
      refine z_iconst (q := 164) C dX10_years_163 rfl ?_
      obtain ⟨h6, eh6, hF⟩ := zb_e hF
      refine z_callV (q := 167) (o := 7) (av := [.ref (zα κ 2), .ref (zα κ 5), .int (zi 0)]) (rest := []) (stk2 := []) C hR clX8 (zon C zo_7) kd_7 (M_fX8_pass (zlv hd rfl) zo_7 kd_7 zo_2 kd_2 eh6) mY_X8_pass q_718 (Nat.le_of_ble_eq_true rfl) dX10_years_164 rfl rfl rfl ?_
      refine z_iinc (q := 170) (x := l4) C dX10_years_167 (j := 3) rfl (by decide) rfl rfl ?_
      refine z_goto (q := 21) C dX10_years_170 (by decide) ?_
      exact z_sub (hK21 _ _ _ hF) [2, 3, 0] rfl
    · have hF := (if_neg c5).symm.trans hF
      refine z_iconst (q := 160) C dX10_years_159 rfl ?_
      refine z_goto (q := 164) C dX10_years_160 (by decide) ?_
      obtain ⟨h7, eh7, hF⟩ := zb_e hF
      refine z_callV (q := 167) (o := 7) (av := [.ref (zα κ 2), .ref (zα κ 5), .int (zi 1)]) (rest := []) (stk2 := []) C hR clX8 (zon C zo_7) kd_7 (M_fX8_pass (zlv hd rfl) zo_7 kd_7 zo_2 kd_2 eh7) mY_X8_pass q_718 (Nat.le_of_ble_eq_true rfl) dX10_years_164 rfl rfl rfl ?_
      refine z_iinc (q := 170) (x := l4) C dX10_years_167 (j := 3) rfl (by decide) rfl rfl ?_
      refine z_goto (q := 21) C dX10_years_170 (by decide) ?_
      exact z_sub (hK21 _ _ _ hF) [2, 3, 0] rfl
set_option maxRecDepth 20000 in
set_option maxHeartbeats 4000000 in
theorem J_fX10_years_c41b {κ : zT} (C : zC κ RX10 cX10_years 6 (some .int)) {d : Nat} (hR : zR κ = zrm (d + 1)) (hd : 66 ≤ d + 1) {N : Nat} {r : Int × zH} (e1 : zrv κ = some (.int (zi r.1))) (e2 : zhf κ = r.2) {K21 : Int → Int → zH → Option (Int × zH)} (hK21 : ∀ (l1 : Int) (l4 : Int) (h : zH), K21 l1 l4 h = some r → Z κ h 21 [(0, .ref (zα κ 0)), (1, .int (zi l1)), (4, .int (zi l4))] []) {K41 : Int → Int → Int → zH → Option (Int × zH)} (hK41 : ∀ (l1 : Int) (l4 : Int) (l5 : Int) (h : zH), K41 l1 l4 l5 h = some r → Z κ h 41 [(0, .ref (zα κ 0)), (1, .int (zi l1)), (4, .int (zi l4)), (5, .int (zi l5))] []) (l1 : Int) (l4 : Int) (l5 : Int) (h : zH) (hF : fX10_years_c41b N K21 K41 l1 l4 l5 h = some r) : Z κ h 41 [(0, .ref (zα κ 0)), (1, .int (zi l1)), (4, .int (zi l4)), (5, .int (zi l5))] [] := by
  unfold fX10_years_c41b at hF
  refine z_iload (q := 43) C dX10_years_41 3 rfl rfl ?_
  refine z_aload_n (q := 44) C dX10_years_43 0 rfl rfl rfl ?_
  refine z_getf (q := 47) C clX10 (zon C zo_0) kd_0 (k := 1) (by decide) q_272 rfl (zfv_r kd_0 rfl fr_0_1) dX10_years_44 rfl ?_
  refine z_iconst (q := 48) C dX10_years_47 rfl ?_
  refine z_callV (q := 51) (o := 2) (av := [.int (zi 1)]) (rest := [.int (zi l5)]) (stk2 := [.int (zi (fX1_many 2 1 h)), .int (zi l5)]) C hR clX1 (zon C zo_2) kd_2 (M_fX1_many (zlv hd rfl) zo_2 kd_2 rfl) mY_X1_many q_620 (Nat.le_of_ble_eq_true rfl) dX10_years_48 rfl rfl rfl ?_
  refine z_icmp_ge (tgt := 102) (q := 54) C dX10_years_51 (by decide) rfl (fun c1 => ?_) (fun c1 => ?_)
  · have hF := (if_pos c1).symm.trans hF
    refine z_aload_n (q := 103) C dX10_years_102 0 rfl rfl rfl ?_
    refine z_getf (q := 106) C clX10 (zon C zo_0) kd_0 (k := 6) (by decide) q_277 rfl (zfv_r kd_0 rfl fr_0_6) dX10_years_103 rfl ?_
    refine z_callV (q := 109) (o := 7) (av := []) (rest := []) (stk2 := [.int (zi (fX8_time 7 h))]) C hR clX8 (zon C zo_7) kd_7 (M_fX8_time (zlv hd rfl) zo_7 kd_7 rfl) mY_X8_time q_648 (Nat.le_of_ble_eq_true rfl) dX10_years_106 rfl rfl rfl ?_
    refine z_aload_n (q := 110) C dX10_years_109 0 rfl rfl rfl ?_
    refine z_getf (q := 113) C clX10 (zon C zo_0) kd_0 (k := 1) (by decide) q_272 rfl (zfv_r kd_0 rfl fr_0_1) dX10_years_110 rfl ?_
    refine z_iconst (q := 114) C dX10_years_113 rfl ?_
    refine z_iconst (q := 115) C dX10_years_114 rfl ?_
    refine z_iconst (q := 116) C dX10_years_115 rfl ?_
    refine z_callV (q := 119) (o := 2) (av := [.int (zi 0), .int (zi 0), .int (zi 0)]) (rest := [.int (zi (fX8_time 7 h))]) (stk2 := [.int (zi (fX1_item 2 0 0 0 h)), .int (zi (fX8_time 7 h))]) C hR clX1 (zon C zo_2) kd_2 (M_fX1_item (zlv hd rfl) zo_2 kd_2 rfl) mY_X1_item q_629 (Nat.le_of_ble_eq_true rfl) dX10_years_116 rfl rfl rfl ?_
    refine z_icmp_ne (tgt := 126) (q := 122) C dX10_years_119 (by decide) rfl (fun c2 => ?_) (fun c2 => ?_)
    · have hF := (if_neg c2).symm.trans hF
      refine z_iconst (q := 127) C dX10_years_126 rfl ?_
      exact z_sub (J_fX10_years_c127 C hR hd e1 e2 hK21 _ _ _ _ hF) [0, 1, 2] rfl
    · have hF := (if_pos c2).symm.trans hF
      refine z_iconst (q := 123) C dX10_years_122 rfl ?_
      refine z_goto (q := 127) C dX10_years_123 (by decide) ?_
      exact z_sub (J_fX10_years_c127 C hR hd e1 e2 hK21 _ _ _ _ hF) [0, 1, 2] rfl
  · have hF := (if_neg c1).symm.trans hF
    refine z_aload_n (q := 55) C dX10_years_54 0 rfl rfl rfl ?_
    refine z_getf (q := 58) C clX10 (zon C zo_0) kd_0 (k := 6) (by decide) q_277 rfl (zfv_r kd_0 rfl fr_0_6) dX10_years_55 rfl ?_
    refine z_aload_n (q := 59) C dX10_years_58 0 rfl rfl rfl ?_
    refine z_getf (q := 62) C clX10 (zon C zo_0) kd_0 (k := 1) (by decide) q_272 rfl (zfv_r kd_0 rfl fr_0_1) dX10_years_59 rfl ?_
    refine z_iload (q := 64) C dX10_years_62 3 rfl rfl ?_
    refine z_callV (q := 67) (o := 7) (av := [.ref (zα κ 2), .int (zi l5)]) (rest := []) (stk2 := [.int (zi (fX8_isIdle 7 2 l5 h))]) C hR clX8 (zon C zo_7) kd_7 (M_fX8_isIdle (zlv hd rfl) zo_7 kd_7 zo_2 kd_2 rfl) mY_X8_isIdle q_774 (Nat.le_of_ble_eq_true rfl) dX10_years_64 rfl rfl rfl ?_
    refine z_if_eq (tgt := 96) (q := 70) C dX10_years_67 (by decide) rfl (fun c3 => ?_) (fun c3 => ?_)
    · have hF := (if_pos c3).symm.trans hF
      refine z_iinc (q := 99) (x := l5) C dX10_years_96 (j := 3) rfl (by decide) rfl rfl ?_
      refine z_goto (q := 41) C dX10_years_99 (by decide) ?_
      exact z_sub (hK41 _ _ _ _ hF) [1, 2, 3, 0] rfl
    · have hF := (if_neg c3).symm.trans hF
      refine z_aload_n (q := 71) C dX10_years_70 0 rfl rfl rfl ?_
      refine z_bipush (q := 73) C dX10_years_71 bp_10 rfl ?_
      obtain ⟨v5, h4, ev5, hF⟩ := z2_e hF
      refine z_callV (q := 76) (o := 0) (av := [.int (zi 10)]) (rest := []) (stk2 := [.int (zi v5)]) C hR clX10 (zon C zo_0) kd_0 (M_fX10_draw (zlv hd rfl) ev5) mY_X10_draw q_815 (Nat.le_of_ble_eq_true rfl) dX10_years_73 rfl rfl rfl ?_
      refine z_aload_n (q := 77) C dX10_years_76 0 rfl rfl rfl ?_
      refine z_getf (q := 80) C clX10 (zon C zo_0) kd_0 (k := 1) (by decide) q_272 rfl (zfv_r kd_0 rfl fr_0_1) dX10_years_77 rfl ?_
      refine z_iconst (q := 81) C dX10_years_80 rfl ?_
      refine z_iload (q := 83) C dX10_years_81 3 rfl rfl ?_
      refine z_iconst (q := 84) C dX10_years_83 rfl ?_
      refine z_callV (q := 87) (o := 2) (av := [.int (zi 1), .int (zi l5), .int (zi 2)]) (rest := [.int (zi v5)]) (stk2 := [.int (zi (fX1_item 2 1 l5 2 h4)), .int (zi v5)]) C hR clX1 (zon C zo_2) kd_2 (M_fX1_item (zlv hd rfl) zo_2 kd_2 rfl) mY_X1_item q_629 (Nat.le_of_ble_eq_true rfl) dX10_years_84 rfl rfl rfl ?_
      refine z_icmp_ge (tgt := 96) (q := 90) C dX10_years_87 (by decide) rfl (fun c6 => ?_) (fun c6 => ?_)
      · have hF := (if_pos c6).symm.trans hF
        refine z_iinc (q := 99) (x := l5) C dX10_years_96 (j := 3) rfl (by decide) rfl rfl ?_
        refine z_goto (q := 41) C dX10_years_99 (by decide) ?_
        exact z_sub (hK41 _ _ _ _ hF) [1, 2, 3, 0] rfl
      · have hF := (if_neg c6).symm.trans hF
        refine z_aload_n (q := 91) C dX10_years_90 0 rfl rfl rfl ?_
        refine z_iload (q := 93) C dX10_years_91 3 rfl rfl ?_
        obtain ⟨h7, eh7, hF⟩ := zb_e hF
        refine z_callV (q := 96) (o := 0) (av := [.int (zi l5)]) (rest := []) (stk2 := []) C hR clX10 (zon C zo_0) kd_0 (M_fX10_fileSoonest (zlv hd rfl) eh7) mY_X10_fileSoonest q_778 (Nat.le_of_ble_eq_true rfl) dX10_years_93 rfl rfl rfl ?_
        refine z_iinc (q := 99) (x := l5) C dX10_years_96 (j := 3) rfl (by decide) rfl rfl ?_
        refine z_goto (q := 41) C dX10_years_99 (by decide) ?_
        exact z_sub (hK41 _ _ _ _ hF) [1, 2, 3, 0] rfl
set_option maxRecDepth 20000 in
set_option maxHeartbeats 4000000 in
theorem J_fX10_years_c41 {κ : zT} (C : zC κ RX10 cX10_years 6 (some .int)) {d : Nat} (hR : zR κ = zrm (d + 1)) (hd : 66 ≤ d + 1) {N : Nat} {r : Int × zH} (e1 : zrv κ = some (.int (zi r.1))) (e2 : zhf κ = r.2) {K21 : Int → Int → zH → Option (Int × zH)} (hK21 : ∀ (l1 : Int) (l4 : Int) (h : zH), K21 l1 l4 h = some r → Z κ h 21 [(0, .ref (zα κ 0)), (1, .int (zi l1)), (4, .int (zi l4))] []) : ∀ (k : Nat) (l1 : Int) (l4 : Int) (l5 : Int) (h : zH), fX10_years_c41 N K21 k l1 l4 l5 h = some r → Z κ h 41 [(0, .ref (zα κ 0)), (1, .int (zi l1)), (4, .int (zi l4)), (5, .int (zi l5))] [] := by
  intro k
  induction k with
  | zero => intro l1 l4 l5 h hF; cases hF
  | succ k ih => intro l1 l4 l5 h hF; exact J_fX10_years_c41b C hR hd e1 e2 hK21 ih l1 l4 l5 h hF
set_option maxRecDepth 20000 in
set_option maxHeartbeats 4000000 in
theorem J_fX10_years_c21b {κ : zT} (C : zC κ RX10 cX10_years 6 (some .int)) {d : Nat} (hR : zR κ = zrm (d + 1)) (hd : 66 ≤ d + 1) {N : Nat} {r : Int × zH} (e1 : zrv κ = some (.int (zi r.1))) (e2 : zhf κ = r.2) {K21 : Int → Int → zH → Option (Int × zH)} (hK21 : ∀ (l1 : Int) (l4 : Int) (h : zH), K21 l1 l4 h = some r → Z κ h 21 [(0, .ref (zα κ 0)), (1, .int (zi l1)), (4, .int (zi l4))] []) (l1 : Int) (l4 : Int) (h : zH) (hF : fX10_years_c21b N K21 l1 l4 h = some r) : Z κ h 21 [(0, .ref (zα κ 0)), (1, .int (zi l1)), (4, .int (zi l4))] [] := by
  unfold fX10_years_c21b at hF
  refine z_iload (q := 23) C dX10_years_21 2 rfl rfl ?_
  refine z_iload_n (q := 24) C dX10_years_23 1 rfl rfl rfl ?_
  refine z_icmp_ge (tgt := 173) (q := 27) C dX10_years_24 (by decide) rfl (fun c1 => ?_) (fun c1 => ?_)
  · have hF := (if_pos c1).symm.trans hF
    refine z_aload_n (q := 174) C dX10_years_173 0 rfl rfl rfl ?_
    refine z_getf (q := 177) C clX10 (zon C zo_0) kd_0 (k := 6) (by decide) q_277 rfl (zfv_r kd_0 rfl fr_0_6) dX10_years_174 rfl ?_
    refine z_callV (q := 180) (o := 7) (av := []) (rest := []) (stk2 := [.int (zi (fX8_hour 7 h))]) C hR clX8 (zon C zo_7) kd_7 (M_fX8_hour (zlv hd rfl) zo_7 kd_7 rfl) mY_X8_hour q_717 (Nat.le_of_ble_eq_true rfl) dX10_years_177 rfl rfl rfl ?_
    have hF := Option.some.inj hF
    subst hF
    exact z_iret C e1 e2 dX10_years_180
  · have hF := (if_neg c1).symm.trans hF
    refine z_aload_n (q := 28) C dX10_years_27 0 rfl rfl rfl ?_
    refine z_getf (q := 31) C clX10 (zon C zo_0) kd_0 (k := 9) (by decide) q_280 rfl (zfv_r kd_0 rfl fr_0_9) dX10_years_28 rfl ?_
    refine z_aload_n (q := 32) C dX10_years_31 0 rfl rfl rfl ?_
    refine z_getf (q := 35) C clX10 (zon C zo_0) kd_0 (k := 6) (by decide) q_277 rfl (zfv_r kd_0 rfl fr_0_6) dX10_years_32 rfl ?_
    obtain ⟨h2, eh2, hF⟩ := zb_e hF
    refine z_callV (q := 38) (o := 10) (av := [.ref (zα κ 7)]) (rest := []) (stk2 := []) C hR clX0 (zon C zo_10) kd_10 (M_fX0_keep (zlv hd rfl) zo_7 kd_7 eh2) mY_X0_keep q_686 (Nat.le_of_ble_eq_true rfl) dX10_years_35 rfl rfl rfl ?_
    refine z_iconst (q := 39) C dX10_years_38 rfl ?_
    refine z_istore (q := 41) C dX10_years_39 (by decide) rfl rfl ?_
    exact z_sub (J_fX10_years_c41 C hR hd e1 e2 hK21 N _ _ _ _ hF) [1, 2, 3, 0] rfl
set_option maxRecDepth 20000 in
set_option maxHeartbeats 4000000 in
theorem J_fX10_years_c21 {κ : zT} (C : zC κ RX10 cX10_years 6 (some .int)) {d : Nat} (hR : zR κ = zrm (d + 1)) (hd : 66 ≤ d + 1) {N : Nat} {r : Int × zH} (e1 : zrv κ = some (.int (zi r.1))) (e2 : zhf κ = r.2) : ∀ (k : Nat) (l1 : Int) (l4 : Int) (h : zH), fX10_years_c21 N k l1 l4 h = some r → Z κ h 21 [(0, .ref (zα κ 0)), (1, .int (zi l1)), (4, .int (zi l4))] [] := by
  intro k
  induction k with
  | zero => intro l1 l4 h hF; cases hF
  | succ k ih => intro l1 l4 h hF; exact J_fX10_years_c21b C hR hd e1 e2 ih l1 l4 h hF
set_option maxRecDepth 20000 in
set_option maxHeartbeats 4000000 in
theorem J_fX10_years {κ : zT} (C : zC κ RX10 cX10_years 6 (some .int)) {d : Nat} (hR : zR κ = zrm (d + 1)) (hd : 66 ≤ d + 1) {N : Nat} {r : Int × zH} (e1 : zrv κ = some (.int (zi r.1))) (e2 : zhf κ = r.2) {a1 : Int} {a2 : Int} {h : zH} (hF : fX10_years N a1 a2 h = some r) : Z κ h 0 [(0, .ref (zα κ 0)), (1, .int (zi a1)), (2, .long (zl a2))] [] := by
  unfold fX10_years at hF
  refine z_aload_n (q := 1) C dX10_years_0 0 rfl rfl rfl ?_
  refine z_iload_n (q := 2) C dX10_years_1 1 rfl rfl rfl ?_
  refine z_sipush (q := 5) C dX10_years_2 sp_240 rfl ?_
  refine z_callV (q := 8) (o := 0) (av := [.int (zi a1), .int (zi 240)]) (rest := []) (stk2 := [.int (zi (fX10_canPass a1 240 h))]) C hR clX10 (zon C zo_0) kd_0 (M_fX10_canPass (zlv hd rfl) rfl) mY_X10_canPass q_713 (Nat.le_of_ble_eq_true rfl) dX10_years_5 rfl rfl rfl ?_
  refine z_if_ne (tgt := 13) (q := 11) C dX10_years_8 (by decide) rfl (fun c1 => ?_) (fun c1 => ?_)
  · have hF := (if_neg c1).symm.trans hF
    refine z_aload_n (q := 14) C dX10_years_13 0 rfl rfl rfl ?_
    refine z_lload_n (q := 15) C dX10_years_14 2 rfl rfl rfl ?_
    obtain ⟨h2, eh2, hF⟩ := zlet_e hF
    refine z_putf (q := 18) C clX10 (zon C zo_0) kd_0 (k := 15) (x := a2) (by decide) q_286 rfl rfl rfl rfl (((zfv_l kd_0 rfl)).trans (by rw [if_pos rfl])) dX10_years_15 rfl eh2 ?_
    refine z_iconst (q := 19) C dX10_years_18 rfl ?_
    refine z_istore (q := 21) C dX10_years_19 (by decide) rfl rfl ?_
    exact z_sub (J_fX10_years_c21 C hR hd e1 e2 N _ _ _ hF) [1, 2, 0] rfl
  · have hF := (if_pos c1).symm.trans hF
    refine z_iconst (q := 12) C dX10_years_11 rfl ?_
    have hF := Option.some.inj hF
    subst hF
    exact z_iret C e1 e2 dX10_years_12
set_option maxRecDepth 20000 in
set_option maxHeartbeats 4000000 in
theorem M_fX10_years {l : Launch} {D : va_G} {cy : ClassId} {α : Nat → Nat} {n : Nat} {σ : zSg} {d : Nat} (hd : 66 ≤ d) {N : Nat} {a1 : Int} {a2 : Int} {h : zH} {r : Int} {g : zH} (hF : fX10_years N a1 a2 h = some (r, g)) : zMet l yX10_years cX10_years 6 (some .int) (zrm d) D cy α n σ [.ref (α 0), .int (zi a1), .long (zl a2)] h (some (.int (zi r))) g := by
  obtain ⟨d, rfl⟩ : ∃ e, d = e + 1 := ⟨d - 1, by omega⟩
  refine z_met (by decide +kernel) (Nat.le_of_ble_eq_true rfl) (fun κ k1 k2 k3 k4 k5 k6 k7 k8 k9 C => ?_)
  subst k1 k3 k4 k5 k6 k7
  exact J_fX10_years C k2 hd k8 k9 hF
set_option maxRecDepth 20000 in
set_option maxHeartbeats 4000000 in
theorem J_fX0_restore {κ : zT} (C : zC κ RX0 cX0_restore 2 (some .int)) {d : Nat} (hR : zR κ = zrm (d + 1)) (hd : 2 ≤ d + 1) {o1 : Nat} (ho1 : o1 < zN) (hd1 : zkd o1 = 8) {r : Int × zH} (e1 : zrv κ = some (.int (zi r.1))) (e2 : zhf κ = r.2) {h : zH} (hF : fX0_restore o1 h = some r) : Z κ h 0 [(0, .ref (zα κ 10)), (1, .ref (zα κ o1))] [] := by
  unfold fX0_restore at hF
  refine z_aload_n (q := 1) C dX0_restore_0 0 rfl rfl rfl ?_
  refine z_getf (q := 4) C clX0 (zon C zo_10) kd_10 (k := 0) (by decide) q_204 rfl (zfv_i kd_10 rfl) dX0_restore_1 rfl ?_
  refine z_iconst (q := 5) C dX0_restore_4 rfl ?_
  refine z_icmp_ge (tgt := 10) (q := 8) C dX0_restore_5 (by decide) rfl (fun c1 => ?_) (fun c1 => ?_)
  · have hF := (if_pos c1).symm.trans hF
    refine z_aload_n (q := 11) C dX0_restore_10 0 rfl rfl rfl ?_
    refine z_getf (q := 14) C clX0 (zon C zo_10) kd_10 (k := 1) (by decide) q_206 rfl (zfv_r kd_10 rfl fr_10_1) dX0_restore_11 rfl ?_
    refine z_aload_n (q := 15) C dX0_restore_14 0 rfl rfl rfl ?_
    refine z_getf (q := 18) C clX0 (zon C zo_10) kd_10 (k := 2) (by decide) q_207 rfl (zfv_i kd_10 rfl) dX0_restore_15 rfl ?_
    refine z_bipush (q := 20) C dX0_restore_18 bp_40 rfl ?_
    obtain ⟨v2, ev2, hF⟩ := zb_e hF
    refine z_callS (q := 23) (av := [.int (zi (h 10 2)), .int (zi 40)]) (rest := [.ref (zα κ 42)]) (stk2 := [.int (zi v2), .ref (zα κ 42)]) C hR (M_fJ9_floorMod_7cf53 (zlv hd rfl) ev2) mY_J9_floorMod_7cf53 q_690 (Nat.le_of_ble_eq_true rfl) dX0_restore_20 rfl rfl rfl ?_
    refine z_bipush (q := 25) C dX0_restore_23 bp_51 rfl ?_
    refine z_imul (q := 26) C dX0_restore_25 rfl ?_
    refine z_aload_n (q := 27) C dX0_restore_26 1 rfl rfl rfl ?_
    refine z_getN (q := 30) C clX8 (zon C ho1) hd1 (k := 0) (by decide) q_185 rfl (zfv_r hd1 rfl rfl) dX0_restore_27 rfl ?_
    refine z_iconst (q := 31) C dX0_restore_30 rfl ?_
    refine z_bipush (q := 33) C dX0_restore_31 bp_51 rfl ?_
    obtain ⟨g4, hF⟩ := zif_none hF
    obtain ⟨h3, eh3, hF⟩ := zlet_e hF
    refine z_copy (q := 36) (o := 42) (o2 := zfr o1 0) C hR (zon C zo_42) kd_42 (zon C (frl_8_0 ho1 hd1)) (frk_8_0 ho1 hd1) g4.1 g4.2.1 g4.2.2.1 (by rw [ln_42]; exact g4.2.2.2.1) (by rw [(frn_8_0 ho1 hd1)]; exact g4.2.2.2.2) q_693 (Nat.le_of_ble_eq_true rfl) dX0_restore_33 rfl eh3 ?_
    refine z_aload_n (q := 37) C dX0_restore_36 0 rfl rfl rfl ?_
    refine z_dup (q := 38) C dX0_restore_37 rfl rfl ?_
    refine z_getf (q := 41) C clX0 (zon C zo_10) kd_10 (k := 2) (by decide) q_207 rfl (zfv_i kd_10 rfl) dX0_restore_38 rfl ?_
    refine z_iconst (q := 42) C dX0_restore_41 rfl ?_
    refine z_isub (q := 43) C dX0_restore_42 rfl ?_
    obtain ⟨h5, eh5, hF⟩ := zlet_e hF
    refine z_putf (q := 46) C clX0 (zon C zo_10) kd_10 (k := 2) (x := (h3 10 2) - 1) (by decide) q_207 rfl rfl rfl rfl (((zfv_i kd_10 rfl)).trans (by rw [if_pos rfl])) dX0_restore_43 rfl eh5 ?_
    refine z_aload_n (q := 47) C dX0_restore_46 0 rfl rfl rfl ?_
    refine z_dup (q := 48) C dX0_restore_47 rfl rfl ?_
    refine z_getf (q := 51) C clX0 (zon C zo_10) kd_10 (k := 0) (by decide) q_204 rfl (zfv_i kd_10 rfl) dX0_restore_48 rfl ?_
    refine z_iconst (q := 52) C dX0_restore_51 rfl ?_
    refine z_isub (q := 53) C dX0_restore_52 rfl ?_
    obtain ⟨h6, eh6, hF⟩ := zlet_e hF
    refine z_putf (q := 56) C clX0 (zon C zo_10) kd_10 (k := 0) (x := (h5 10 0) - 1) (by decide) q_204 rfl rfl rfl rfl (((zfv_i kd_10 rfl)).trans (by rw [if_pos rfl])) dX0_restore_53 rfl eh6 ?_
    refine z_aload_n (q := 57) C dX0_restore_56 0 rfl rfl rfl ?_
    refine z_getf (q := 60) C clX0 (zon C zo_10) kd_10 (k := 0) (by decide) q_204 rfl (zfv_i kd_10 rfl) dX0_restore_57 rfl ?_
    have hF := Option.some.inj hF
    subst hF
    exact z_iret C e1 e2 dX0_restore_60
  · have hF := (if_neg c1).symm.trans hF
    refine z_iconst (q := 9) C dX0_restore_8 rfl ?_
    have hF := Option.some.inj hF
    subst hF
    exact z_iret C e1 e2 dX0_restore_9
set_option maxRecDepth 20000 in
set_option maxHeartbeats 4000000 in
theorem M_fX0_restore {l : Launch} {D : va_G} {cy : ClassId} {α : Nat → Nat} {n : Nat} {σ : zSg} {d : Nat} (hd : 2 ≤ d) {o1 : Nat} (ho1 : o1 < zN) (hd1 : zkd o1 = 8) {h : zH} {r : Int} {g : zH} (hF : fX0_restore o1 h = some (r, g)) : zMet l yX0_restore cX0_restore 2 (some .int) (zrm d) D cy α n σ [.ref (α 10), .ref (α o1)] h (some (.int (zi r))) g := by
  obtain ⟨d, rfl⟩ : ∃ e, d = e + 1 := ⟨d - 1, by omega⟩
  refine z_met (by decide +kernel) (Nat.le_of_ble_eq_true rfl) (fun κ k1 k2 k3 k4 k5 k6 k7 k8 k9 C => ?_)
  subst k1 k3 k4 k5 k6 k7
  exact J_fX0_restore C k2 hd ho1 hd1 k8 k9 hF
set_option maxRecDepth 20000 in
set_option maxHeartbeats 4000000 in
theorem J_fX10_undo {κ : zT} (C : zC κ RX10 cX10_undo 1 (some .int)) {d : Nat} (hR : zR κ = zrm (d + 1)) (hd : 3 ≤ d + 1) {r : Int × zH} (e1 : zrv κ = some (.int (zi r.1))) (e2 : zhf κ = r.2) {h : zH} (hF : fX10_undo h = some r) : Z κ h 0 [(0, .ref (zα κ 0))] [] := by
  unfold fX10_undo at hF
  refine z_aload_n (q := 1) C dX10_undo_0 0 rfl rfl rfl ?_
  refine z_getf (q := 4) C clX10 (zon C zo_0) kd_0 (k := 9) (by decide) q_280 rfl (zfv_r kd_0 rfl fr_0_9) dX10_undo_1 rfl ?_
  refine z_aload_n (q := 5) C dX10_undo_4 0 rfl rfl rfl ?_
  refine z_getf (q := 8) C clX10 (zon C zo_0) kd_0 (k := 6) (by decide) q_277 rfl (zfv_r kd_0 rfl fr_0_6) dX10_undo_5 rfl ?_
  obtain ⟨v2, h1, ev2, hF⟩ := z2_e hF
  refine z_callV (q := 11) (o := 10) (av := [.ref (zα κ 7)]) (rest := []) (stk2 := [.int (zi v2)]) C hR clX0 (zon C zo_10) kd_10 (M_fX0_restore (zlv hd rfl) zo_7 kd_7 ev2) mY_X0_restore q_825 (Nat.le_of_ble_eq_true rfl) dX10_undo_8 rfl rfl rfl ?_
  have hF := Option.some.inj hF
  subst hF
  exact z_iret C e1 e2 dX10_undo_11
set_option maxRecDepth 20000 in
set_option maxHeartbeats 4000000 in
theorem M_fX10_undo {l : Launch} {D : va_G} {cy : ClassId} {α : Nat → Nat} {n : Nat} {σ : zSg} {d : Nat} (hd : 3 ≤ d) {h : zH} {r : Int} {g : zH} (hF : fX10_undo h = some (r, g)) : zMet l yX10_undo cX10_undo 1 (some .int) (zrm d) D cy α n σ [.ref (α 0)] h (some (.int (zi r))) g := by
  obtain ⟨d, rfl⟩ : ∃ e, d = e + 1 := ⟨d - 1, by omega⟩
  refine z_met (by decide +kernel) (Nat.le_of_ble_eq_true rfl) (fun κ k1 k2 k3 k4 k5 k6 k7 k8 k9 C => ?_)
  subst k1 k3 k4 k5 k6 k7
  exact J_fX10_undo C k2 hd k8 k9 hF
set_option maxRecDepth 20000 in
set_option maxHeartbeats 4000000 in
theorem J_fX8_logLength {κ : zT} (C : zC κ RX8 cX8_logLength 1 (some .int)) {d : Nat} (hR : zR κ = zrm (d + 1)) (hd : 2 ≤ d + 1) {o0 : Nat} (ho0 : o0 < zN) (hd0 : zkd o0 = 8) {h : zH} {r : Int} (e1 : zrv κ = some (.int (zi r))) (e2 : zhf κ = h) (hF : fX8_logLength o0 h = r) : Z κ h 0 [(0, .ref (zα κ o0))] [] := by
  unfold fX8_logLength at hF
  refine z_aload_n (q := 1) C dX8_logLength_0 0 rfl rfl rfl ?_
  refine z_getf (q := 4) C clX8 (zon C ho0) hd0 (k := 0) (by decide) q_184 rfl (zfv_r hd0 rfl rfl) dX8_logLength_1 rfl ?_
  refine z_bipush (q := 6) C dX8_logLength_4 bp_50 rfl ?_
  refine z_ialdc (q := 7) (j := 50) C (zon C (frl_8_0 ho0 hd0)) (frk_8_0 ho0 hd0) zwk_50 (by rw [(frn_8_0 ho0 hd0)]; decide) dX8_logLength_6 rfl ?_
  refine z_bipush (q := 9) C dX8_logLength_7 bp_60 rfl ?_
  refine z_callS (q := 12) (av := [.int (zi (h (zfr o0 0) 50)), .int (zi 60)]) (rest := []) (stk2 := [.int (zi (fJ9_min_7cf53 (h (zfr o0 0) 50) 60))]) C hR (M_fJ9_min_7cf53 (zlv hd rfl) rfl) mY_J9_min_7cf53 q_700 (Nat.le_of_ble_eq_true rfl) dX8_logLength_9 rfl rfl rfl ?_
  subst hF
  exact z_iret C e1 e2 dX8_logLength_12
set_option maxRecDepth 20000 in
set_option maxHeartbeats 4000000 in
theorem M_fX8_logLength {l : Launch} {D : va_G} {cy : ClassId} {α : Nat → Nat} {n : Nat} {σ : zSg} {d : Nat} (hd : 2 ≤ d) {o0 : Nat} (ho0 : o0 < zN) (hd0 : zkd o0 = 8) {h : zH} {r : Int} (hF : fX8_logLength o0 h = r) : zMet l yX8_logLength cX8_logLength 1 (some .int) (zrm d) D cy α n σ [.ref (α o0)] h (some (.int (zi r))) h := by
  obtain ⟨d, rfl⟩ : ∃ e, d = e + 1 := ⟨d - 1, by omega⟩
  refine z_met (by decide +kernel) (Nat.le_of_ble_eq_true rfl) (fun κ k1 k2 k3 k4 k5 k6 k7 k8 k9 C => ?_)
  subst k1 k3 k4 k5 k6 k7
  exact J_fX8_logLength C k2 hd ho0 hd0 k8 k9 hF
set_option maxRecDepth 20000 in
set_option maxHeartbeats 4000000 in
theorem J_fX8_whoHadLight {κ : zT} (C : zC κ RX8 cX8_whoHadLight 2 (some .int)) {d : Nat} (hR : zR κ = zrm (d + 1)) (hd : 3 ≤ d + 1) {o0 : Nat} (ho0 : o0 < zN) (hd0 : zkd o0 = 8) {h : zH} {r : Int} (e1 : zrv κ = some (.int (zi r))) (e2 : zhf κ = h) {a1 : Int} (hF : fX8_whoHadLight o0 a1 h = r) : Z κ h 0 [(0, .ref (zα κ o0)), (1, .int (zi a1))] [] := by
  unfold fX8_whoHadLight at hF
  refine z_aload_n (q := 1) C dX8_whoHadLight_0 0 rfl rfl rfl ?_
  refine z_getf (q := 4) C clX8 (zon C ho0) hd0 (k := 1) (by decide) q_186 rfl (zfv_r hd0 rfl rfl) dX8_whoHadLight_1 rfl ?_
  refine z_aload_n (q := 5) C dX8_whoHadLight_4 0 rfl rfl rfl ?_
  refine z_getf (q := 8) C clX8 (zon C ho0) hd0 (k := 0) (by decide) q_184 rfl (zfv_r hd0 rfl rfl) dX8_whoHadLight_5 rfl ?_
  refine z_bipush (q := 10) C dX8_whoHadLight_8 bp_50 rfl ?_
  refine z_ialdc (q := 11) (j := 50) C (zon C (frl_8_0 ho0 hd0)) (frk_8_0 ho0 hd0) zwk_50 (by rw [(frn_8_0 ho0 hd0)]; decide) dX8_whoHadLight_10 rfl ?_
  refine z_aload_n (q := 12) C dX8_whoHadLight_11 0 rfl rfl rfl ?_
  refine z_callV (q := 15) (o := o0) (av := []) (rest := [.int (zi (h (zfr o0 0) 50)), .ref (zα κ (zfr o0 1))]) (stk2 := [.int (zi (fX8_logLength o0 h)), .int (zi (h (zfr o0 0) 50)), .ref (zα κ (zfr o0 1))]) C hR clX8 (zon C ho0) hd0 (M_fX8_logLength (zlv hd rfl) ho0 hd0 rfl) mY_X8_logLength q_841 (Nat.le_of_ble_eq_true rfl) dX8_whoHadLight_12 rfl rfl rfl ?_
  refine z_isub (q := 16) C dX8_whoHadLight_15 rfl ?_
  refine z_iload_n (q := 17) C dX8_whoHadLight_16 1 rfl rfl rfl ?_
  refine z_iadd (q := 18) C dX8_whoHadLight_17 rfl ?_
  obtain ⟨v1, ev1, hF⟩ := zlet_e hF
  refine z_callSN (q := 21) (av := [.ref (zα κ (zfr o0 1)), .int (zi (((h (zfr o0 0) 50) - (fX8_logLength o0 h)) + a1))]) (rest := []) (stk2 := [.int (zi v1)]) C hR (M_fX10_at (zlv hd rfl) (frl_8_1 ho0 hd0) (frk_8_1 ho0 hd0) ev1.symm) mY_X10_at q_643 (Nat.le_of_ble_eq_true rfl) dX8_whoHadLight_18 rfl rfl rfl ?_
  refine z_bipush (q := 23) C dX8_whoHadLight_21 bp_63 rfl ?_
  refine z_iand (q := 24) C dX8_whoHadLight_23 rfl ?_
  subst hF
  exact z_iret C e1 e2 dX8_whoHadLight_24
set_option maxRecDepth 20000 in
set_option maxHeartbeats 4000000 in
theorem M_fX8_whoHadLight {l : Launch} {D : va_G} {cy : ClassId} {α : Nat → Nat} {n : Nat} {σ : zSg} {d : Nat} (hd : 3 ≤ d) {o0 : Nat} (ho0 : o0 < zN) (hd0 : zkd o0 = 8) {a1 : Int} {h : zH} {r : Int} (hF : fX8_whoHadLight o0 a1 h = r) : zMet l yX8_whoHadLight cX8_whoHadLight 2 (some .int) (zrm d) D cy α n σ [.ref (α o0), .int (zi a1)] h (some (.int (zi r))) h := by
  obtain ⟨d, rfl⟩ : ∃ e, d = e + 1 := ⟨d - 1, by omega⟩
  refine z_met (by decide +kernel) (Nat.le_of_ble_eq_true rfl) (fun κ k1 k2 k3 k4 k5 k6 k7 k8 k9 C => ?_)
  subst k1 k3 k4 k5 k6 k7
  exact J_fX8_whoHadLight C k2 hd ho0 hd0 k8 k9 hF
set_option maxRecDepth 20000 in
set_option maxHeartbeats 4000000 in
theorem J_fX8_hoursOfLight {κ : zT} (C : zC κ RX8 cX8_hoursOfLight 2 (some .int)) {d : Nat} (hR : zR κ = zrm (d + 1)) (hd : 3 ≤ d + 1) {o0 : Nat} (ho0 : o0 < zN) (hd0 : zkd o0 = 8) {h : zH} {r : Int} (e1 : zrv κ = some (.int (zi r))) (e2 : zhf κ = h) {a1 : Int} (hF : fX8_hoursOfLight o0 a1 h = r) : Z κ h 0 [(0, .ref (zα κ o0)), (1, .int (zi a1))] [] := by
  unfold fX8_hoursOfLight at hF
  refine z_aload_n (q := 1) C dX8_hoursOfLight_0 0 rfl rfl rfl ?_
  refine z_getf (q := 4) C clX8 (zon C ho0) hd0 (k := 1) (by decide) q_186 rfl (zfv_r hd0 rfl rfl) dX8_hoursOfLight_1 rfl ?_
  refine z_aload_n (q := 5) C dX8_hoursOfLight_4 0 rfl rfl rfl ?_
  refine z_getf (q := 8) C clX8 (zon C ho0) hd0 (k := 0) (by decide) q_184 rfl (zfv_r hd0 rfl rfl) dX8_hoursOfLight_5 rfl ?_
  refine z_bipush (q := 10) C dX8_hoursOfLight_8 bp_50 rfl ?_
  refine z_ialdc (q := 11) (j := 50) C (zon C (frl_8_0 ho0 hd0)) (frk_8_0 ho0 hd0) zwk_50 (by rw [(frn_8_0 ho0 hd0)]; decide) dX8_hoursOfLight_10 rfl ?_
  refine z_aload_n (q := 12) C dX8_hoursOfLight_11 0 rfl rfl rfl ?_
  refine z_callV (q := 15) (o := o0) (av := []) (rest := [.int (zi (h (zfr o0 0) 50)), .ref (zα κ (zfr o0 1))]) (stk2 := [.int (zi (fX8_logLength o0 h)), .int (zi (h (zfr o0 0) 50)), .ref (zα κ (zfr o0 1))]) C hR clX8 (zon C ho0) hd0 (M_fX8_logLength (zlv hd rfl) ho0 hd0 rfl) mY_X8_logLength q_841 (Nat.le_of_ble_eq_true rfl) dX8_hoursOfLight_12 rfl rfl rfl ?_
  refine z_isub (q := 16) C dX8_hoursOfLight_15 rfl ?_
  refine z_iload_n (q := 17) C dX8_hoursOfLight_16 1 rfl rfl rfl ?_
  refine z_iadd (q := 18) C dX8_hoursOfLight_17 rfl ?_
  obtain ⟨v1, ev1, hF⟩ := zlet_e hF
  refine z_callSN (q := 21) (av := [.ref (zα κ (zfr o0 1)), .int (zi (((h (zfr o0 0) 50) - (fX8_logLength o0 h)) + a1))]) (rest := []) (stk2 := [.int (zi v1)]) C hR (M_fX10_at (zlv hd rfl) (frl_8_1 ho0 hd0) (frk_8_1 ho0 hd0) ev1.symm) mY_X10_at q_643 (Nat.le_of_ble_eq_true rfl) dX8_hoursOfLight_18 rfl rfl rfl ?_
  refine z_bipush (q := 23) C dX8_hoursOfLight_21 bp_6 rfl ?_
  refine z_ishr (q := 24) C dX8_hoursOfLight_23 rfl ?_
  subst hF
  exact z_iret C e1 e2 dX8_hoursOfLight_24
set_option maxRecDepth 20000 in
set_option maxHeartbeats 4000000 in
theorem M_fX8_hoursOfLight {l : Launch} {D : va_G} {cy : ClassId} {α : Nat → Nat} {n : Nat} {σ : zSg} {d : Nat} (hd : 3 ≤ d) {o0 : Nat} (ho0 : o0 < zN) (hd0 : zkd o0 = 8) {a1 : Int} {h : zH} {r : Int} (hF : fX8_hoursOfLight o0 a1 h = r) : zMet l yX8_hoursOfLight cX8_hoursOfLight 2 (some .int) (zrm d) D cy α n σ [.ref (α o0), .int (zi a1)] h (some (.int (zi r))) h := by
  obtain ⟨d, rfl⟩ : ∃ e, d = e + 1 := ⟨d - 1, by omega⟩
  refine z_met (by decide +kernel) (Nat.le_of_ble_eq_true rfl) (fun κ k1 k2 k3 k4 k5 k6 k7 k8 k9 C => ?_)
  subst k1 k3 k4 k5 k6 k7
  exact J_fX8_hoursOfLight C k2 hd ho0 hd0 k8 k9 hF
set_option maxRecDepth 20000 in
set_option maxHeartbeats 4000000 in
theorem J_fX10_log {κ : zT} (C : zC κ RX10 cX10_log 4 (some .int)) {d : Nat} (hR : zR κ = zrm (d + 1)) (hd : 4 ≤ d + 1) {h : zH} {r : Int} (e1 : zrv κ = some (.int (zi r))) (e2 : zhf κ = h) {a1 : Int} {a2 : Int} (hF : fX10_log a1 a2 h = r) : Z κ h 0 [(0, .ref (zα κ 0)), (1, .int (zi a1)), (2, .int (zi a2))] [] := by
  unfold fX10_log at hF
  refine z_iload_n (q := 1) C dX10_log_0 1 rfl rfl rfl ?_
  refine z_if_lt (tgt := 24) (q := 4) C dX10_log_1 (by decide) rfl (fun c1 => ?_) (fun c1 => ?_)
  · have hF := (if_pos c1).symm.trans hF
    refine z_iconst (q := 25) C dX10_log_24 rfl ?_
    subst hF
    exact z_iret C e1 e2 dX10_log_25
  · have hF := (if_neg c1).symm.trans hF
    refine z_iload_n (q := 5) C dX10_log_4 1 rfl rfl rfl ?_
    refine z_aload_n (q := 6) C dX10_log_5 0 rfl rfl rfl ?_
    refine z_getf (q := 9) C clX10 (zon C zo_0) kd_0 (k := 6) (by decide) q_277 rfl (zfv_r kd_0 rfl fr_0_6) dX10_log_6 rfl ?_
    refine z_callV (q := 12) (o := 7) (av := []) (rest := [.int (zi a1)]) (stk2 := [.int (zi (fX8_logLength 7 h)), .int (zi a1)]) C hR clX8 (zon C zo_7) kd_7 (M_fX8_logLength (zlv hd rfl) zo_7 kd_7 rfl) mY_X8_logLength q_833 (Nat.le_of_ble_eq_true rfl) dX10_log_9 rfl rfl rfl ?_
    refine z_icmp_ge (tgt := 24) (q := 15) C dX10_log_12 (by decide) rfl (fun c2 => ?_) (fun c2 => ?_)
    · have hF := (if_pos c2).symm.trans hF
      refine z_iconst (q := 25) C dX10_log_24 rfl ?_
      subst hF
      exact z_iret C e1 e2 dX10_log_25
    · have hF := (if_neg c2).symm.trans hF
      refine z_iload_n (q := 16) C dX10_log_15 2 rfl rfl rfl ?_
      refine z_if_lt (tgt := 24) (q := 19) C dX10_log_16 (by decide) rfl (fun c3 => ?_) (fun c3 => ?_)
      · have hF := (if_pos c3).symm.trans hF
        refine z_iconst (q := 25) C dX10_log_24 rfl ?_
        subst hF
        exact z_iret C e1 e2 dX10_log_25
      · have hF := (if_neg c3).symm.trans hF
        refine z_iload_n (q := 20) C dX10_log_19 2 rfl rfl rfl ?_
        refine z_iconst (q := 21) C dX10_log_20 rfl ?_
        refine z_icmp_le (tgt := 26) (q := 24) C dX10_log_21 (by decide) rfl (fun c4 => ?_) (fun c4 => ?_)
        · have hF := (if_pos c4).symm.trans hF
          refine z_aload_n (q := 27) C dX10_log_26 0 rfl rfl rfl ?_
          refine z_getf (q := 30) C clX10 (zon C zo_0) kd_0 (k := 6) (by decide) q_277 rfl (zfv_r kd_0 rfl fr_0_6) dX10_log_27 rfl ?_
          refine z_callV (q := 33) (o := 7) (av := []) (rest := []) (stk2 := [.int (zi (fX8_logLength 7 h))]) C hR clX8 (zon C zo_7) kd_7 (M_fX8_logLength (zlv hd rfl) zo_7 kd_7 rfl) mY_X8_logLength q_833 (Nat.le_of_ble_eq_true rfl) dX10_log_30 rfl rfl rfl ?_
          refine z_iconst (q := 34) C dX10_log_33 rfl ?_
          refine z_isub (q := 35) C dX10_log_34 rfl ?_
          refine z_iload_n (q := 36) C dX10_log_35 1 rfl rfl rfl ?_
          refine z_isub (q := 37) C dX10_log_36 rfl ?_
          obtain ⟨v5, ev5, hF⟩ := zlet_e hF
          refine z_istoreE_n (q := 38) C ev5 dX10_log_37 (by decide) rfl rfl rfl ?_
          refine z_iload_n (q := 39) C dX10_log_38 3 rfl rfl rfl ?_
          refine z_if_ne (tgt := 53) (q := 42) C dX10_log_39 (by decide) rfl (fun c6 => ?_) (fun c6 => ?_)
          · have hF := (if_neg c6).symm.trans hF
            refine z_aload_n (q := 54) C dX10_log_53 1 rfl rfl rfl ?_
            refine z_getf (q := 57) C clX10 (zon C zo_0) kd_0 (k := 6) (by decide) q_277 rfl (zfv_r kd_0 rfl fr_0_6) dX10_log_54 rfl ?_
            refine z_iload_n (q := 58) C dX10_log_57 0 rfl rfl rfl ?_
            refine z_callV (q := 61) (o := 7) (av := [.int (zi v5)]) (rest := []) (stk2 := [.int (zi (fX8_hoursOfLight 7 v5 h))]) C hR clX8 (zon C zo_7) kd_7 (M_fX8_hoursOfLight (zlv hd rfl) zo_7 kd_7 rfl) mY_X8_hoursOfLight q_842 (Nat.le_of_ble_eq_true rfl) dX10_log_58 rfl rfl rfl ?_
            subst hF
            exact z_iret C e1 e2 dX10_log_61
          · have hF := (if_pos c6).symm.trans hF
            refine z_aload_n (q := 43) C dX10_log_42 1 rfl rfl rfl ?_
            refine z_getf (q := 46) C clX10 (zon C zo_0) kd_0 (k := 6) (by decide) q_277 rfl (zfv_r kd_0 rfl fr_0_6) dX10_log_43 rfl ?_
            refine z_iload_n (q := 47) C dX10_log_46 0 rfl rfl rfl ?_
            refine z_callV (q := 50) (o := 7) (av := [.int (zi v5)]) (rest := []) (stk2 := [.int (zi (fX8_whoHadLight 7 v5 h))]) C hR clX8 (zon C zo_7) kd_7 (M_fX8_whoHadLight (zlv hd rfl) zo_7 kd_7 rfl) mY_X8_whoHadLight q_837 (Nat.le_of_ble_eq_true rfl) dX10_log_47 rfl rfl rfl ?_
            refine z_goto (q := 61) C dX10_log_50 (by decide) ?_
            subst hF
            exact z_iret C e1 e2 dX10_log_61
        · have hF := (if_neg c4).symm.trans hF
          refine z_iconst (q := 25) C dX10_log_24 rfl ?_
          subst hF
          exact z_iret C e1 e2 dX10_log_25
set_option maxRecDepth 20000 in
set_option maxHeartbeats 4000000 in
theorem M_fX10_log {l : Launch} {D : va_G} {cy : ClassId} {α : Nat → Nat} {n : Nat} {σ : zSg} {d : Nat} (hd : 4 ≤ d) {a1 : Int} {a2 : Int} {h : zH} {r : Int} (hF : fX10_log a1 a2 h = r) : zMet l yX10_log cX10_log 4 (some .int) (zrm d) D cy α n σ [.ref (α 0), .int (zi a1), .int (zi a2)] h (some (.int (zi r))) h := by
  obtain ⟨d, rfl⟩ : ∃ e, d = e + 1 := ⟨d - 1, by omega⟩
  refine z_met (by decide +kernel) (Nat.le_of_ble_eq_true rfl) (fun κ k1 k2 k3 k4 k5 k6 k7 k8 k9 C => ?_)
  subst k1 k3 k4 k5 k6 k7
  exact J_fX10_log C k2 hd k8 k9 hF
set_option maxRecDepth 20000 in
set_option maxHeartbeats 4000000 in
theorem J_fX2_has {κ : zT} (C : zC κ RX2 cX2_has 2 (some .boolean)) {d : Nat} (hR : zR κ = zrm (d + 1)) (hd : 1 ≤ d + 1) {h : zH} {r : Int} (e1 : zrv κ = some (.int (zi r))) (e2 : zhf κ = h) {a1 : Int} (hF : fX2_has a1 h = r) : Z κ h 0 [(0, .ref (zα κ 6)), (1, .int (zi a1))] [] := by
  unfold fX2_has at hF
  refine z_iload_n (q := 1) C dX2_has_0 1 rfl rfl rfl ?_
  refine z_if_lt (tgt := 16) (q := 4) C dX2_has_1 (by decide) rfl (fun c1 => ?_) (fun c1 => ?_)
  · have hF := (if_pos c1).symm.trans hF
    refine z_iconst (q := 17) C dX2_has_16 rfl ?_
    subst hF
    exact z_zret C (zb01 (Or.inl rfl)) e1 e2 dX2_has_17
  · have hF := (if_neg c1).symm.trans hF
    refine z_iload_n (q := 5) C dX2_has_4 1 rfl rfl rfl ?_
    refine z_aload_n (q := 6) C dX2_has_5 0 rfl rfl rfl ?_
    refine z_getf (q := 9) C clX2 (zon C zo_6) kd_6 (k := 0) (by decide) q_158 rfl (zfv_i kd_6 rfl) dX2_has_6 rfl ?_
    refine z_icmp_ge (tgt := 16) (q := 12) C dX2_has_9 (by decide) rfl (fun c2 => ?_) (fun c2 => ?_)
    · have hF := (if_pos c2).symm.trans hF
      refine z_iconst (q := 17) C dX2_has_16 rfl ?_
      subst hF
      exact z_zret C (zb01 (Or.inl rfl)) e1 e2 dX2_has_17
    · have hF := (if_neg c2).symm.trans hF
      refine z_iconst (q := 13) C dX2_has_12 rfl ?_
      refine z_goto (q := 17) C dX2_has_13 (by decide) ?_
      subst hF
      exact z_zret C (zb01 (Or.inr rfl)) e1 e2 dX2_has_17
set_option maxRecDepth 20000 in
set_option maxHeartbeats 4000000 in
theorem M_fX2_has {l : Launch} {D : va_G} {cy : ClassId} {α : Nat → Nat} {n : Nat} {σ : zSg} {d : Nat} (hd : 1 ≤ d) {a1 : Int} {h : zH} {r : Int} (hF : fX2_has a1 h = r) : zMet l yX2_has cX2_has 2 (some .boolean) (zrm d) D cy α n σ [.ref (α 6), .int (zi a1)] h (some (.int (zi r))) h := by
  obtain ⟨d, rfl⟩ : ∃ e, d = e + 1 := ⟨d - 1, by omega⟩
  refine z_met (by decide +kernel) (Nat.le_of_ble_eq_true rfl) (fun κ k1 k2 k3 k4 k5 k6 k7 k8 k9 C => ?_)
  subst k1 k3 k4 k5 k6 k7
  exact J_fX2_has C k2 hd k8 k9 hF
theorem B_fX2_has {a1 : Int} {h : zH} : fX2_has a1 h = 0 ∨ fX2_has a1 h = 1 := by
  unfold fX2_has
  try simp only [zlet, zlet2]
  repeat' (first | exact Or.inl rfl | exact Or.inr rfl | apply zite01)
set_option maxRecDepth 20000 in
set_option maxHeartbeats 4000000 in
theorem J_fX2_length {κ : zT} (C : zC κ RX2 cX2_length 2 (some .int)) {d : Nat} (hR : zR κ = zrm (d + 1)) (hd : 2 ≤ d + 1) {h : zH} {r : Int} (e1 : zrv κ = some (.int (zi r))) (e2 : zhf κ = h) {a1 : Int} (hF : fX2_length a1 h = r) : Z κ h 0 [(0, .ref (zα κ 6)), (1, .int (zi a1))] [] := by
  unfold fX2_length at hF
  refine z_aload_n (q := 1) C dX2_length_0 0 rfl rfl rfl ?_
  refine z_iload_n (q := 2) C dX2_length_1 1 rfl rfl rfl ?_
  refine z_callV (q := 5) (o := 6) (av := [.int (zi a1)]) (rest := []) (stk2 := [.int (zi (fX2_has a1 h))]) C hR clX2 (zon C zo_6) kd_6 (M_fX2_has (zlv hd rfl) rfl) mY_X2_has q_858 (Nat.le_of_ble_eq_true rfl) dX2_length_2 rfl rfl rfl ?_
  refine z_if_eq (tgt := 19) (q := 8) C dX2_length_5 (by decide) rfl (fun c1 => ?_) (fun c1 => ?_)
  · have hF := (if_pos c1).symm.trans hF
    refine z_iconst (q := 20) C dX2_length_19 rfl ?_
    subst hF
    exact z_iret C e1 e2 dX2_length_20
  · have hF := (if_neg c1).symm.trans hF
    refine z_aload_n (q := 9) C dX2_length_8 0 rfl rfl rfl ?_
    refine z_getf (q := 12) C clX2 (zon C zo_6) kd_6 (k := 2) (by decide) q_161 rfl (zfv_r kd_6 rfl fr_6_2) dX2_length_9 rfl ?_
    refine z_iload_n (q := 13) C dX2_length_12 1 rfl rfl rfl ?_
    refine z_callSN (q := 16) (av := [.ref (zα κ 28), .int (zi a1)]) (rest := []) (stk2 := [.int (zi (fX10_at 28 a1 h))]) C hR (M_fX10_at (zlv hd rfl) zo_28 kd_28 rfl) mY_X10_at q_581 (Nat.le_of_ble_eq_true rfl) dX2_length_13 rfl rfl rfl ?_
    refine z_goto (q := 20) C dX2_length_16 (by decide) ?_
    subst hF
    exact z_iret C e1 e2 dX2_length_20
set_option maxRecDepth 20000 in
set_option maxHeartbeats 4000000 in
theorem M_fX2_length {l : Launch} {D : va_G} {cy : ClassId} {α : Nat → Nat} {n : Nat} {σ : zSg} {d : Nat} (hd : 2 ≤ d) {a1 : Int} {h : zH} {r : Int} (hF : fX2_length a1 h = r) : zMet l yX2_length cX2_length 2 (some .int) (zrm d) D cy α n σ [.ref (α 6), .int (zi a1)] h (some (.int (zi r))) h := by
  obtain ⟨d, rfl⟩ : ∃ e, d = e + 1 := ⟨d - 1, by omega⟩
  refine z_met (by decide +kernel) (Nat.le_of_ble_eq_true rfl) (fun κ k1 k2 k3 k4 k5 k6 k7 k8 k9 C => ?_)
  subst k1 k3 k4 k5 k6 k7
  exact J_fX2_length C k2 hd k8 k9 hF
