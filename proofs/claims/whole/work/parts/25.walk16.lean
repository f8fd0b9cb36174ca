set_option maxRecDepth 20000 in
set_option maxHeartbeats 4000000 in
theorem J_fX11_rests_c30b {κ : zT} (C : zC κ RX11 cX11_rests 4 (some .int)) {d : Nat} (hR : zR κ = zrm (d + 1)) (hd : 5 ≤ d + 1) {N : Nat} {r : Int × zH} (e1 : zrv κ = some (.int (zi r.1))) (e2 : zhf κ = r.2) {K30 : Int → Int → Int → zH → Option (Int × zH)} (hK30 : ∀ (l1 : Int) (l2 : Int) (l3 : Int) (h : zH), K30 l1 l2 l3 h = some r → Z κ h 30 [(0, .ref (zα κ 14)), (1, .int (zi l1)), (2, .int (zi l2)), (3, .int (zi l3))] []) (l1 : Int) (l2 : Int) (l3 : Int) (h : zH) (hF : fX11_rests_c30b N K30 l1 l2 l3 h = some r) : Z κ h 30 [(0, .ref (zα κ 14)), (1, .int (zi l1)), (2, .int (zi l2)), (3, .int (zi l3))] [] := by
  unfold fX11_rests_c30b at hF
  refine z_iload_n (q := 31) C dX11_rests_30 3 rfl rfl rfl ?_
  refine z_aload_n (q := 32) C dX11_rests_31 0 rfl rfl rfl ?_
  refine z_getf (q := 35) C clX11 (zon C zo_14) kd_14 (k := 28) (by decide) q_1130 rfl (zfv_i kd_14 rfl) dX11_rests_32 rfl ?_
  obtain ⟨v1, ev1, hF⟩ := zb_e hF
  refine z_callS (q := 38) (av := [.int (zi (h 14 28))]) (rest := [.int (zi l3)]) (stk2 := [.int (zi v1), .int (zi l3)]) C hR (M_fX11_ten (zlv hd rfl) ev1) mY_X11_ten q_1671 (Nat.le_of_ble_eq_true rfl) dX11_rests_35 rfl rfl rfl ?_
  refine z_icmp_ge (tgt := 72) (q := 41) C dX11_rests_38 (by decide) rfl (fun c2 => ?_) (fun c2 => ?_)
  · have hF := (if_pos c2).symm.trans hF
    refine z_iload_n (q := 73) C dX11_rests_72 1 rfl rfl rfl ?_
    refine z_iconst (q := 74) C dX11_rests_73 rfl ?_
    refine z_icmp_ne (tgt := 81) (q := 77) C dX11_rests_74 (by decide) rfl (fun c3 => ?_) (fun c3 => ?_)
    · have hF := (if_neg c3).symm.trans hF
      refine z_iconst (q := 82) C dX11_rests_81 rfl ?_
      cases hF
      exact z_iret C e1 e2 dX11_rests_82
    · have hF := (if_pos c3).symm.trans hF
      refine z_iload_n (q := 78) C dX11_rests_77 2 rfl rfl rfl ?_
      refine z_goto (q := 82) C dX11_rests_78 (by decide) ?_
      cases hF
      exact z_iret C e1 e2 dX11_rests_82
  · have hF := (if_neg c2).symm.trans hF
    refine z_aload_n (q := 42) C dX11_rests_41 0 rfl rfl rfl ?_
    refine z_iload_n (q := 43) C dX11_rests_42 3 rfl rfl rfl ?_
    obtain ⟨v5, h4, ev5, hF⟩ := z2_e hF
    refine z_callV (q := 46) (o := 14) (av := [.int (zi l3)]) (rest := []) (stk2 := [.int (zi v5)]) C hR clX11 (zon C zo_14) kd_14 (M_fX11_layRow (zlv hd rfl) ev5) mY_X11_layRow q_1667 (Nat.le_of_ble_eq_true rfl) dX11_rests_43 rfl rfl rfl ?_
    refine z_if_eq (tgt := 66) (q := 49) C dX11_rests_46 (by decide) rfl (fun c6 => ?_) (fun c6 => ?_)
    · have hF := (if_pos c6).symm.trans hF
      refine z_iinc (q := 69) (x := l3) C dX11_rests_66 (j := 3) rfl (by decide) rfl rfl ?_
      refine z_goto (q := 30) C dX11_rests_69 (by decide) ?_
      exact z_sub (hK30 _ _ _ _ hF) [1, 2, 3, 0] rfl
    · have hF := (if_neg c6).symm.trans hF
      refine z_aload_n (q := 50) C dX11_rests_49 0 rfl rfl rfl ?_
      obtain ⟨v8, h7, ev8, hF⟩ := z2_e hF
      refine z_callV (q := 53) (o := 14) (av := []) (rest := []) (stk2 := [.int (zi v8)]) C hR clX11 (zon C zo_14) kd_14 (M_fX11_isRest (zlv hd rfl) ev8) mY_X11_isRest q_1686 (Nat.le_of_ble_eq_true rfl) dX11_rests_50 rfl rfl rfl ?_
      refine z_if_eq (tgt := 66) (q := 56) C dX11_rests_53 (by decide) rfl (fun c9 => ?_) (fun c9 => ?_)
      · have hF := (if_pos c9).symm.trans hF
        refine z_iinc (q := 69) (x := l3) C dX11_rests_66 (j := 3) rfl (by decide) rfl rfl ?_
        refine z_goto (q := 30) C dX11_rests_69 (by decide) ?_
        exact z_sub (hK30 _ _ _ _ hF) [1, 2, 3, 0] rfl
      · have hF := (if_neg c9).symm.trans hF
        refine z_iload_n (q := 57) C dX11_rests_56 2 rfl rfl rfl ?_
        refine z_iload_n (q := 58) C dX11_rests_57 1 rfl rfl rfl ?_
        refine z_icmp_ne (tgt := 63) (q := 61) C dX11_rests_58 (by decide) rfl (fun c10 => ?_) (fun c10 => ?_)
        · have hF := (if_neg c10).symm.trans hF
          refine z_iinc (q := 66) (x := l2) C dX11_rests_63 (j := 2) rfl (by decide) rfl rfl ?_
          refine z_iinc (q := 69) (x := l3) C dX11_rests_66 (j := 3) rfl (by decide) rfl rfl ?_
          refine z_goto (q := 30) C dX11_rests_69 (by decide) ?_
          exact z_sub (hK30 _ _ _ _ hF) [2, 3, 1, 0] rfl
        · have hF := (if_pos c10).symm.trans hF
          refine z_iload_n (q := 62) C dX11_rests_61 3 rfl rfl rfl ?_
          cases hF
          exact z_iret C e1 e2 dX11_rests_62
set_option maxRecDepth 20000 in
set_option maxHeartbeats 4000000 in
theorem J_fX11_rests_c30 {κ : zT} (C : zC κ RX11 cX11_rests 4 (some .int)) {d : Nat} (hR : zR κ = zrm (d + 1)) (hd : 5 ≤ d + 1) {N : Nat} {r : Int × zH} (e1 : zrv κ = some (.int (zi r.1))) (e2 : zhf κ = r.2) : ∀ (k : Nat) (l1 : Int) (l2 : Int) (l3 : Int) (h : zH), fX11_rests_c30 N k l1 l2 l3 h = some r → Z κ h 30 [(0, .ref (zα κ 14)), (1, .int (zi l1)), (2, .int (zi l2)), (3, .int (zi l3))] [] := by
  intro k
  induction k with
  | zero => intro l1 l2 l3 h hF; cases hF
  | succ k ih => intro l1 l2 l3 h hF; exact J_fX11_rests_c30b C hR hd e1 e2 ih l1 l2 l3 h hF
set_option maxRecDepth 20000 in
set_option maxHeartbeats 4000000 in
theorem J_fX11_rests {κ : zT} (C : zC κ RX11 cX11_rests 4 (some .int)) {d : Nat} (hR : zR κ = zrm (d + 1)) (hd : 5 ≤ d + 1) {N : Nat} {r : Int × zH} (e1 : zrv κ = some (.int (zi r.1))) (e2 : zhf κ = r.2) {a1 : Int} {h : zH} (hF : fX11_rests N a1 h = some r) : Z κ h 0 [(0, .ref (zα κ 14)), (1, .int (zi a1))] [] := by
  unfold fX11_rests at hF
  refine z_aload_n (q := 1) C dX11_rests_0 0 rfl rfl rfl ?_
  refine z_getf (q := 4) C clX11 (zon C zo_14) kd_14 (k := 28) (by decide) q_1130 rfl (zfv_i kd_14 rfl) dX11_rests_1 rfl ?_
  refine z_iconst (q := 5) C dX11_rests_4 rfl ?_
  refine z_icmp_le (tgt := 12) (q := 8) C dX11_rests_5 (by decide) rfl (fun c1 => ?_) (fun c1 => ?_)
  · have hF := (if_pos c1).symm.trans hF
    refine z_aload_n (q := 13) C dX11_rests_12 0 rfl rfl rfl ?_
    refine z_getf (q := 16) C clX11 (zon C zo_14) kd_14 (k := 28) (by decide) q_1130 rfl (zfv_i kd_14 rfl) dX11_rests_13 rfl ?_
    refine z_if_eq (tgt := 24) (q := 19) C dX11_rests_16 (by decide) rfl (fun c2 => ?_) (fun c2 => ?_)
    · have hF := (if_pos c2).symm.trans hF
      refine z_iconst (q := 25) C dX11_rests_24 rfl ?_
      cases hF
      exact z_iret C e1 e2 dX11_rests_25
    · have hF := (if_neg c2).symm.trans hF
      refine z_iload_n (q := 20) C dX11_rests_19 1 rfl rfl rfl ?_
      refine z_iconst (q := 21) C dX11_rests_20 rfl ?_
      refine z_icmp_ge (tgt := 26) (q := 24) C dX11_rests_21 (by decide) rfl (fun c3 => ?_) (fun c3 => ?_)
      · have hF := (if_pos c3).symm.trans hF
        refine z_iconst (q := 27) C dX11_rests_26 rfl ?_
        refine z_istore_n (q := 28) C dX11_rests_27 (by decide) rfl rfl rfl ?_
        refine z_iconst (q := 29) C dX11_rests_28 rfl ?_
        refine z_istore_n (q := 30) C dX11_rests_29 (by decide) rfl rfl rfl ?_
        exact z_sub (J_fX11_rests_c30 C hR hd e1 e2 N _ _ _ _ hF) [2, 3, 1, 0] rfl
      · have hF := (if_neg c3).symm.trans hF
        refine z_iconst (q := 25) C dX11_rests_24 rfl ?_
        cases hF
        exact z_iret C e1 e2 dX11_rests_25
  · have hF := (if_neg c1).symm.trans hF
    refine z_ldcw (q := 11) C kc_RX11_392 dX11_rests_8 rfl ?_
    cases hF
    exact z_iret C e1 e2 dX11_rests_11
set_option maxRecDepth 20000 in
set_option maxHeartbeats 4000000 in
theorem M_fX11_rests {l : Launch} {D : va_G} {cy : ClassId} {α : Nat → Nat} {n : Nat} {σ : zSg} {d : Nat} (hd : 5 ≤ d) {N : Nat} {a1 : Int} {h : zH} {r : Int} {g : zH} (hF : fX11_rests N a1 h = some (r, g)) : zMet l yX11_rests cX11_rests 4 (some .int) (zrm d) D cy α n σ [.ref (α 14), .int (zi a1)] h (some (.int (zi r))) g := by
  obtain ⟨d, rfl⟩ : ∃ e, d = e + 1 := ⟨d - 1, by omega⟩
  refine z_met (by decide +kernel) (Nat.le_of_ble_eq_true rfl) (fun κ k1 k2 k3 k4 k5 k6 k7 k8 k9 C => ?_)
  subst k1 k3 k4 k5 k6 k7
  exact J_fX11_rests C k2 hd k8 k9 hF
set_option maxRecDepth 20000 in
set_option maxHeartbeats 4000000 in
theorem J_fX11_divisor_b {κ : zT} (C : zC κ RX11 cX11_divisor 2 (some .int)) {d : Nat} (hR : zR κ = zrm (d + 1)) (hd : 1 ≤ d + 1) {R_fX11_divisor : Int → Int → Option Int} (hM_fX11_divisor : ∀ {a0 : Int} {a1 : Int} {h : zH} {r : Int} (hF : R_fX11_divisor a0 a1 = some r), zMet (zla κ) yX11_divisor cX11_divisor 2 (some .int) (zrm d) (zD κ) (zcy κ) (zα κ) (zn κ) (zσ κ) [.int (zi a0), .int (zi a1)] h (some (.int (zi r))) h) {h : zH} {r : Int} (e1 : zrv κ = some (.int (zi r))) (e2 : zhf κ = h) {a0 : Int} {a1 : Int} (hF : fX11_divisor_b R_fX11_divisor a0 a1 = some r) : Z κ h 0 [(0, .int (zi a0)), (1, .int (zi a1))] [] := by
  unfold fX11_divisor_b at hF
  refine z_iload_n (q := 1) C dX11_divisor_0 1 rfl rfl rfl ?_
  refine z_if_ne (tgt := 8) (q := 4) C dX11_divisor_1 (by decide) rfl (fun c1 => ?_) (fun c1 => ?_)
  · have hF := (if_neg c1).symm.trans hF
    refine z_iload_n (q := 9) C dX11_divisor_8 1 rfl rfl rfl ?_
    refine z_iload_n (q := 10) C dX11_divisor_9 0 rfl rfl rfl ?_
    refine z_iload_n (q := 11) C dX11_divisor_10 1 rfl rfl rfl ?_
    obtain ⟨g2, hF⟩ := zif_none hF
    refine z_irem (q := 12) C g2 dX11_divisor_11 rfl ?_
    obtain ⟨v3, ev3, hF⟩ := zb_e hF
    refine z_callS (q := 15) (av := [.int (zi a1), .int (zi (zrem a0 a1))]) (rest := []) (stk2 := [.int (zi v3)]) C hR (hM_fX11_divisor ev3) mY_X11_divisor q_1694 (Nat.le_of_ble_eq_true rfl) dX11_divisor_12 rfl rfl rfl ?_
    cases hF
    exact z_iret C e1 e2 dX11_divisor_15
  · have hF := (if_pos c1).symm.trans hF
    refine z_iload_n (q := 5) C dX11_divisor_4 0 rfl rfl rfl ?_
    refine z_goto (q := 15) C dX11_divisor_5 (by decide) ?_
    cases hF
    exact z_iret C e1 e2 dX11_divisor_15
set_option maxRecDepth 20000 in
set_option maxHeartbeats 4000000 in
theorem MG_fX11_divisor : ∀ (k : Nat) {l : Launch} {D : va_G} {cy : ClassId} {α : Nat → Nat} {n : Nat} {σ : zSg} {d : Nat} (hd : 0 + k ≤ d), (∀ {a0 : Int} {a1 : Int} {h : zH} {r : Int} (hF : ((fG_X11_divisor k)) a0 a1 = some r), zMet l yX11_divisor cX11_divisor 2 (some .int) (zrm d) D cy α n σ [.int (zi a0), .int (zi a1)] h (some (.int (zi r))) h) := by
  intro k
  induction k with
  | zero => intro l D cy α n σ d hd; exact (by intros; rename_i hF; cases hF)
  | succ k ih =>
    intro l D cy α n σ d hd
    obtain ⟨d, rfl⟩ : ∃ e, d = e + 1 := ⟨d - 1, by omega⟩
    · intro a0 a1 h r hF
      refine z_met (by decide +kernel) (Nat.le_of_ble_eq_true rfl) (fun κ k1 k2 k3 k4 k5 k6 k7 k8 k9 C => ?_)
      subst k1 k3 k4 k5 k6 k7
      exact J_fX11_divisor_b C k2 (by omega) ((ih (by omega : 0 + k ≤ d))) k8 k9 hF
set_option maxRecDepth 20000 in
set_option maxHeartbeats 4000000 in
theorem M_fX11_divisor {l : Launch} {D : va_G} {cy : ClassId} {α : Nat → Nat} {n : Nat} {σ : zSg} {d : Nat} (hd : 60 ≤ d) {a0 : Int} {a1 : Int} {h : zH} {r : Int} (hF : fX11_divisor a0 a1 = some r) : zMet l yX11_divisor cX11_divisor 2 (some .int) (zrm d) D cy α n σ [.int (zi a0), .int (zi a1)] h (some (.int (zi r))) h :=
  (MG_fX11_divisor 60 (by omega : 0 + 60 ≤ d)) hF
set_option maxRecDepth 20000 in
set_option maxHeartbeats 4000000 in
theorem J_fX11_bribes_c80 {κ : zT} (C : zC κ RX11 cX11_bribes 6 (some .int)) {d : Nat} (hR : zR κ = zrm (d + 1)) (hd : 61 ≤ d + 1) {h : zH} {r : Int} (e1 : zrv κ = some (.int (zi r))) (e2 : zhf κ = h) (l1 : Int) (l2 : Int) (l3 : Int) (l4 : Int) (s0 : Int) (hF : fX11_bribes_c80 l1 l2 l3 l4 s0 = some r) : Z κ h 80 [(1, .int (zi l1)), (2, .int (zi l2)), (3, .int (zi l3)), (4, .int (zi l4))] [.int (zi s0)] := by
  unfold fX11_bribes_c80 at hF
  refine z_istore (q := 82) C dX11_bribes_80 (by decide) rfl rfl ?_
  refine z_iload (q := 84) C dX11_bribes_82 4 rfl rfl ?_
  refine z_if_ne (tgt := 94) (q := 87) C dX11_bribes_84 (by decide) rfl (fun c1 => ?_) (fun c1 => ?_)
  · have hF := (if_neg c1).symm.trans hF
    refine z_iload (q := 96) C dX11_bribes_94 4 rfl rfl ?_
    refine z_iconst (q := 97) C dX11_bribes_96 rfl ?_
    refine z_icmp_ne (tgt := 107) (q := 100) C dX11_bribes_97 (by decide) rfl (fun c3 => ?_) (fun c3 => ?_)
    · have hF := (if_neg c3).symm.trans hF
      refine z_iload (q := 109) C dX11_bribes_107 4 rfl rfl ?_
      refine z_iconst (q := 110) C dX11_bribes_109 rfl ?_
      refine z_icmp_ne (tgt := 120) (q := 113) C dX11_bribes_110 (by decide) rfl (fun c5 => ?_) (fun c5 => ?_)
      · have hF := (if_neg c5).symm.trans hF
        refine z_iload_n (q := 121) C dX11_bribes_120 1 rfl rfl rfl ?_
        refine z_iload_n (q := 122) C dX11_bribes_121 2 rfl rfl rfl ?_
        refine z_iadd (q := 123) C dX11_bribes_122 rfl ?_
        refine z_iload (q := 125) C dX11_bribes_123 0 rfl rfl ?_
        obtain ⟨g7, hF⟩ := zif_none hF
        refine z_idiv (q := 126) C g7 dX11_bribes_125 rfl ?_
        cases hF
        exact z_iret C e1 e2 dX11_bribes_126
      · have hF := (if_pos c5).symm.trans hF
        refine z_iload_n (q := 114) C dX11_bribes_113 1 rfl rfl rfl ?_
        refine z_iload (q := 116) C dX11_bribes_114 0 rfl rfl ?_
        obtain ⟨g6, hF⟩ := zif_none hF
        refine z_idiv (q := 117) C g6 dX11_bribes_116 rfl ?_
        refine z_goto (q := 126) C dX11_bribes_117 (by decide) ?_
        cases hF
        exact z_iret C e1 e2 dX11_bribes_126
    · have hF := (if_pos c3).symm.trans hF
      refine z_iload_n (q := 101) C dX11_bribes_100 2 rfl rfl rfl ?_
      refine z_iload (q := 103) C dX11_bribes_101 0 rfl rfl ?_
      obtain ⟨g4, hF⟩ := zif_none hF
      refine z_idiv (q := 104) C g4 dX11_bribes_103 rfl ?_
      refine z_goto (q := 126) C dX11_bribes_104 (by decide) ?_
      cases hF
      exact z_iret C e1 e2 dX11_bribes_126
  · have hF := (if_pos c1).symm.trans hF
    refine z_iload_n (q := 88) C dX11_bribes_87 3 rfl rfl rfl ?_
    refine z_iload (q := 90) C dX11_bribes_88 0 rfl rfl ?_
    obtain ⟨g2, hF⟩ := zif_none hF
    refine z_idiv (q := 91) C g2 dX11_bribes_90 rfl ?_
    refine z_goto (q := 126) C dX11_bribes_91 (by decide) ?_
    cases hF
    exact z_iret C e1 e2 dX11_bribes_126
set_option maxRecDepth 20000 in
set_option maxHeartbeats 4000000 in
theorem J_fX11_bribes {κ : zT} (C : zC κ RX11 cX11_bribes 6 (some .int)) {d : Nat} (hR : zR κ = zrm (d + 1)) (hd : 61 ≤ d + 1) {h : zH} {r : Int} (e1 : zrv κ = some (.int (zi r))) (e2 : zhf κ = h) {a1 : Int} {a2 : Int} {a3 : Int} {a4 : Int} (hF : fX11_bribes a1 a2 a3 a4 = some r) : Z κ h 0 [(0, .ref (zα κ 14)), (1, .int (zi a1)), (2, .int (zi a2)), (3, .int (zi a3)), (4, .int (zi a4))] [] := by
  unfold fX11_bribes at hF
  refine z_iload_n (q := 1) C dX11_bribes_0 1 rfl rfl rfl ?_
  refine z_iconst (q := 2) C dX11_bribes_1 rfl ?_
  refine z_bipush (q := 4) C dX11_bribes_2 bp_99 rfl ?_
  refine z_callS (q := 7) (av := [.int (zi a1), .int (zi 1), .int (zi 99)]) (rest := []) (stk2 := [.int (zi (fX11_in a1 1 99))]) C hR (M_fX11_in (zlv hd rfl) rfl) mY_X11_in q_1314 (Nat.le_of_ble_eq_true rfl) dX11_bribes_4 rfl rfl rfl ?_
  refine z_if_eq (tgt := 40) (q := 10) C dX11_bribes_7 (by decide) rfl (fun c1 => ?_) (fun c1 => ?_)
  · have hF := (if_pos c1).symm.trans hF
    refine z_iconst (q := 41) C dX11_bribes_40 rfl ?_
    cases hF
    exact z_iret C e1 e2 dX11_bribes_41
  · have hF := (if_neg c1).symm.trans hF
    refine z_iload_n (q := 11) C dX11_bribes_10 2 rfl rfl rfl ?_
    refine z_iconst (q := 12) C dX11_bribes_11 rfl ?_
    refine z_bipush (q := 14) C dX11_bribes_12 bp_99 rfl ?_
    refine z_callS (q := 17) (av := [.int (zi a2), .int (zi 1), .int (zi 99)]) (rest := []) (stk2 := [.int (zi (fX11_in a2 1 99))]) C hR (M_fX11_in (zlv hd rfl) rfl) mY_X11_in q_1314 (Nat.le_of_ble_eq_true rfl) dX11_bribes_14 rfl rfl rfl ?_
    refine z_if_eq (tgt := 40) (q := 20) C dX11_bribes_17 (by decide) rfl (fun c2 => ?_) (fun c2 => ?_)
    · have hF := (if_pos c2).symm.trans hF
      refine z_iconst (q := 41) C dX11_bribes_40 rfl ?_
      cases hF
      exact z_iret C e1 e2 dX11_bribes_41
    · have hF := (if_neg c2).symm.trans hF
      refine z_iload_n (q := 21) C dX11_bribes_20 3 rfl rfl rfl ?_
      refine z_iconst (q := 22) C dX11_bribes_21 rfl ?_
      refine z_bipush (q := 24) C dX11_bribes_22 bp_99 rfl ?_
      refine z_callS (q := 27) (av := [.int (zi a3), .int (zi 1), .int (zi 99)]) (rest := []) (stk2 := [.int (zi (fX11_in a3 1 99))]) C hR (M_fX11_in (zlv hd rfl) rfl) mY_X11_in q_1314 (Nat.le_of_ble_eq_true rfl) dX11_bribes_24 rfl rfl rfl ?_
      refine z_if_eq (tgt := 40) (q := 30) C dX11_bribes_27 (by decide) rfl (fun c3 => ?_) (fun c3 => ?_)
      · have hF := (if_pos c3).symm.trans hF
        refine z_iconst (q := 41) C dX11_bribes_40 rfl ?_
        cases hF
        exact z_iret C e1 e2 dX11_bribes_41
      · have hF := (if_neg c3).symm.trans hF
        refine z_iload (q := 32) C dX11_bribes_30 4 rfl rfl ?_
        refine z_iconst (q := 33) C dX11_bribes_32 rfl ?_
        refine z_iconst (q := 34) C dX11_bribes_33 rfl ?_
        refine z_callS (q := 37) (av := [.int (zi a4), .int (zi 0), .int (zi 3)]) (rest := []) (stk2 := [.int (zi (fX11_in a4 0 3))]) C hR (M_fX11_in (zlv hd rfl) rfl) mY_X11_in q_1314 (Nat.le_of_ble_eq_true rfl) dX11_bribes_34 rfl rfl rfl ?_
        refine z_if_ne (tgt := 42) (q := 40) C dX11_bribes_37 (by decide) rfl (fun c4 => ?_) (fun c4 => ?_)
        · have hF := (if_neg c4).symm.trans hF
          refine z_iload_n (q := 43) C dX11_bribes_42 3 rfl rfl rfl ?_
          refine z_iload_n (q := 44) C dX11_bribes_43 2 rfl rfl rfl ?_
          refine z_icmp_lt (tgt := 59) (q := 47) C dX11_bribes_44 (by decide) rfl (fun c5 => ?_) (fun c5 => ?_)
          · have hF := (if_pos c5).symm.trans hF
            refine z_iload (q := 61) C dX11_bribes_59 4 rfl rfl ?_
            refine z_iconst (q := 62) C dX11_bribes_61 rfl ?_
            refine z_icmp_ge (tgt := 73) (q := 65) C dX11_bribes_62 (by decide) rfl (fun c6 => ?_) (fun c6 => ?_)
            · have hF := (if_pos c6).symm.trans hF
              refine z_iload_n (q := 74) C dX11_bribes_73 1 rfl rfl rfl ?_
              refine z_iload_n (q := 75) C dX11_bribes_74 1 rfl rfl rfl ?_
              refine z_iload_n (q := 76) C dX11_bribes_75 2 rfl rfl rfl ?_
              refine z_iadd (q := 77) C dX11_bribes_76 rfl ?_
              obtain ⟨v7, ev7, hF⟩ := zb_e hF
              refine z_callS (q := 80) (av := [.int (zi a1), .int (zi (a1 + a2))]) (rest := []) (stk2 := [.int (zi v7)]) C hR (M_fX11_divisor (zlv hd rfl) ev7) mY_X11_divisor q_1694 (Nat.le_of_ble_eq_true rfl) dX11_bribes_77 rfl rfl rfl ?_
              exact z_sub (J_fX11_bribes_c80 C hR hd e1 e2 _ _ _ _ _ hF) [1, 2, 3, 4] rfl
            · have hF := (if_neg c6).symm.trans hF
              refine z_iload_n (q := 66) C dX11_bribes_65 3 rfl rfl rfl ?_
              refine z_iload_n (q := 67) C dX11_bribes_66 2 rfl rfl rfl ?_
              obtain ⟨v8, ev8, hF⟩ := zb_e hF
              refine z_callS (q := 70) (av := [.int (zi a3), .int (zi a2)]) (rest := []) (stk2 := [.int (zi v8)]) C hR (M_fX11_divisor (zlv hd rfl) ev8) mY_X11_divisor q_1694 (Nat.le_of_ble_eq_true rfl) dX11_bribes_67 rfl rfl rfl ?_
              refine z_goto (q := 80) C dX11_bribes_70 (by decide) ?_
              exact z_sub (J_fX11_bribes_c80 C hR hd e1 e2 _ _ _ _ _ hF) [1, 2, 3, 4] rfl
          · have hF := (if_neg c5).symm.trans hF
            refine z_iload (q := 49) C dX11_bribes_47 4 rfl rfl ?_
            refine z_iconst (q := 50) C dX11_bribes_49 rfl ?_
            refine z_icmp_ne (tgt := 57) (q := 53) C dX11_bribes_50 (by decide) rfl (fun c9 => ?_) (fun c9 => ?_)
            · have hF := (if_neg c9).symm.trans hF
              refine z_iconst (q := 58) C dX11_bribes_57 rfl ?_
              cases hF
              exact z_iret C e1 e2 dX11_bribes_58
            · have hF := (if_pos c9).symm.trans hF
              refine z_iconst (q := 54) C dX11_bribes_53 rfl ?_
              refine z_goto (q := 58) C dX11_bribes_54 (by decide) ?_
              cases hF
              exact z_iret C e1 e2 dX11_bribes_58
        · have hF := (if_pos c4).symm.trans hF
          refine z_iconst (q := 41) C dX11_bribes_40 rfl ?_
          cases hF
          exact z_iret C e1 e2 dX11_bribes_41
set_option maxRecDepth 20000 in
set_option maxHeartbeats 4000000 in
theorem M_fX11_bribes {l : Launch} {D : va_G} {cy : ClassId} {α : Nat → Nat} {n : Nat} {σ : zSg} {d : Nat} (hd : 61 ≤ d) {a1 : Int} {a2 : Int} {a3 : Int} {a4 : Int} {h : zH} {r : Int} (hF : fX11_bribes a1 a2 a3 a4 = some r) : zMet l yX11_bribes cX11_bribes 6 (some .int) (zrm d) D cy α n σ [.ref (α 14), .int (zi a1), .int (zi a2), .int (zi a3), .int (zi a4)] h (some (.int (zi r))) h := by
  obtain ⟨d, rfl⟩ : ∃ e, d = e + 1 := ⟨d - 1, by omega⟩
  refine z_met (by decide +kernel) (Nat.le_of_ble_eq_true rfl) (fun κ k1 k2 k3 k4 k5 k6 k7 k8 k9 C => ?_)
  subst k1 k3 k4 k5 k6 k7
  exact J_fX11_bribes C k2 hd k8 k9 hF
set_option maxRecDepth 20000 in
set_option maxHeartbeats 4000000 in
theorem J_fX11_see {κ : zT} (C : zC κ RX11 cX11_see 3 (some .int)) {d : Nat} (hR : zR κ = zrm (d + 1)) (hd : 3 ≤ d + 1) {r : Int × zH} (e1 : zrv κ = some (.int (zi r.1))) (e2 : zhf κ = r.2) {a1 : Int} {a2 : Int} {h : zH} (hF : fX11_see a1 a2 h = some r) : Z κ h 0 [(0, .ref (zα κ 14)), (1, .int (zi a1)), (2, .int (zi a2))] [] := by
  unfold fX11_see at hF
  refine z_aload_n (q := 1) C dX11_see_0 0 rfl rfl rfl ?_
  refine z_iload_n (q := 2) C dX11_see_1 1 rfl rfl rfl ?_
  refine z_callV (q := 5) (o := 14) (av := [.int (zi a1)]) (rest := []) (stk2 := [.int (zi (fX11_isParish a1 h))]) C hR clX11 (zon C zo_14) kd_14 (M_fX11_isParish (zlv hd rfl) rfl) mY_X11_isParish q_1426 (Nat.le_of_ble_eq_true rfl) dX11_see_2 rfl rfl rfl ?_
  refine z_if_eq (tgt := 27) (q := 8) C dX11_see_5 (by decide) rfl (fun c1 => ?_) (fun c1 => ?_)
  · have hF := (if_pos c1).symm.trans hF
    refine z_iconst (q := 28) C dX11_see_27 rfl ?_
    cases hF
    exact z_iret C e1 e2 dX11_see_28
  · have hF := (if_neg c1).symm.trans hF
    refine z_iload_n (q := 9) C dX11_see_8 2 rfl rfl rfl ?_
    refine z_iconst (q := 10) C dX11_see_9 rfl ?_
    refine z_bipush (q := 12) C dX11_see_10 bp_24 rfl ?_
    refine z_callS (q := 15) (av := [.int (zi a2), .int (zi 0), .int (zi 24)]) (rest := []) (stk2 := [.int (zi (fX11_in a2 0 24))]) C hR (M_fX11_in (zlv hd rfl) rfl) mY_X11_in q_1314 (Nat.le_of_ble_eq_true rfl) dX11_see_12 rfl rfl rfl ?_
    refine z_if_eq (tgt := 27) (q := 18) C dX11_see_15 (by decide) rfl (fun c2 => ?_) (fun c2 => ?_)
    · have hF := (if_pos c2).symm.trans hF
      refine z_iconst (q := 28) C dX11_see_27 rfl ?_
      cases hF
      exact z_iret C e1 e2 dX11_see_28
    · have hF := (if_neg c2).symm.trans hF
      refine z_aload_n (q := 19) C dX11_see_18 0 rfl rfl rfl ?_
      refine z_getf (q := 22) C clX11 (zon C zo_14) kd_14 (k := 46) (by decide) q_1148 rfl (zfv_i kd_14 rfl) dX11_see_19 rfl ?_
      refine z_bipush (q := 24) C dX11_see_22 bp_12 rfl ?_
      refine z_icmp_ne (tgt := 29) (q := 27) C dX11_see_24 (by decide) rfl (fun c3 => ?_) (fun c3 => ?_)
      · have hF := (if_neg c3).symm.trans hF
        refine z_aload_n (q := 30) C dX11_see_29 0 rfl rfl rfl ?_
        refine z_getf (q := 33) C clX11 (zon C zo_14) kd_14 (k := 44) (by decide) q_1146 rfl (zfv_r kd_14 rfl fr_14_44) dX11_see_30 rfl ?_
        refine z_aload_n (q := 34) C dX11_see_33 0 rfl rfl rfl ?_
        refine z_getf (q := 37) C clX11 (zon C zo_14) kd_14 (k := 46) (by decide) q_1148 rfl (zfv_i kd_14 rfl) dX11_see_34 rfl ?_
        refine z_iload_n (q := 38) C dX11_see_37 1 rfl rfl rfl ?_
        obtain ⟨g4, hF⟩ := zif_none hF
        obtain ⟨h5, eh5, hF⟩ := zlet_e hF
        refine z_iast (q := 39) C (zon C zo_73) kd_73 g4.1 (by rw [ln_73]; exact g4.2) dX11_see_38 rfl eh5 ?_
        refine z_aload_n (q := 40) C dX11_see_39 0 rfl rfl rfl ?_
        refine z_getf (q := 43) C clX11 (zon C zo_14) kd_14 (k := 45) (by decide) q_1147 rfl (zfv_r kd_14 rfl fr_14_45) dX11_see_40 rfl ?_
        refine z_aload_n (q := 44) C dX11_see_43 0 rfl rfl rfl ?_
        refine z_getf (q := 47) C clX11 (zon C zo_14) kd_14 (k := 46) (by decide) q_1148 rfl (zfv_i kd_14 rfl) dX11_see_44 rfl ?_
        refine z_iload_n (q := 48) C dX11_see_47 2 rfl rfl rfl ?_
        obtain ⟨g6, hF⟩ := zif_none hF
        obtain ⟨h7, eh7, hF⟩ := zlet_e hF
        refine z_iast (q := 49) C (zon C zo_74) kd_74 g6.1 (by rw [ln_74]; exact g6.2) dX11_see_48 rfl eh7 ?_
        refine z_aload_n (q := 50) C dX11_see_49 0 rfl rfl rfl ?_
        refine z_dup (q := 51) C dX11_see_50 rfl rfl ?_
        refine z_getf (q := 54) C clX11 (zon C zo_14) kd_14 (k := 46) (by decide) q_1148 rfl (zfv_i kd_14 rfl) dX11_see_51 rfl ?_
        refine z_iconst (q := 55) C dX11_see_54 rfl ?_
        refine z_iadd (q := 56) C dX11_see_55 rfl ?_
        obtain ⟨h8, eh8, hF⟩ := zlet_e hF
        refine z_putf (q := 59) C clX11 (zon C zo_14) kd_14 (k := 46) (x := (h7 14 46) + 1) (by decide) q_1148 rfl rfl rfl rfl (((zfv_i kd_14 rfl)).trans (by rw [if_pos rfl])) dX11_see_56 rfl eh8 ?_
        refine z_aload_n (q := 60) C dX11_see_59 0 rfl rfl rfl ?_
        refine z_getf (q := 63) C clX11 (zon C zo_14) kd_14 (k := 46) (by decide) q_1148 rfl (zfv_i kd_14 rfl) dX11_see_60 rfl ?_
        cases hF
        exact z_iret C e1 e2 dX11_see_63
      · have hF := (if_pos c3).symm.trans hF
        refine z_iconst (q := 28) C dX11_see_27 rfl ?_
        cases hF
        exact z_iret C e1 e2 dX11_see_28
set_option maxRecDepth 20000 in
set_option maxHeartbeats 4000000 in
theorem M_fX11_see {l : Launch} {D : va_G} {cy : ClassId} {α : Nat → Nat} {n : Nat} {σ : zSg} {d : Nat} (hd : 3 ≤ d) {a1 : Int} {a2 : Int} {h : zH} {r : Int} {g : zH} (hF : fX11_see a1 a2 h = some (r, g)) : zMet l yX11_see cX11_see 3 (some .int) (zrm d) D cy α n σ [.ref (α 14), .int (zi a1), .int (zi a2)] h (some (.int (zi r))) g := by
  obtain ⟨d, rfl⟩ : ∃ e, d = e + 1 := ⟨d - 1, by omega⟩
  refine z_met (by decide +kernel) (Nat.le_of_ble_eq_true rfl) (fun κ k1 k2 k3 k4 k5 k6 k7 k8 k9 C => ?_)
  subst k1 k3 k4 k5 k6 k7
  exact J_fX11_see C k2 hd k8 k9 hF
set_option maxRecDepth 20000 in
set_option maxHeartbeats 4000000 in
theorem J_fX11_falseBy_c4b {κ : zT} (C : zC κ RX11 cX11_falseBy 4 (some .int)) {d : Nat} (hR : zR κ = zrm (d + 1)) (hd : 4 ≤ d + 1) {N : Nat} {h : zH} {r : Int} (e1 : zrv κ = some (.int (zi r))) (e2 : zhf κ = h) {K4 : Int → Int → Int → Option Int} (hK4 : ∀ (l1 : Int) (l2 : Int) (l3 : Int), K4 l1 l2 l3 = some r → Z κ h 4 [(0, .ref (zα κ 14)), (1, .int (zi l1)), (2, .int (zi l2)), (3, .int (zi l3))] []) (l1 : Int) (l2 : Int) (l3 : Int) (hF : fX11_falseBy_c4b N h K4 l1 l2 l3 = some r) : Z κ h 4 [(0, .ref (zα κ 14)), (1, .int (zi l1)), (2, .int (zi l2)), (3, .int (zi l3))] [] := by
  unfold fX11_falseBy_c4b at hF
  refine z_iload_n (q := 5) C dX11_falseBy_4 3 rfl rfl rfl ?_
  refine z_aload_n (q := 6) C dX11_falseBy_5 0 rfl rfl rfl ?_
  refine z_getf (q := 9) C clX11 (zon C zo_14) kd_14 (k := 46) (by decide) q_1148 rfl (zfv_i kd_14 rfl) dX11_falseBy_6 rfl ?_
  refine z_icmp_ge (tgt := 46) (q := 12) C dX11_falseBy_9 (by decide) rfl (fun c1 => ?_) (fun c1 => ?_)
  · have hF := (if_pos c1).symm.trans hF
    refine z_iload_n (q := 47) C dX11_falseBy_46 2 rfl rfl rfl ?_
    cases hF
    exact z_iret C e1 e2 dX11_falseBy_47
  · have hF := (if_neg c1).symm.trans hF
    refine z_iload_n (q := 13) C dX11_falseBy_12 2 rfl rfl rfl ?_
    refine z_aload_n (q := 14) C dX11_falseBy_13 0 rfl rfl rfl ?_
    refine z_aload_n (q := 15) C dX11_falseBy_14 0 rfl rfl rfl ?_
    refine z_getf (q := 18) C clX11 (zon C zo_14) kd_14 (k := 44) (by decide) q_1146 rfl (zfv_r kd_14 rfl fr_14_44) dX11_falseBy_15 rfl ?_
    refine z_iload_n (q := 19) C dX11_falseBy_18 3 rfl rfl rfl ?_
    obtain ⟨g2, hF⟩ := zif_none hF
    refine z_iald (q := 20) C (zon C zo_73) kd_73 g2.1 (by rw [ln_73]; exact g2.2) dX11_falseBy_19 rfl ?_
    refine z_iload_n (q := 21) C dX11_falseBy_20 1 rfl rfl rfl ?_
    obtain ⟨v3, ev3, hF⟩ := zb_e hF
    refine z_callV (q := 24) (o := 14) (av := [.int (zi (h 73 (zw l3).toNat)), .int (zi l1)]) (rest := [.int (zi l2)]) (stk2 := [.int (zi v3), .int (zi l2)]) C hR clX11 (zon C zo_14) kd_14 (M_fX11_hoursBy (zlv hd rfl) ev3) mY_X11_hoursBy q_1534 (Nat.le_of_ble_eq_true rfl) dX11_falseBy_21 rfl rfl rfl ?_
    refine z_aload_n (q := 25) C dX11_falseBy_24 0 rfl rfl rfl ?_
    refine z_getf (q := 28) C clX11 (zon C zo_14) kd_14 (k := 45) (by decide) q_1147 rfl (zfv_r kd_14 rfl fr_14_45) dX11_falseBy_25 rfl ?_
    refine z_iload_n (q := 29) C dX11_falseBy_28 3 rfl rfl rfl ?_
    obtain ⟨g4, hF⟩ := zif_none hF
    refine z_iald (q := 30) C (zon C zo_74) kd_74 g4.1 (by rw [ln_74]; exact g4.2) dX11_falseBy_29 rfl ?_
    refine z_icmp_ne (tgt := 37) (q := 33) C dX11_falseBy_30 (by decide) rfl (fun c5 => ?_) (fun c5 => ?_)
    · have hF := (if_neg c5).symm.trans hF
      refine z_iconst (q := 38) C dX11_falseBy_37 rfl ?_
      refine z_iadd (q := 39) C dX11_falseBy_38 rfl ?_
      refine z_istore_n (q := 40) C dX11_falseBy_39 (by decide) rfl rfl rfl ?_
      refine z_iinc (q := 43) (x := l3) C dX11_falseBy_40 (j := 3) rfl (by decide) rfl rfl ?_
      refine z_goto (q := 4) C dX11_falseBy_43 (by decide) ?_
      exact z_sub (hK4 _ _ _ hF) [2, 3, 1, 0] rfl
    · have hF := (if_pos c5).symm.trans hF
      refine z_iconst (q := 34) C dX11_falseBy_33 rfl ?_
      refine z_goto (q := 38) C dX11_falseBy_34 (by decide) ?_
      refine z_iadd (q := 39) C dX11_falseBy_38 rfl ?_
      refine z_istore_n (q := 40) C dX11_falseBy_39 (by decide) rfl rfl rfl ?_
      refine z_iinc (q := 43) (x := l3) C dX11_falseBy_40 (j := 3) rfl (by decide) rfl rfl ?_
      refine z_goto (q := 4) C dX11_falseBy_43 (by decide) ?_
      exact z_sub (hK4 _ _ _ hF) [2, 3, 1, 0] rfl
set_option maxRecDepth 20000 in
set_option maxHeartbeats 4000000 in
theorem J_fX11_falseBy_c4 {κ : zT} (C : zC κ RX11 cX11_falseBy 4 (some .int)) {d : Nat} (hR : zR κ = zrm (d + 1)) (hd : 4 ≤ d + 1) {N : Nat} {h : zH} {r : Int} (e1 : zrv κ = some (.int (zi r))) (e2 : zhf κ = h) : ∀ (k : Nat) (l1 : Int) (l2 : Int) (l3 : Int), fX11_falseBy_c4 N h k l1 l2 l3 = some r → Z κ h 4 [(0, .ref (zα κ 14)), (1, .int (zi l1)), (2, .int (zi l2)), (3, .int (zi l3))] [] := by
  intro k
  induction k with
  | zero => intro l1 l2 l3 hF; cases hF
  | succ k ih => intro l1 l2 l3 hF; exact J_fX11_falseBy_c4b C hR hd e1 e2 ih l1 l2 l3 hF
set_option maxRecDepth 20000 in
set_option maxHeartbeats 4000000 in
theorem J_fX11_falseBy {κ : zT} (C : zC κ RX11 cX11_falseBy 4 (some .int)) {d : Nat} (hR : zR κ = zrm (d + 1)) (hd : 4 ≤ d + 1) {N : Nat} {h : zH} {r : Int} (e1 : zrv κ = some (.int (zi r))) (e2 : zhf κ = h) {a1 : Int} (hF : fX11_falseBy N a1 h = some r) : Z κ h 0 [(0, .ref (zα κ 14)), (1, .int (zi a1))] [] := by
  unfold fX11_falseBy at hF
  refine z_iconst (q := 1) C dX11_falseBy_0 rfl ?_
  refine z_istore_n (q := 2) C dX11_falseBy_1 (by decide) rfl rfl rfl ?_
  refine z_iconst (q := 3) C dX11_falseBy_2 rfl ?_
  refine z_istore_n (q := 4) C dX11_falseBy_3 (by decide) rfl rfl rfl ?_
  exact z_sub (J_fX11_falseBy_c4 C hR hd e1 e2 N _ _ _ hF) [2, 3, 1, 0] rfl
set_option maxRecDepth 20000 in
set_option maxHeartbeats 4000000 in
theorem M_fX11_falseBy {l : Launch} {D : va_G} {cy : ClassId} {α : Nat → Nat} {n : Nat} {σ : zSg} {d : Nat} (hd : 4 ≤ d) {N : Nat} {a1 : Int} {h : zH} {r : Int} (hF : fX11_falseBy N a1 h = some r) : zMet l yX11_falseBy cX11_falseBy 4 (some .int) (zrm d) D cy α n σ [.ref (α 14), .int (zi a1)] h (some (.int (zi r))) h := by
  obtain ⟨d, rfl⟩ : ∃ e, d = e + 1 := ⟨d - 1, by omega⟩
  refine z_met (by decide +kernel) (Nat.le_of_ble_eq_true rfl) (fun κ k1 k2 k3 k4 k5 k6 k7 k8 k9 C => ?_)
  subst k1 k3 k4 k5 k6 k7
  exact J_fX11_falseBy C k2 hd k8 k9 hF
set_option maxRecDepth 20000 in
set_option maxHeartbeats 4000000 in
theorem J_fX11_could_c18b {κ : zT} (C : zC κ RX11 cX11_could 4 (some .int)) {d : Nat} (hR : zR κ = zrm (d + 1)) (hd : 5 ≤ d + 1) {N : Nat} {h : zH} {r : Int} (e1 : zrv κ = some (.int (zi r))) (e2 : zhf κ = h) {K18 : Int → Int → Int → Option Int} (hK18 : ∀ (l1 : Int) (l2 : Int) (l3 : Int), K18 l1 l2 l3 = some r → Z κ h 18 [(0, .ref (zα κ 14)), (1, .int (zi l1)), (2, .int (zi l2)), (3, .int (zi l3))] []) (l1 : Int) (l2 : Int) (l3 : Int) (hF : fX11_could_c18b N h K18 l1 l2 l3 = some r) : Z κ h 18 [(0, .ref (zα κ 14)), (1, .int (zi l1)), (2, .int (zi l2)), (3, .int (zi l3))] [] := by
  unfold fX11_could_c18b at hF
  refine z_iload_n (q := 19) C dX11_could_18 3 rfl rfl rfl ?_
  refine z_iconst (q := 20) C dX11_could_19 rfl ?_
  refine z_aload_n (q := 21) C dX11_could_20 0 rfl rfl rfl ?_
  refine z_getf (q := 24) C clX11 (zon C zo_14) kd_14 (k := 28) (by decide) q_1130 rfl (zfv_i kd_14 rfl) dX11_could_21 rfl ?_
  refine z_ishl (q := 25) C dX11_could_24 rfl ?_
  refine z_icmp_ge (tgt := 52) (q := 28) C dX11_could_25 (by decide) rfl (fun c1 => ?_) (fun c1 => ?_)
  · have hF := (if_pos c1).symm.trans hF
    refine z_iload_n (q := 53) C dX11_could_52 1 rfl rfl rfl ?_
    refine z_iconst (q := 54) C dX11_could_53 rfl ?_
    refine z_icmp_ne (tgt := 61) (q := 57) C dX11_could_54 (by decide) rfl (fun c2 => ?_) (fun c2 => ?_)
    · have hF := (if_neg c2).symm.trans hF
      refine z_iconst (q := 62) C dX11_could_61 rfl ?_
      cases hF
      exact z_iret C e1 e2 dX11_could_62
    · have hF := (if_pos c2).symm.trans hF
      refine z_iload_n (q := 58) C dX11_could_57 2 rfl rfl rfl ?_
      refine z_goto (q := 62) C dX11_could_58 (by decide) ?_
      cases hF
      exact z_iret C e1 e2 dX11_could_62
  · have hF := (if_neg c1).symm.trans hF
    refine z_aload_n (q := 29) C dX11_could_28 0 rfl rfl rfl ?_
    refine z_iload_n (q := 30) C dX11_could_29 3 rfl rfl rfl ?_
    obtain ⟨v3, ev3, hF⟩ := zb_e hF
    refine z_callV (q := 33) (o := 14) (av := [.int (zi l3)]) (rest := []) (stk2 := [.int (zi v3)]) C hR clX11 (zon C zo_14) kd_14 (M_fX11_falseBy (zlv hd rfl) ev3) mY_X11_falseBy q_1705 (Nat.le_of_ble_eq_true rfl) dX11_could_30 rfl rfl rfl ?_
    refine z_if_ne (tgt := 46) (q := 36) C dX11_could_33 (by decide) rfl (fun c4 => ?_) (fun c4 => ?_)
    · have hF := (if_neg c4).symm.trans hF
      refine z_iinc (q := 49) (x := l3) C dX11_could_46 (j := 3) rfl (by decide) rfl rfl ?_
      refine z_goto (q := 18) C dX11_could_49 (by decide) ?_
      exact z_sub (hK18 _ _ _ hF) [1, 2, 3, 0] rfl
    · have hF := (if_pos c4).symm.trans hF
      refine z_iload_n (q := 37) C dX11_could_36 2 rfl rfl rfl ?_
      refine z_iload_n (q := 38) C dX11_could_37 1 rfl rfl rfl ?_
      refine z_icmp_ne (tgt := 43) (q := 41) C dX11_could_38 (by decide) rfl (fun c5 => ?_) (fun c5 => ?_)
      · have hF := (if_neg c5).symm.trans hF
        refine z_iinc (q := 46) (x := l2) C dX11_could_43 (j := 2) rfl (by decide) rfl rfl ?_
        refine z_iinc (q := 49) (x := l3) C dX11_could_46 (j := 3) rfl (by decide) rfl rfl ?_
        refine z_goto (q := 18) C dX11_could_49 (by decide) ?_
        exact z_sub (hK18 _ _ _ hF) [2, 3, 1, 0] rfl
      · have hF := (if_pos c5).symm.trans hF
        refine z_iload_n (q := 42) C dX11_could_41 3 rfl rfl rfl ?_
        cases hF
        exact z_iret C e1 e2 dX11_could_42
set_option maxRecDepth 20000 in
set_option maxHeartbeats 4000000 in
theorem J_fX11_could_c18 {κ : zT} (C : zC κ RX11 cX11_could 4 (some .int)) {d : Nat} (hR : zR κ = zrm (d + 1)) (hd : 5 ≤ d + 1) {N : Nat} {h : zH} {r : Int} (e1 : zrv κ = some (.int (zi r))) (e2 : zhf κ = h) : ∀ (k : Nat) (l1 : Int) (l2 : Int) (l3 : Int), fX11_could_c18 N h k l1 l2 l3 = some r → Z κ h 18 [(0, .ref (zα κ 14)), (1, .int (zi l1)), (2, .int (zi l2)), (3, .int (zi l3))] [] := by
  intro k
  induction k with
  | zero => intro l1 l2 l3 hF; cases hF
  | succ k ih => intro l1 l2 l3 hF; exact J_fX11_could_c18b C hR hd e1 e2 ih l1 l2 l3 hF
set_option maxRecDepth 20000 in
set_option maxHeartbeats 4000000 in
theorem J_fX11_could {κ : zT} (C : zC κ RX11 cX11_could 4 (some .int)) {d : Nat} (hR : zR κ = zrm (d + 1)) (hd : 5 ≤ d + 1) {N : Nat} {h : zH} {r : Int} (e1 : zrv κ = some (.int (zi r))) (e2 : zhf κ = h) {a1 : Int} (hF : fX11_could N a1 h = some r) : Z κ h 0 [(0, .ref (zα κ 14)), (1, .int (zi a1))] [] := by
  unfold fX11_could at hF
  refine z_aload_n (q := 1) C dX11_could_0 0 rfl rfl rfl ?_
  refine z_getf (q := 4) C clX11 (zon C zo_14) kd_14 (k := 28) (by decide) q_1130 rfl (zfv_i kd_14 rfl) dX11_could_1 rfl ?_
  refine z_if_eq (tgt := 12) (q := 7) C dX11_could_4 (by decide) rfl (fun c1 => ?_) (fun c1 => ?_)
  · have hF := (if_pos c1).symm.trans hF
    refine z_iconst (q := 13) C dX11_could_12 rfl ?_
    cases hF
    exact z_iret C e1 e2 dX11_could_13
  · have hF := (if_neg c1).symm.trans hF
    refine z_iload_n (q := 8) C dX11_could_7 1 rfl rfl rfl ?_
    refine z_iconst (q := 9) C dX11_could_8 rfl ?_
    refine z_icmp_ge (tgt := 14) (q := 12) C dX11_could_9 (by decide) rfl (fun c2 => ?_) (fun c2 => ?_)
    · have hF := (if_pos c2).symm.trans hF
      refine z_iconst (q := 15) C dX11_could_14 rfl ?_
      refine z_istore_n (q := 16) C dX11_could_15 (by decide) rfl rfl rfl ?_
      refine z_iconst (q := 17) C dX11_could_16 rfl ?_
      refine z_istore_n (q := 18) C dX11_could_17 (by decide) rfl rfl rfl ?_
      exact z_sub (J_fX11_could_c18 C hR hd e1 e2 N _ _ _ hF) [2, 3, 1, 0] rfl
    · have hF := (if_neg c2).symm.trans hF
      refine z_iconst (q := 13) C dX11_could_12 rfl ?_
      cases hF
      exact z_iret C e1 e2 dX11_could_13
set_option maxRecDepth 20000 in
set_option maxHeartbeats 4000000 in
theorem M_fX11_could {l : Launch} {D : va_G} {cy : ClassId} {α : Nat → Nat} {n : Nat} {σ : zSg} {d : Nat} (hd : 5 ≤ d) {N : Nat} {a1 : Int} {h : zH} {r : Int} (hF : fX11_could N a1 h = some r) : zMet l yX11_could cX11_could 4 (some .int) (zrm d) D cy α n σ [.ref (α 14), .int (zi a1)] h (some (.int (zi r))) h := by
  obtain ⟨d, rfl⟩ : ∃ e, d = e + 1 := ⟨d - 1, by omega⟩
  refine z_met (by decide +kernel) (Nat.le_of_ble_eq_true rfl) (fun κ k1 k2 k3 k4 k5 k6 k7 k8 k9 C => ?_)
  subst k1 k3 k4 k5 k6 k7
  exact J_fX11_could C k2 hd k8 k9 hF
set_option maxRecDepth 20000 in
set_option maxHeartbeats 4000000 in
theorem J_fX11_sure_c4b {κ : zT} (C : zC κ RX11 cX11_sure 3 (some .int)) {d : Nat} (hR : zR κ = zrm (d + 1)) (hd : 5 ≤ d + 1) {N : Nat} {h : zH} {r : Int} (e1 : zrv κ = some (.int (zi r))) (e2 : zhf κ = h) {K4 : Int → Int → Option Int} (hK4 : ∀ (l1 : Int) (l2 : Int), K4 l1 l2 = some r → Z κ h 4 [(0, .ref (zα κ 14)), (1, .int (zi l1)), (2, .int (zi l2))] []) (l1 : Int) (l2 : Int) (hF : fX11_sure_c4b N h K4 l1 l2 = some r) : Z κ h 4 [(0, .ref (zα κ 14)), (1, .int (zi l1)), (2, .int (zi l2))] [] := by
  unfold fX11_sure_c4b at hF
  refine z_aload_n (q := 5) C dX11_sure_4 0 rfl rfl rfl ?_
  refine z_getf (q := 8) C clX11 (zon C zo_14) kd_14 (k := 28) (by decide) q_1130 rfl (zfv_i kd_14 rfl) dX11_sure_5 rfl ?_
  refine z_if_le (tgt := 52) (q := 11) C dX11_sure_8 (by decide) rfl (fun c1 => ?_) (fun c1 => ?_)
  · have hF := (if_pos c1).symm.trans hF
    refine z_iload_n (q := 53) C dX11_sure_52 1 rfl rfl rfl ?_
    cases hF
    exact z_iret C e1 e2 dX11_sure_53
  · have hF := (if_neg c1).symm.trans hF
    refine z_iload_n (q := 12) C dX11_sure_11 2 rfl rfl rfl ?_
    refine z_iconst (q := 13) C dX11_sure_12 rfl ?_
    refine z_aload_n (q := 14) C dX11_sure_13 0 rfl rfl rfl ?_
    refine z_getf (q := 17) C clX11 (zon C zo_14) kd_14 (k := 28) (by decide) q_1130 rfl (zfv_i kd_14 rfl) dX11_sure_14 rfl ?_
    refine z_ishl (q := 18) C dX11_sure_17 rfl ?_
    refine z_icmp_ge (tgt := 52) (q := 21) C dX11_sure_18 (by decide) rfl (fun c2 => ?_) (fun c2 => ?_)
    · have hF := (if_pos c2).symm.trans hF
      refine z_iload_n (q := 53) C dX11_sure_52 1 rfl rfl rfl ?_
      cases hF
      exact z_iret C e1 e2 dX11_sure_53
    · have hF := (if_neg c2).symm.trans hF
      refine z_aload_n (q := 22) C dX11_sure_21 0 rfl rfl rfl ?_
      refine z_iload_n (q := 23) C dX11_sure_22 2 rfl rfl rfl ?_
      obtain ⟨v3, ev3, hF⟩ := zb_e hF
      refine z_callV (q := 26) (o := 14) (av := [.int (zi l2)]) (rest := []) (stk2 := [.int (zi v3)]) C hR clX11 (zon C zo_14) kd_14 (M_fX11_falseBy (zlv hd rfl) ev3) mY_X11_falseBy q_1705 (Nat.le_of_ble_eq_true rfl) dX11_sure_23 rfl rfl rfl ?_
      refine z_if_le (tgt := 33) (q := 29) C dX11_sure_26 (by decide) rfl (fun c4 => ?_) (fun c4 => ?_)
      · have hF := (if_pos c4).symm.trans hF
        refine z_iload_n (q := 34) C dX11_sure_33 1 rfl rfl rfl ?_
        refine z_iconst (q := 35) C dX11_sure_34 rfl ?_
        refine z_icmp_ne (tgt := 42) (q := 38) C dX11_sure_35 (by decide) rfl (fun c5 => ?_) (fun c5 => ?_)
        · have hF := (if_neg c5).symm.trans hF
          refine z_iload_n (q := 43) C dX11_sure_42 1 rfl rfl rfl ?_
          refine z_iload_n (q := 44) C dX11_sure_43 2 rfl rfl rfl ?_
          refine z_iand (q := 45) C dX11_sure_44 rfl ?_
          refine z_istore_n (q := 46) C dX11_sure_45 (by decide) rfl rfl rfl ?_
          refine z_iinc (q := 49) (x := l2) C dX11_sure_46 (j := 2) rfl (by decide) rfl rfl ?_
          refine z_goto (q := 4) C dX11_sure_49 (by decide) ?_
          exact z_sub (hK4 _ _ hF) [2, 1, 0] rfl
        · have hF := (if_pos c5).symm.trans hF
          refine z_iload_n (q := 39) C dX11_sure_38 2 rfl rfl rfl ?_
          refine z_goto (q := 45) C dX11_sure_39 (by decide) ?_
          refine z_istore_n (q := 46) C dX11_sure_45 (by decide) rfl rfl rfl ?_
          refine z_iinc (q := 49) (x := l2) C dX11_sure_46 (j := 2) rfl (by decide) rfl rfl ?_
          refine z_goto (q := 4) C dX11_sure_49 (by decide) ?_
          exact z_sub (hK4 _ _ hF) [2, 1, 0] rfl
      · have hF := (if_neg c4).symm.trans hF
        refine z_iload_n (q := 30) C dX11_sure_29 1 rfl rfl rfl ?_
        refine z_goto (q := 45) C dX11_sure_30 (by decide) ?_
        refine z_istore_n (q := 46) C dX11_sure_45 (by decide) rfl rfl rfl ?_
        refine z_iinc (q := 49) (x := l2) C dX11_sure_46 (j := 2) rfl (by decide) rfl rfl ?_
        refine z_goto (q := 4) C dX11_sure_49 (by decide) ?_
        exact z_sub (hK4 _ _ hF) [2, 1, 0] rfl
set_option maxRecDepth 20000 in
set_option maxHeartbeats 4000000 in
theorem J_fX11_sure_c4 {κ : zT} (C : zC κ RX11 cX11_sure 3 (some .int)) {d : Nat} (hR : zR κ = zrm (d + 1)) (hd : 5 ≤ d + 1) {N : Nat} {h : zH} {r : Int} (e1 : zrv κ = some (.int (zi r))) (e2 : zhf κ = h) : ∀ (k : Nat) (l1 : Int) (l2 : Int), fX11_sure_c4 N h k l1 l2 = some r → Z κ h 4 [(0, .ref (zα κ 14)), (1, .int (zi l1)), (2, .int (zi l2))] [] := by
  intro k
  induction k with
  | zero => intro l1 l2 hF; cases hF
  | succ k ih => intro l1 l2 hF; exact J_fX11_sure_c4b C hR hd e1 e2 ih l1 l2 hF
set_option maxRecDepth 20000 in
set_option maxHeartbeats 4000000 in
theorem J_fX11_sure {κ : zT} (C : zC κ RX11 cX11_sure 3 (some .int)) {d : Nat} (hR : zR κ = zrm (d + 1)) (hd : 5 ≤ d + 1) {N : Nat} {h : zH} {r : Int} (e1 : zrv κ = some (.int (zi r))) (e2 : zhf κ = h) (hF : fX11_sure N h = some r) : Z κ h 0 [(0, .ref (zα κ 14))] [] := by
  unfold fX11_sure at hF
  refine z_iconst (q := 1) C dX11_sure_0 rfl ?_
  refine z_istore_n (q := 2) C dX11_sure_1 (by decide) rfl rfl rfl ?_
  refine z_iconst (q := 3) C dX11_sure_2 rfl ?_
  refine z_istore_n (q := 4) C dX11_sure_3 (by decide) rfl rfl rfl ?_
  exact z_sub (J_fX11_sure_c4 C hR hd e1 e2 N _ _ hF) [2, 1, 0] rfl
set_option maxRecDepth 20000 in
set_option maxHeartbeats 4000000 in
theorem M_fX11_sure {l : Launch} {D : va_G} {cy : ClassId} {α : Nat → Nat} {n : Nat} {σ : zSg} {d : Nat} (hd : 5 ≤ d) {N : Nat} {h : zH} {r : Int} (hF : fX11_sure N h = some r) : zMet l yX11_sure cX11_sure 3 (some .int) (zrm d) D cy α n σ [.ref (α 14)] h (some (.int (zi r))) h := by
  obtain ⟨d, rfl⟩ : ∃ e, d = e + 1 := ⟨d - 1, by omega⟩
  refine z_met (by decide +kernel) (Nat.le_of_ble_eq_true rfl) (fun κ k1 k2 k3 k4 k5 k6 k7 k8 k9 C => ?_)
  subst k1 k3 k4 k5 k6 k7
  exact J_fX11_sure C k2 hd k8 k9 hF
set_option maxRecDepth 20000 in
set_option maxHeartbeats 4000000 in
theorem J_fX11_wrong_c16b {κ : zT} (C : zC κ RX11 cX11_wrong 3 (some .int)) {d : Nat} (hR : zR κ = zrm (d + 1)) (hd : 5 ≤ d + 1) {N : Nat} {h : zH} {r : Int} (e1 : zrv κ = some (.int (zi r))) (e2 : zhf κ = h) {K16 : Int → Int → Option Int} (hK16 : ∀ (l1 : Int) (l2 : Int), K16 l1 l2 = some r → Z κ h 16 [(0, .ref (zα κ 14)), (1, .int (zi l1)), (2, .int (zi l2))] []) (l1 : Int) (l2 : Int) (hF : fX11_wrong_c16b N h K16 l1 l2 = some r) : Z κ h 16 [(0, .ref (zα κ 14)), (1, .int (zi l1)), (2, .int (zi l2))] [] := by
  unfold fX11_wrong_c16b at hF
  refine z_iload_n (q := 17) C dX11_wrong_16 2 rfl rfl rfl ?_
  refine z_iconst (q := 18) C dX11_wrong_17 rfl ?_
  refine z_aload_n (q := 19) C dX11_wrong_18 0 rfl rfl rfl ?_
  refine z_getf (q := 22) C clX11 (zon C zo_14) kd_14 (k := 28) (by decide) q_1130 rfl (zfv_i kd_14 rfl) dX11_wrong_19 rfl ?_
  refine z_ishl (q := 23) C dX11_wrong_22 rfl ?_
  refine z_icmp_ge (tgt := 42) (q := 26) C dX11_wrong_23 (by decide) rfl (fun c1 => ?_) (fun c1 => ?_)
  · have hF := (if_pos c1).symm.trans hF
    refine z_iload_n (q := 43) C dX11_wrong_42 1 rfl rfl rfl ?_
    cases hF
    exact z_iret C e1 e2 dX11_wrong_43
  · have hF := (if_neg c1).symm.trans hF
    refine z_iload_n (q := 27) C dX11_wrong_26 1 rfl rfl rfl ?_
    refine z_aload_n (q := 28) C dX11_wrong_27 0 rfl rfl rfl ?_
    refine z_iload_n (q := 29) C dX11_wrong_28 2 rfl rfl rfl ?_
    obtain ⟨v2, ev2, hF⟩ := zb_e hF
    refine z_callV (q := 32) (o := 14) (av := [.int (zi l2)]) (rest := [.int (zi l1)]) (stk2 := [.int (zi v2), .int (zi l1)]) C hR clX11 (zon C zo_14) kd_14 (M_fX11_falseBy (zlv hd rfl) ev2) mY_X11_falseBy q_1705 (Nat.le_of_ble_eq_true rfl) dX11_wrong_29 rfl rfl rfl ?_
    refine z_callS (q := 35) (av := [.int (zi l1), .int (zi v2)]) (rest := []) (stk2 := [.int (zi (fJ9_min_7cf53 l1 v2))]) C hR (M_fJ9_min_7cf53 (zlv hd rfl) rfl) mY_J9_min_7cf53 q_1542 (Nat.le_of_ble_eq_true rfl) dX11_wrong_32 rfl rfl rfl ?_
    obtain ⟨v3, ev3, hF⟩ := zlet_e hF
    refine z_istoreE_n (q := 36) C ev3 dX11_wrong_35 (by decide) rfl rfl rfl ?_
    refine z_iinc (q := 39) (x := l2) C dX11_wrong_36 (j := 2) rfl (by decide) rfl rfl ?_
    refine z_goto (q := 16) C dX11_wrong_39 (by decide) ?_
    exact z_sub (hK16 _ _ hF) [2, 1, 0] rfl
set_option maxRecDepth 20000 in
set_option maxHeartbeats 4000000 in
theorem J_fX11_wrong_c16 {κ : zT} (C : zC κ RX11 cX11_wrong 3 (some .int)) {d : Nat} (hR : zR κ = zrm (d + 1)) (hd : 5 ≤ d + 1) {N : Nat} {h : zH} {r : Int} (e1 : zrv κ = some (.int (zi r))) (e2 : zhf κ = h) : ∀ (k : Nat) (l1 : Int) (l2 : Int), fX11_wrong_c16 N h k l1 l2 = some r → Z κ h 16 [(0, .ref (zα κ 14)), (1, .int (zi l1)), (2, .int (zi l2))] [] := by
  intro k
  induction k with
  | zero => intro l1 l2 hF; cases hF
  | succ k ih => intro l1 l2 hF; exact J_fX11_wrong_c16b C hR hd e1 e2 ih l1 l2 hF
set_option maxRecDepth 20000 in
set_option maxHeartbeats 4000000 in
theorem J_fX11_wrong {κ : zT} (C : zC κ RX11 cX11_wrong 3 (some .int)) {d : Nat} (hR : zR κ = zrm (d + 1)) (hd : 5 ≤ d + 1) {N : Nat} {h : zH} {r : Int} (e1 : zrv κ = some (.int (zi r))) (e2 : zhf κ = h) (hF : fX11_wrong N h = some r) : Z κ h 0 [(0, .ref (zα κ 14))] [] := by
  unfold fX11_wrong at hF
  refine z_aload_n (q := 1) C dX11_wrong_0 0 rfl rfl rfl ?_
  refine z_getf (q := 4) C clX11 (zon C zo_14) kd_14 (k := 28) (by decide) q_1130 rfl (zfv_i kd_14 rfl) dX11_wrong_1 rfl ?_
  refine z_if_ne (tgt := 9) (q := 7) C dX11_wrong_4 (by decide) rfl (fun c1 => ?_) (fun c1 => ?_)
  · have hF := (if_neg c1).symm.trans hF
    refine z_aload_n (q := 10) C dX11_wrong_9 0 rfl rfl rfl ?_
    refine z_getf (q := 13) C clX11 (zon C zo_14) kd_14 (k := 46) (by decide) q_1148 rfl (zfv_i kd_14 rfl) dX11_wrong_10 rfl ?_
    obtain ⟨v2, ev2, hF⟩ := zlet_e hF
    refine z_istoreE_n (q := 14) C ev2 dX11_wrong_13 (by decide) rfl rfl rfl ?_
    refine z_iconst (q := 15) C dX11_wrong_14 rfl ?_
    refine z_istore_n (q := 16) C dX11_wrong_15 (by decide) rfl rfl rfl ?_
    exact z_sub (J_fX11_wrong_c16 C hR hd e1 e2 N _ _ hF) [2, 1, 0] rfl
  · have hF := (if_pos c1).symm.trans hF
    refine z_iconst (q := 8) C dX11_wrong_7 rfl ?_
    cases hF
    exact z_iret C e1 e2 dX11_wrong_8
set_option maxRecDepth 20000 in
set_option maxHeartbeats 4000000 in
theorem M_fX11_wrong {l : Launch} {D : va_G} {cy : ClassId} {α : Nat → Nat} {n : Nat} {σ : zSg} {d : Nat} (hd : 5 ≤ d) {N : Nat} {h : zH} {r : Int} (hF : fX11_wrong N h = some r) : zMet l yX11_wrong cX11_wrong 3 (some .int) (zrm d) D cy α n σ [.ref (α 14)] h (some (.int (zi r))) h := by
  obtain ⟨d, rfl⟩ : ∃ e, d = e + 1 := ⟨d - 1, by omega⟩
  refine z_met (by decide +kernel) (Nat.le_of_ble_eq_true rfl) (fun κ k1 k2 k3 k4 k5 k6 k7 k8 k9 C => ?_)
  subst k1 k3 k4 k5 k6 k7
  exact J_fX11_wrong C k2 hd k8 k9 hF
set_option maxRecDepth 20000 in
set_option maxHeartbeats 4000000 in
theorem J_fX11_works_c67b {κ : zT} (C : zC κ RX11 cX11_works 8 (some .int)) {d : Nat} (hR : zR κ = zrm (d + 1)) (hd : 2 ≤ d + 1) {N : Nat} {h : zH} {r : Int} (e1 : zrv κ = some (.int (zi r))) (e2 : zhf κ = h) {K47 : Int → Int → Int → Int → Int → Option Int} (hK47 : ∀ (l1 : Int) (l2 : Int) (l3 : Int) (l4 : Int) (l5 : Int), K47 l1 l2 l3 l4 l5 = some r → Z κ h 47 [(0, .ref (zα κ 14)), (1, .int (zi l1)), (2, .int (zi l2)), (3, .int (zi l3)), (4, .int (zi l4)), (5, .int (zi l5))] []) {K67 : Int → Int → Int → Int → Int → Int → Int → Option Int} (hK67 : ∀ (l1 : Int) (l2 : Int) (l3 : Int) (l4 : Int) (l5 : Int) (l6 : Int) (l7 : Int), K67 l1 l2 l3 l4 l5 l6 l7 = some r → Z κ h 67 [(0, .ref (zα κ 14)), (1, .int (zi l1)), (2, .int (zi l2)), (3, .int (zi l3)), (4, .int (zi l4)), (5, .int (zi l5)), (6, .int (zi l6)), (7, .int (zi l7))] []) (l1 : Int) (l2 : Int) (l3 : Int) (l4 : Int) (l5 : Int) (l6 : Int) (l7 : Int) (hF : fX11_works_c67b N h K47 K67 l1 l2 l3 l4 l5 l6 l7 = some r) : Z κ h 67 [(0, .ref (zα κ 14)), (1, .int (zi l1)), (2, .int (zi l2)), (3, .int (zi l3)), (4, .int (zi l4)), (5, .int (zi l5)), (6, .int (zi l6)), (7, .int (zi l7))] [] := by
  unfold fX11_works_c67b at hF
  refine z_iload (q := 69) C dX11_works_67 7 rfl rfl ?_
  refine z_iload_n (q := 70) C dX11_works_69 1 rfl rfl rfl ?_
  refine z_icmp_ge (tgt := 101) (q := 73) C dX11_works_70 (by decide) rfl (fun c1 => ?_) (fun c1 => ?_)
  · have hF := (if_pos c1).symm.trans hF
    refine z_iload (q := 103) C dX11_works_101 6 rfl rfl ?_
    refine z_iload (q := 105) C dX11_works_103 4 rfl rfl ?_
    refine z_icmp_le (tgt := 113) (q := 108) C dX11_works_105 (by decide) rfl (fun c2 => ?_) (fun c2 => ?_)
    · have hF := (if_pos c2).symm.trans hF
      refine z_iload_n (q := 114) C dX11_works_113 3 rfl rfl rfl ?_
      refine z_istore_n (q := 115) C dX11_works_114 (by decide) rfl rfl rfl ?_
      refine z_iload (q := 117) C dX11_works_115 4 rfl rfl ?_
      refine z_iload (q := 119) C dX11_works_117 6 rfl rfl ?_
      refine z_callS (q := 122) (av := [.int (zi l4), .int (zi l6)]) (rest := []) (stk2 := [.int (zi (fJ9_max_7cf53 l4 l6))]) C hR (M_fJ9_max_7cf53 (zlv hd rfl) rfl) mY_J9_max_7cf53 q_1721 (Nat.le_of_ble_eq_true rfl) dX11_works_119 rfl rfl rfl ?_
      obtain ⟨v3, ev3, hF⟩ := zlet_e hF
      refine z_istoreE (q := 124) C ev3 dX11_works_122 (by decide) rfl rfl ?_
      refine z_iinc (q := 127) (x := l5) C dX11_works_124 (j := 5) rfl (by decide) rfl rfl ?_
      refine z_goto (q := 47) C dX11_works_127 (by decide) ?_
      exact z_sub (hK47 _ _ _ _ _ hF) [3, 4, 5, 2, 1, 0] rfl
    · have hF := (if_neg c2).symm.trans hF
      refine z_iload (q := 110) C dX11_works_108 5 rfl rfl ?_
      refine z_goto (q := 114) C dX11_works_110 (by decide) ?_
      refine z_istore_n (q := 115) C dX11_works_114 (by decide) rfl rfl rfl ?_
      refine z_iload (q := 117) C dX11_works_115 4 rfl rfl ?_
      refine z_iload (q := 119) C dX11_works_117 6 rfl rfl ?_
      refine z_callS (q := 122) (av := [.int (zi l4), .int (zi l6)]) (rest := []) (stk2 := [.int (zi (fJ9_max_7cf53 l4 l6))]) C hR (M_fJ9_max_7cf53 (zlv hd rfl) rfl) mY_J9_max_7cf53 q_1721 (Nat.le_of_ble_eq_true rfl) dX11_works_119 rfl rfl rfl ?_
      obtain ⟨v4, ev4, hF⟩ := zlet_e hF
      refine z_istoreE (q := 124) C ev4 dX11_works_122 (by decide) rfl rfl ?_
      refine z_iinc (q := 127) (x := l5) C dX11_works_124 (j := 5) rfl (by decide) rfl rfl ?_
      refine z_goto (q := 47) C dX11_works_127 (by decide) ?_
      exact z_sub (hK47 _ _ _ _ _ hF) [3, 4, 5, 2, 1, 0] rfl
  · have hF := (if_neg c1).symm.trans hF
    refine z_iload (q := 75) C dX11_works_73 6 rfl rfl ?_
    refine z_aload_n (q := 76) C dX11_works_75 0 rfl rfl rfl ?_
    refine z_getf (q := 79) C clX11 (zon C zo_14) kd_14 (k := 34) (by decide) q_1136 rfl (zfv_r kd_14 rfl fr_14_34) dX11_works_76 rfl ?_
    refine z_bipush (q := 81) C dX11_works_79 bp_45 rfl ?_
    refine z_iconst (q := 82) C dX11_works_81 rfl ?_
    refine z_iload (q := 84) C dX11_works_82 5 rfl rfl ?_
    refine z_iload (q := 86) C dX11_works_84 7 rfl rfl ?_
    refine z_iadd (q := 87) C dX11_works_86 rfl ?_
    refine z_imul (q := 88) C dX11_works_87 rfl ?_
    refine z_iadd (q := 89) C dX11_works_88 rfl ?_
    refine z_iconst (q := 90) C dX11_works_89 rfl ?_
    refine z_iadd (q := 91) C dX11_works_90 rfl ?_
    obtain ⟨g5, hF⟩ := zif_none hF
    refine z_iald (q := 92) C (zon C zo_69) kd_69 g5.1 (by rw [ln_69]; exact g5.2) dX11_works_91 rfl ?_
    refine z_iadd (q := 93) C dX11_works_92 rfl ?_
    obtain ⟨v6, ev6, hF⟩ := zlet_e hF
    refine z_istoreE (q := 95) C ev6 dX11_works_93 (by decide) rfl rfl ?_
    refine z_iinc (q := 98) (x := l7) C dX11_works_95 (j := 7) rfl (by decide) rfl rfl ?_
    refine z_goto (q := 67) C dX11_works_98 (by decide) ?_
    exact z_sub (hK67 _ _ _ _ _ _ _ hF) [2, 3, 4, 5, 6, 7, 1, 0] rfl
set_option maxRecDepth 20000 in
set_option maxHeartbeats 4000000 in
theorem J_fX11_works_c67 {κ : zT} (C : zC κ RX11 cX11_works 8 (some .int)) {d : Nat} (hR : zR κ = zrm (d + 1)) (hd : 2 ≤ d + 1) {N : Nat} {h : zH} {r : Int} (e1 : zrv κ = some (.int (zi r))) (e2 : zhf κ = h) {K47 : Int → Int → Int → Int → Int → Option Int} (hK47 : ∀ (l1 : Int) (l2 : Int) (l3 : Int) (l4 : Int) (l5 : Int), K47 l1 l2 l3 l4 l5 = some r → Z κ h 47 [(0, .ref (zα κ 14)), (1, .int (zi l1)), (2, .int (zi l2)), (3, .int (zi l3)), (4, .int (zi l4)), (5, .int (zi l5))] []) : ∀ (k : Nat) (l1 : Int) (l2 : Int) (l3 : Int) (l4 : Int) (l5 : Int) (l6 : Int) (l7 : Int), fX11_works_c67 N h K47 k l1 l2 l3 l4 l5 l6 l7 = some r → Z κ h 67 [(0, .ref (zα κ 14)), (1, .int (zi l1)), (2, .int (zi l2)), (3, .int (zi l3)), (4, .int (zi l4)), (5, .int (zi l5)), (6, .int (zi l6)), (7, .int (zi l7))] [] := by
  intro k
  induction k with
  | zero => intro l1 l2 l3 l4 l5 l6 l7 hF; cases hF
  | succ k ih => intro l1 l2 l3 l4 l5 l6 l7 hF; exact J_fX11_works_c67b C hR hd e1 e2 hK47 ih l1 l2 l3 l4 l5 l6 l7 hF
set_option maxRecDepth 20000 in
set_option maxHeartbeats 4000000 in
theorem J_fX11_works_c47b {κ : zT} (C : zC κ RX11 cX11_works 8 (some .int)) {d : Nat} (hR : zR κ = zrm (d + 1)) (hd : 2 ≤ d + 1) {N : Nat} {h : zH} {r : Int} (e1 : zrv κ = some (.int (zi r))) (e2 : zhf κ = h) {K47 : Int → Int → Int → Int → Int → Option Int} (hK47 : ∀ (l1 : Int) (l2 : Int) (l3 : Int) (l4 : Int) (l5 : Int), K47 l1 l2 l3 l4 l5 = some r → Z κ h 47 [(0, .ref (zα κ 14)), (1, .int (zi l1)), (2, .int (zi l2)), (3, .int (zi l3)), (4, .int (zi l4)), (5, .int (zi l5))] []) (l1 : Int) (l2 : Int) (l3 : Int) (l4 : Int) (l5 : Int) (hF : fX11_works_c47b N h K47 l1 l2 l3 l4 l5 = some r) : Z κ h 47 [(0, .ref (zα κ 14)), (1, .int (zi l1)), (2, .int (zi l2)), (3, .int (zi l3)), (4, .int (zi l4)), (5, .int (zi l5))] [] := by
  unfold fX11_works_c47b at hF
  refine z_iload (q := 49) C dX11_works_47 5 rfl rfl ?_
  refine z_iload_n (q := 50) C dX11_works_49 1 rfl rfl rfl ?_
  refine z_iadd (q := 51) C dX11_works_50 rfl ?_
  refine z_aload_n (q := 52) C dX11_works_51 0 rfl rfl rfl ?_
  refine z_getf (q := 55) C clX11 (zon C zo_14) kd_14 (k := 34) (by decide) q_1136 rfl (zfv_r kd_14 rfl fr_14_34) dX11_works_52 rfl ?_
  refine z_bipush (q := 57) C dX11_works_55 bp_44 rfl ?_
  refine z_ialdc (q := 58) (j := 44) C (zon C zo_69) kd_69 zwk_44 (by rw [ln_69]; decide) dX11_works_57 rfl ?_
  refine z_icmp_gt (tgt := 130) (q := 61) C dX11_works_58 (by decide) rfl (fun c1 => ?_) (fun c1 => ?_)
  · have hF := (if_pos c1).symm.trans hF
    refine z_iload_n (q := 131) C dX11_works_130 2 rfl rfl rfl ?_
    refine z_if_ne (tgt := 138) (q := 134) C dX11_works_131 (by decide) rfl (fun c2 => ?_) (fun c2 => ?_)
    · have hF := (if_neg c2).symm.trans hF
      refine z_iload (q := 140) C dX11_works_138 4 rfl rfl ?_
      cases hF
      exact z_iret C e1 e2 dX11_works_140
    · have hF := (if_pos c2).symm.trans hF
      refine z_iload_n (q := 135) C dX11_works_134 3 rfl rfl rfl ?_
      refine z_goto (q := 140) C dX11_works_135 (by decide) ?_
      cases hF
      exact z_iret C e1 e2 dX11_works_140
  · have hF := (if_neg c1).symm.trans hF
    refine z_iconst (q := 62) C dX11_works_61 rfl ?_
    refine z_istore (q := 64) C dX11_works_62 (by decide) rfl rfl ?_
    refine z_iconst (q := 65) C dX11_works_64 rfl ?_
    refine z_istore (q := 67) C dX11_works_65 (by decide) rfl rfl ?_
    exact z_sub (J_fX11_works_c67 C hR hd e1 e2 hK47 N _ _ _ _ _ _ _ hF) [2, 3, 4, 5, 6, 7, 1, 0] rfl
set_option maxRecDepth 20000 in
set_option maxHeartbeats 4000000 in
theorem J_fX11_works_c47 {κ : zT} (C : zC κ RX11 cX11_works 8 (some .int)) {d : Nat} (hR : zR κ = zrm (d + 1)) (hd : 2 ≤ d + 1) {N : Nat} {h : zH} {r : Int} (e1 : zrv κ = some (.int (zi r))) (e2 : zhf κ = h) : ∀ (k : Nat) (l1 : Int) (l2 : Int) (l3 : Int) (l4 : Int) (l5 : Int), fX11_works_c47 N h k l1 l2 l3 l4 l5 = some r → Z κ h 47 [(0, .ref (zα κ 14)), (1, .int (zi l1)), (2, .int (zi l2)), (3, .int (zi l3)), (4, .int (zi l4)), (5, .int (zi l5))] [] := by
  intro k
  induction k with
  | zero => intro l1 l2 l3 l4 l5 hF; cases hF
  | succ k ih => intro l1 l2 l3 l4 l5 hF; exact J_fX11_works_c47b C hR hd e1 e2 ih l1 l2 l3 l4 l5 hF
set_option maxRecDepth 20000 in
set_option maxHeartbeats 4000000 in
theorem J_fX11_works {κ : zT} (C : zC κ RX11 cX11_works 8 (some .int)) {d : Nat} (hR : zR κ = zrm (d + 1)) (hd : 2 ≤ d + 1) {N : Nat} {h : zH} {r : Int} (e1 : zrv κ = some (.int (zi r))) (e2 : zhf κ = h) {a1 : Int} {a2 : Int} (hF : fX11_works N a1 a2 h = some r) : Z κ h 0 [(0, .ref (zα κ 14)), (1, .int (zi a1)), (2, .int (zi a2))] [] := by
  unfold fX11_works at hF
  refine z_aload_n (q := 1) C dX11_works_0 0 rfl rfl rfl ?_
  refine z_getf (q := 4) C clX11 (zon C zo_14) kd_14 (k := 28) (by decide) q_1130 rfl (zfv_i kd_14 rfl) dX11_works_1 rfl ?_
  refine z_if_eq (tgt := 37) (q := 7) C dX11_works_4 (by decide) rfl (fun c1 => ?_) (fun c1 => ?_)
  · have hF := (if_pos c1).symm.trans hF
    refine z_iconst (q := 38) C dX11_works_37 rfl ?_
    cases hF
    exact z_iret C e1 e2 dX11_works_38
  · have hF := (if_neg c1).symm.trans hF
    refine z_iload_n (q := 8) C dX11_works_7 1 rfl rfl rfl ?_
    refine z_iconst (q := 9) C dX11_works_8 rfl ?_
    refine z_bipush (q := 11) C dX11_works_9 bp_9 rfl ?_
    refine z_callS (q := 14) (av := [.int (zi a1), .int (zi 1), .int (zi 9)]) (rest := []) (stk2 := [.int (zi (fX11_in a1 1 9))]) C hR (M_fX11_in (zlv hd rfl) rfl) mY_X11_in q_1314 (Nat.le_of_ble_eq_true rfl) dX11_works_11 rfl rfl rfl ?_
    refine z_if_eq (tgt := 37) (q := 17) C dX11_works_14 (by decide) rfl (fun c2 => ?_) (fun c2 => ?_)
    · have hF := (if_pos c2).symm.trans hF
      refine z_iconst (q := 38) C dX11_works_37 rfl ?_
      cases hF
      exact z_iret C e1 e2 dX11_works_38
    · have hF := (if_neg c2).symm.trans hF
      refine z_iload_n (q := 18) C dX11_works_17 2 rfl rfl rfl ?_
      refine z_iconst (q := 19) C dX11_works_18 rfl ?_
      refine z_iconst (q := 20) C dX11_works_19 rfl ?_
      refine z_callS (q := 23) (av := [.int (zi a2), .int (zi 0), .int (zi 1)]) (rest := []) (stk2 := [.int (zi (fX11_in a2 0 1))]) C hR (M_fX11_in (zlv hd rfl) rfl) mY_X11_in q_1314 (Nat.le_of_ble_eq_true rfl) dX11_works_20 rfl rfl rfl ?_
      refine z_if_eq (tgt := 37) (q := 26) C dX11_works_23 (by decide) rfl (fun c3 => ?_) (fun c3 => ?_)
      · have hF := (if_pos c3).symm.trans hF
        refine z_iconst (q := 38) C dX11_works_37 rfl ?_
        cases hF
        exact z_iret C e1 e2 dX11_works_38
      · have hF := (if_neg c3).symm.trans hF
        refine z_aload_n (q := 27) C dX11_works_26 0 rfl rfl rfl ?_
        refine z_getf (q := 30) C clX11 (zon C zo_14) kd_14 (k := 34) (by decide) q_1136 rfl (zfv_r kd_14 rfl fr_14_34) dX11_works_27 rfl ?_
        refine z_bipush (q := 32) C dX11_works_30 bp_44 rfl ?_
        refine z_ialdc (q := 33) (j := 44) C (zon C zo_69) kd_69 zwk_44 (by rw [ln_69]; decide) dX11_works_32 rfl ?_
        refine z_iload_n (q := 34) C dX11_works_33 1 rfl rfl rfl ?_
        refine z_icmp_ge (tgt := 39) (q := 37) C dX11_works_34 (by decide) rfl (fun c4 => ?_) (fun c4 => ?_)
        · have hF := (if_pos c4).symm.trans hF
          refine z_iconst (q := 40) C dX11_works_39 rfl ?_
          refine z_istore_n (q := 41) C dX11_works_40 (by decide) rfl rfl rfl ?_
          refine z_iconst (q := 42) C dX11_works_41 rfl ?_
          refine z_istore (q := 44) C dX11_works_42 (by decide) rfl rfl ?_
          refine z_iconst (q := 45) C dX11_works_44 rfl ?_
          refine z_istore (q := 47) C dX11_works_45 (by decide) rfl rfl ?_
          exact z_sub (J_fX11_works_c47 C hR hd e1 e2 N _ _ _ _ _ hF) [3, 4, 5, 2, 1, 0] rfl
        · have hF := (if_neg c4).symm.trans hF
          refine z_iconst (q := 38) C dX11_works_37 rfl ?_
          cases hF
          exact z_iret C e1 e2 dX11_works_38
set_option maxRecDepth 20000 in
set_option maxHeartbeats 4000000 in
theorem M_fX11_works {l : Launch} {D : va_G} {cy : ClassId} {α : Nat → Nat} {n : Nat} {σ : zSg} {d : Nat} (hd : 2 ≤ d) {N : Nat} {a1 : Int} {a2 : Int} {h : zH} {r : Int} (hF : fX11_works N a1 a2 h = some r) : zMet l yX11_works cX11_works 8 (some .int) (zrm d) D cy α n σ [.ref (α 14), .int (zi a1), .int (zi a2)] h (some (.int (zi r))) h := by
  obtain ⟨d, rfl⟩ : ∃ e, d = e + 1 := ⟨d - 1, by omega⟩
  refine z_met (by decide +kernel) (Nat.le_of_ble_eq_true rfl) (fun κ k1 k2 k3 k4 k5 k6 k7 k8 k9 C => ?_)
  subst k1 k3 k4 k5 k6 k7
  exact J_fX11_works C k2 hd k8 k9 hF
set_option maxRecDepth 20000 in
set_option maxHeartbeats 4000000 in
theorem J_fX11_isIdle {κ : zT} (C : zC κ RX11 cX11_isIdle 2 (some .boolean)) {d : Nat} (hR : zR κ = zrm (d + 1)) (hd : 2 ≤ d + 1) {h : zH} {r : Int} (e1 : zrv κ = some (.int (zi r))) (e2 : zhf κ = h) {a1 : Int} (hF : fX11_isIdle a1 h = some r) : Z κ h 0 [(0, .ref (zα κ 14)), (1, .int (zi a1))] [] := by
  unfold fX11_isIdle at hF
  refine z_aload_n (q := 1) C dX11_isIdle_0 0 rfl rfl rfl ?_
  refine z_iload_n (q := 2) C dX11_isIdle_1 1 rfl rfl rfl ?_
  refine z_iconst (q := 3) C dX11_isIdle_2 rfl ?_
  obtain ⟨v1, ev1, hF⟩ := zb_e hF
  refine z_callV (q := 6) (o := 14) (av := [.int (zi a1), .int (zi 1)]) (rest := []) (stk2 := [.int (zi v1)]) C hR clX11 (zon C zo_14) kd_14 (M_fX11_of (zlv hd rfl) ev1) mY_X11_of q_1430 (Nat.le_of_ble_eq_true rfl) dX11_isIdle_3 rfl rfl rfl ?_
  refine z_iconst (q := 7) C dX11_isIdle_6 rfl ?_
  refine z_icmp_ne (tgt := 31) (q := 10) C dX11_isIdle_7 (by decide) rfl (fun c2 => ?_) (fun c2 => ?_)
  · have hF := (if_neg c2).symm.trans hF
    refine z_iconst (q := 32) C dX11_isIdle_31 rfl ?_
    cases hF
    exact z_zret C (zb01 (Or.inl rfl)) e1 e2 dX11_isIdle_32
  · have hF := (if_pos c2).symm.trans hF
    refine z_aload_n (q := 11) C dX11_isIdle_10 0 rfl rfl rfl ?_
    refine z_iload_n (q := 12) C dX11_isIdle_11 1 rfl rfl rfl ?_
    refine z_iconst (q := 13) C dX11_isIdle_12 rfl ?_
    obtain ⟨v3, ev3, hF⟩ := zb_e hF
    refine z_callV (q := 16) (o := 14) (av := [.int (zi a1), .int (zi 0)]) (rest := []) (stk2 := [.int (zi v3)]) C hR clX11 (zon C zo_14) kd_14 (M_fX11_of (zlv hd rfl) ev3) mY_X11_of q_1430 (Nat.le_of_ble_eq_true rfl) dX11_isIdle_13 rfl rfl rfl ?_
    refine z_aload_n (q := 17) C dX11_isIdle_16 0 rfl rfl rfl ?_
    refine z_iload_n (q := 18) C dX11_isIdle_17 1 rfl rfl rfl ?_
    obtain ⟨v4, ev4, hF⟩ := zb_e hF
    refine z_callV (q := 21) (o := 14) (av := [.int (zi a1)]) (rest := [.int (zi v3)]) (stk2 := [.int (zi v4), .int (zi v3)]) C hR clX11 (zon C zo_14) kd_14 (M_fX11_form (zlv hd rfl) ev4) mY_X11_form q_1530 (Nat.le_of_ble_eq_true rfl) dX11_isIdle_18 rfl rfl rfl ?_
    refine z_callS (q := 24) (av := [.int (zi v3), .int (zi v4)]) (rest := []) (stk2 := [.int (zi (fX11_has v3 v4))]) C hR (M_fX11_has (zlv hd rfl) rfl) mY_X11_has q_1294 (Nat.le_of_ble_eq_true rfl) dX11_isIdle_21 rfl rfl rfl ?_
    refine z_if_ne (tgt := 31) (q := 27) C dX11_isIdle_24 (by decide) rfl (fun c5 => ?_) (fun c5 => ?_)
    · have hF := (if_neg c5).symm.trans hF
      refine z_iconst (q := 32) C dX11_isIdle_31 rfl ?_
      cases hF
      exact z_zret C (zb01 (Or.inl rfl)) e1 e2 dX11_isIdle_32
    · have hF := (if_pos c5).symm.trans hF
      refine z_iconst (q := 28) C dX11_isIdle_27 rfl ?_
      refine z_goto (q := 32) C dX11_isIdle_28 (by decide) ?_
      cases hF
      exact z_zret C (zb01 (Or.inr rfl)) e1 e2 dX11_isIdle_32
set_option maxRecDepth 20000 in
set_option maxHeartbeats 4000000 in
theorem M_fX11_isIdle {l : Launch} {D : va_G} {cy : ClassId} {α : Nat → Nat} {n : Nat} {σ : zSg} {d : Nat} (hd : 2 ≤ d) {a1 : Int} {h : zH} {r : Int} (hF : fX11_isIdle a1 h = some r) : zMet l yX11_isIdle cX11_isIdle 2 (some .boolean) (zrm d) D cy α n σ [.ref (α 14), .int (zi a1)] h (some (.int (zi r))) h := by
  obtain ⟨d, rfl⟩ : ∃ e, d = e + 1 := ⟨d - 1, by omega⟩
  refine z_met (by decide +kernel) (Nat.le_of_ble_eq_true rfl) (fun κ k1 k2 k3 k4 k5 k6 k7 k8 k9 C => ?_)
  subst k1 k3 k4 k5 k6 k7
  exact J_fX11_isIdle C k2 hd k8 k9 hF
set_option maxRecDepth 20000 in
set_option maxHeartbeats 4000000 in
theorem J_fX11_firstDigit {κ : zT} (C : zC κ RX11 cX11_firstDigit 2 (some .int)) {d : Nat} (hR : zR κ = zrm (d + 1)) (hd : 2 ≤ d + 1) {N : Nat} {h : zH} {r : Int} (e1 : zrv κ = some (.int (zi r))) (e2 : zhf κ = h) {a0 : Int} {a1 : Int} (hF : fX11_firstDigit N a0 a1 = some r) : Z κ h 0 [(0, .int (zi a0)), (1, .int (zi a1))] [] := by
  unfold fX11_firstDigit at hF
  refine z_iload_n (q := 1) C dX11_firstDigit_0 0 rfl rfl rfl ?_
  refine z_iload_n (q := 2) C dX11_firstDigit_1 1 rfl rfl rfl ?_
  refine z_iconst (q := 3) C dX11_firstDigit_2 rfl ?_
  refine z_isub (q := 4) C dX11_firstDigit_3 rfl ?_
  obtain ⟨v1, ev1, hF⟩ := zb_e hF
  refine z_callS (q := 7) (av := [.int (zi (a1 - 1))]) (rest := [.int (zi a0)]) (stk2 := [.int (zi v1), .int (zi a0)]) C hR (M_fX11_ten (zlv hd rfl) ev1) mY_X11_ten q_1671 (Nat.le_of_ble_eq_true rfl) dX11_firstDigit_4 rfl rfl rfl ?_
  obtain ⟨g2, hF⟩ := zif_none hF
  refine z_idiv (q := 8) C g2 dX11_firstDigit_7 rfl ?_
  cases hF
  exact z_iret C e1 e2 dX11_firstDigit_8
set_option maxRecDepth 20000 in
set_option maxHeartbeats 4000000 in
theorem M_fX11_firstDigit {l : Launch} {D : va_G} {cy : ClassId} {α : Nat → Nat} {n : Nat} {σ : zSg} {d : Nat} (hd : 2 ≤ d) {N : Nat} {a0 : Int} {a1 : Int} {h : zH} {r : Int} (hF : fX11_firstDigit N a0 a1 = some r) : zMet l yX11_firstDigit cX11_firstDigit 2 (some .int) (zrm d) D cy α n σ [.int (zi a0), .int (zi a1)] h (some (.int (zi r))) h := by
  obtain ⟨d, rfl⟩ : ∃ e, d = e + 1 := ⟨d - 1, by omega⟩
  refine z_met (by decide +kernel) (Nat.le_of_ble_eq_true rfl) (fun κ k1 k2 k3 k4 k5 k6 k7 k8 k9 C => ?_)
  subst k1 k3 k4 k5 k6 k7
  exact J_fX11_firstDigit C k2 hd k8 k9 hF
set_option maxRecDepth 20000 in
set_option maxHeartbeats 4000000 in
theorem J_fX11_fileSoonest {κ : zT} (C : zC κ RX11 cX11_fileSoonest 3 none) {d : Nat} (hR : zR κ = zrm (d + 1)) (hd : 64 ≤ d + 1) {N : Nat} {r : zH} (e1 : zrv κ = none) (e2 : zhf κ = r) {a1 : Int} {h : zH} (hF : fX11_fileSoonest N a1 h = some r) : Z κ h 0 [(0, .ref (zα κ 14)), (1, .int (zi a1))] [] := by
  unfold fX11_fileSoonest at hF
  refine z_aload_n (q := 1) C dX11_fileSoonest_0 0 rfl rfl rfl ?_
  refine z_iload_n (q := 2) C dX11_fileSoonest_1 1 rfl rfl rfl ?_
  refine z_aload_n (q := 3) C dX11_fileSoonest_2 0 rfl rfl rfl ?_
  refine z_iload_n (q := 4) C dX11_fileSoonest_3 1 rfl rfl rfl ?_
  refine z_iconst (q := 5) C dX11_fileSoonest_4 rfl ?_
  obtain ⟨v1, ev1, hF⟩ := zb_e hF
  refine z_callV (q := 8) (o := 14) (av := [.int (zi a1), .int (zi 0)]) (rest := [.int (zi a1), .ref (zα κ 14)]) (stk2 := [.int (zi v1), .int (zi a1), .ref (zα κ 14)]) C hR clX11 (zon C zo_14) kd_14 (M_fX11_of (zlv hd rfl) ev1) mY_X11_of q_1430 (Nat.le_of_ble_eq_true rfl) dX11_fileSoonest_5 rfl rfl rfl ?_
  obtain ⟨v2, ev2, hF⟩ := zb_e hF
  refine z_callV (q := 11) (o := 14) (av := [.int (zi a1), .int (zi v1)]) (rest := []) (stk2 := [.int (zi v2)]) C hR clX11 (zon C zo_14) kd_14 (M_fX11_lacks (zlv hd rfl) ev2) mY_X11_lacks q_1639 (Nat.le_of_ble_eq_true rfl) dX11_fileSoonest_8 rfl rfl rfl ?_
  refine z_callS (q := 14) (av := [.int (zi v2)]) (rest := []) (stk2 := [.int (zi (fJ6_bitCount_0f7a4 v2))]) C hR (M_fJ6_bitCount_0f7a4 (zlv hd rfl) rfl) mY_J6_bitCount_0f7a4 q_1555 (Nat.le_of_ble_eq_true rfl) dX11_fileSoonest_11 rfl rfl rfl ?_
  obtain ⟨v3, ev3, hF⟩ := zlet_e hF
  refine z_istoreE_n (q := 15) C ev3 dX11_fileSoonest_14 (by decide) rfl rfl rfl ?_
  refine z_aload_n (q := 16) C dX11_fileSoonest_15 1 rfl rfl rfl ?_
  refine z_iload_n (q := 17) C dX11_fileSoonest_16 2 rfl rfl rfl ?_
  refine z_aload_n (q := 18) C dX11_fileSoonest_17 1 rfl rfl rfl ?_
  refine z_iload_n (q := 19) C dX11_fileSoonest_18 2 rfl rfl rfl ?_
  refine z_iconst (q := 20) C dX11_fileSoonest_19 rfl ?_
  obtain ⟨v4, ev4, hF⟩ := zb_e hF
  refine z_callV (q := 23) (o := 14) (av := [.int (zi a1), .int (zi 0)]) (rest := [.int (zi a1), .ref (zα κ 14)]) (stk2 := [.int (zi v4), .int (zi a1), .ref (zα κ 14)]) C hR clX11 (zon C zo_14) kd_14 (M_fX11_of (zlv hd rfl) ev4) mY_X11_of q_1430 (Nat.le_of_ble_eq_true rfl) dX11_fileSoonest_20 rfl rfl rfl ?_
  obtain ⟨h5, eh5, hF⟩ := zb_e hF
  refine z_callV (q := 26) (o := 14) (av := [.int (zi a1), .int (zi v4)]) (rest := []) (stk2 := []) C hR clX11 (zon C zo_14) kd_14 (M_fX11_laySoonest (zlv hd rfl) eh5) mY_X11_laySoonest q_1635 (Nat.le_of_ble_eq_true rfl) dX11_fileSoonest_23 rfl rfl rfl ?_
  refine z_aload_n (q := 27) C dX11_fileSoonest_26 1 rfl rfl rfl ?_
  refine z_getf (q := 30) C clX11 (zon C zo_14) kd_14 (k := 41) (by decide) q_1143 rfl (zfv_i kd_14 rfl) dX11_fileSoonest_27 rfl ?_
  refine z_iconst (q := 31) C dX11_fileSoonest_30 rfl ?_
  refine z_icmp_eq (tgt := 47) (q := 34) C dX11_fileSoonest_31 (by decide) rfl (fun c6 => ?_) (fun c6 => ?_)
  · have hF := (if_pos c6).symm.trans hF
    cases hF
    exact z_vret C e1 e2 dX11_fileSoonest_47
  · have hF := (if_neg c6).symm.trans hF
    refine z_aload_n (q := 35) C dX11_fileSoonest_34 1 rfl rfl rfl ?_
    refine z_iload_n (q := 36) C dX11_fileSoonest_35 2 rfl rfl rfl ?_
    refine z_aload_n (q := 37) C dX11_fileSoonest_36 1 rfl rfl rfl ?_
    refine z_getf (q := 40) C clX11 (zon C zo_14) kd_14 (k := 40) (by decide) q_1142 rfl (zfv_i kd_14 rfl) dX11_fileSoonest_37 rfl ?_
    refine z_iload_n (q := 41) C dX11_fileSoonest_40 0 rfl rfl rfl ?_
    obtain ⟨v7, ev7, hF⟩ := zb_e hF
    refine z_callS (q := 44) (av := [.int (zi (h5 14 40)), .int (zi v3)]) (rest := [.int (zi a1), .ref (zα κ 14)]) (stk2 := [.int (zi v7), .int (zi a1), .ref (zα κ 14)]) C hR (M_fX11_firstDigit (zlv hd rfl) ev7) mY_X11_firstDigit q_1734 (Nat.le_of_ble_eq_true rfl) dX11_fileSoonest_41 rfl rfl rfl ?_
    obtain ⟨h8, eh8, hF⟩ := zb_e hF
    refine z_callV (q := 47) (o := 14) (av := [.int (zi a1), .int (zi v7)]) (rest := []) (stk2 := []) C hR clX11 (zon C zo_14) kd_14 (M_fX11_fileNow (zlv hd rfl) eh8) mY_X11_fileNow q_1494 (Nat.le_of_ble_eq_true rfl) dX11_fileSoonest_44 rfl rfl rfl ?_
    cases hF
    exact z_vret C e1 e2 dX11_fileSoonest_47
set_option maxRecDepth 20000 in
set_option maxHeartbeats 4000000 in
theorem M_fX11_fileSoonest {l : Launch} {D : va_G} {cy : ClassId} {α : Nat → Nat} {n : Nat} {σ : zSg} {d : Nat} (hd : 64 ≤ d) {N : Nat} {a1 : Int} {h : zH} {g : zH} (hF : fX11_fileSoonest N a1 h = some g) : zMet l yX11_fileSoonest cX11_fileSoonest 3 none (zrm d) D cy α n σ [.ref (α 14), .int (zi a1)] h (none) g := by
  obtain ⟨d, rfl⟩ : ∃ e, d = e + 1 := ⟨d - 1, by omega⟩
  refine z_met (by decide +kernel) (Nat.le_of_ble_eq_true rfl) (fun κ k1 k2 k3 k4 k5 k6 k7 k8 k9 C => ?_)
  subst k1 k3 k4 k5 k6 k7
  exact J_fX11_fileSoonest C k2 hd k8 k9 hF
set_option maxRecDepth 20000 in
set_option maxHeartbeats 4000000 in
theorem J_fX11_toil_c25b {κ : zT} (C : zC κ RX11 cX11_toil 4 (some .int)) {d : Nat} (hR : zR κ = zrm (d + 1)) (hd : 65 ≤ d + 1) {N : Nat} {r : Int × zH} (e1 : zrv κ = some (.int (zi r.1))) (e2 : zhf κ = r.2) {K14 : Int → Int → zH → Option (Int × zH)} (hK14 : ∀ (l1 : Int) (l2 : Int) (h : zH), K14 l1 l2 h = some r → Z κ h 14 [(0, .ref (zα κ 14)), (1, .int (zi l1)), (2, .int (zi l2))] []) {K25 : Int → Int → Int → zH → Option (Int × zH)} (hK25 : ∀ (l1 : Int) (l2 : Int) (l3 : Int) (h : zH), K25 l1 l2 l3 h = some r → Z κ h 25 [(0, .ref (zα κ 14)), (1, .int (zi l1)), (2, .int (zi l2)), (3, .int (zi l3))] []) (l1 : Int) (l2 : Int) (l3 : Int) (h : zH) (hF : fX11_toil_c25b N K14 K25 l1 l2 l3 h = some r) : Z κ h 25 [(0, .ref (zα κ 14)), (1, .int (zi l1)), (2, .int (zi l2)), (3, .int (zi l3))] [] := by
  unfold fX11_toil_c25b at hF
  refine z_iload_n (q := 26) C dX11_toil_25 3 rfl rfl rfl ?_
  refine z_aload_n (q := 27) C dX11_toil_26 0 rfl rfl rfl ?_
  refine z_getf (q := 30) C clX11 (zon C zo_14) kd_14 (k := 28) (by decide) q_1130 rfl (zfv_i kd_14 rfl) dX11_toil_27 rfl ?_
  refine z_icmp_ge (tgt := 52) (q := 33) C dX11_toil_30 (by decide) rfl (fun c1 => ?_) (fun c1 => ?_)
  · have hF := (if_pos c1).symm.trans hF
    refine z_aload_n (q := 53) C dX11_toil_52 0 rfl rfl rfl ?_
    refine z_iconst (q := 54) C dX11_toil_53 rfl ?_
    obtain ⟨h2, eh2, hF⟩ := zb_e hF
    refine z_callV (q := 57) (o := 14) (av := [.int (zi 0)]) (rest := []) (stk2 := []) C hR clX11 (zon C zo_14) kd_14 (M_fX11_pass (zlv hd rfl) eh2) mY_X11_pass q_1518 (Nat.le_of_ble_eq_true rfl) dX11_toil_54 rfl rfl rfl ?_
    refine z_iinc (q := 60) (x := l2) C dX11_toil_57 (j := 2) rfl (by decide) rfl rfl ?_
    refine z_goto (q := 14) C dX11_toil_60 (by decide) ?_
    exact z_sub (hK14 _ _ _ hF) [1, 2, 0] rfl
  · have hF := (if_neg c1).symm.trans hF
    refine z_aload_n (q := 34) C dX11_toil_33 0 rfl rfl rfl ?_
    refine z_iload_n (q := 35) C dX11_toil_34 3 rfl rfl rfl ?_
    obtain ⟨v3, ev3, hF⟩ := zb_e hF
    refine z_callV (q := 38) (o := 14) (av := [.int (zi l3)]) (rest := []) (stk2 := [.int (zi v3)]) C hR clX11 (zon C zo_14) kd_14 (M_fX11_isIdle (zlv hd rfl) ev3) mY_X11_isIdle q_1726 (Nat.le_of_ble_eq_true rfl) dX11_toil_35 rfl rfl rfl ?_
    refine z_if_eq (tgt := 46) (q := 41) C dX11_toil_38 (by decide) rfl (fun c4 => ?_) (fun c4 => ?_)
    · have hF := (if_pos c4).symm.trans hF
      refine z_iinc (q := 49) (x := l3) C dX11_toil_46 (j := 3) rfl (by decide) rfl rfl ?_
      refine z_goto (q := 25) C dX11_toil_49 (by decide) ?_
      exact z_sub (hK25 _ _ _ _ hF) [1, 2, 3, 0] rfl
    · have hF := (if_neg c4).symm.trans hF
      refine z_aload_n (q := 42) C dX11_toil_41 0 rfl rfl rfl ?_
      refine z_iload_n (q := 43) C dX11_toil_42 3 rfl rfl rfl ?_
      obtain ⟨h5, eh5, hF⟩ := zb_e hF
      refine z_callV (q := 46) (o := 14) (av := [.int (zi l3)]) (rest := []) (stk2 := []) C hR clX11 (zon C zo_14) kd_14 (M_fX11_fileSoonest (zlv hd rfl) eh5) mY_X11_fileSoonest q_1730 (Nat.le_of_ble_eq_true rfl) dX11_toil_43 rfl rfl rfl ?_
      refine z_iinc (q := 49) (x := l3) C dX11_toil_46 (j := 3) rfl (by decide) rfl rfl ?_
      refine z_goto (q := 25) C dX11_toil_49 (by decide) ?_
      exact z_sub (hK25 _ _ _ _ hF) [1, 2, 3, 0] rfl
set_option maxRecDepth 20000 in
set_option maxHeartbeats 4000000 in
theorem J_fX11_toil_c25 {κ : zT} (C : zC κ RX11 cX11_toil 4 (some .int)) {d : Nat} (hR : zR κ = zrm (d + 1)) (hd : 65 ≤ d + 1) {N : Nat} {r : Int × zH} (e1 : zrv κ = some (.int (zi r.1))) (e2 : zhf κ = r.2) {K14 : Int → Int → zH → Option (Int × zH)} (hK14 : ∀ (l1 : Int) (l2 : Int) (h : zH), K14 l1 l2 h = some r → Z κ h 14 [(0, .ref (zα κ 14)), (1, .int (zi l1)), (2, .int (zi l2))] []) : ∀ (k : Nat) (l1 : Int) (l2 : Int) (l3 : Int) (h : zH), fX11_toil_c25 N K14 k l1 l2 l3 h = some r → Z κ h 25 [(0, .ref (zα κ 14)), (1, .int (zi l1)), (2, .int (zi l2)), (3, .int (zi l3))] [] := by
  intro k
  induction k with
  | zero => intro l1 l2 l3 h hF; cases hF
  | succ k ih => intro l1 l2 l3 h hF; exact J_fX11_toil_c25b C hR hd e1 e2 hK14 ih l1 l2 l3 h hF
set_option maxRecDepth 20000 in
set_option maxHeartbeats 4000000 in
theorem J_fX11_toil_c14b {κ : zT} (C : zC κ RX11 cX11_toil 4 (some .int)) {d : Nat} (hR : zR κ = zrm (d + 1)) (hd : 65 ≤ d + 1) {N : Nat} {r : Int × zH} (e1 : zrv κ = some (.int (zi r.1))) (e2 : zhf κ = r.2) {K14 : Int → Int → zH → Option (Int × zH)} (hK14 : ∀ (l1 : Int) (l2 : Int) (h : zH), K14 l1 l2 h = some r → Z κ h 14 [(0, .ref (zα κ 14)), (1, .int (zi l1)), (2, .int (zi l2))] []) (l1 : Int) (l2 : Int) (h : zH) (hF : fX11_toil_c14b N K14 l1 l2 h = some r) : Z κ h 14 [(0, .ref (zα κ 14)), (1, .int (zi l1)), (2, .int (zi l2))] [] := by
  unfold fX11_toil_c14b at hF
  refine z_iload_n (q := 15) C dX11_toil_14 2 rfl rfl rfl ?_
  refine z_iload_n (q := 16) C dX11_toil_15 1 rfl rfl rfl ?_
  refine z_icmp_ge (tgt := 63) (q := 19) C dX11_toil_16 (by decide) rfl (fun c1 => ?_) (fun c1 => ?_)
  · have hF := (if_pos c1).symm.trans hF
    refine z_aload_n (q := 64) C dX11_toil_63 0 rfl rfl rfl ?_
    refine z_getf (q := 67) C clX11 (zon C zo_14) kd_14 (k := 34) (by decide) q_1136 rfl (zfv_r kd_14 rfl fr_14_34) dX11_toil_64 rfl ?_
    refine z_bipush (q := 69) C dX11_toil_67 bp_42 rfl ?_
    refine z_ialdc (q := 70) (j := 42) C (zon C zo_69) kd_69 zwk_42 (by rw [ln_69]; decide) dX11_toil_69 rfl ?_
    cases hF
    exact z_iret C e1 e2 dX11_toil_70
  · have hF := (if_neg c1).symm.trans hF
    refine z_aload_n (q := 20) C dX11_toil_19 0 rfl rfl rfl ?_
    obtain ⟨h2, eh2, hF⟩ := zb_e hF
    refine z_callV (q := 23) (o := 14) (av := []) (rest := []) (stk2 := []) C hR clX11 (zon C zo_14) kd_14 (M_fX11_keep (zlv hd rfl) eh2) mY_X11_keep q_1490 (Nat.le_of_ble_eq_true rfl) dX11_toil_20 rfl rfl rfl ?_
    refine z_iconst (q := 24) C dX11_toil_23 rfl ?_
    refine z_istore_n (q := 25) C dX11_toil_24 (by decide) rfl rfl rfl ?_
    exact z_sub (J_fX11_toil_c25 C hR hd e1 e2 hK14 N _ _ _ _ hF) [1, 2, 3, 0] rfl
set_option maxRecDepth 20000 in
set_option maxHeartbeats 4000000 in
theorem J_fX11_toil_c14 {κ : zT} (C : zC κ RX11 cX11_toil 4 (some .int)) {d : Nat} (hR : zR κ = zrm (d + 1)) (hd : 65 ≤ d + 1) {N : Nat} {r : Int × zH} (e1 : zrv κ = some (.int (zi r.1))) (e2 : zhf κ = r.2) : ∀ (k : Nat) (l1 : Int) (l2 : Int) (h : zH), fX11_toil_c14 N k l1 l2 h = some r → Z κ h 14 [(0, .ref (zα κ 14)), (1, .int (zi l1)), (2, .int (zi l2))] [] := by
  intro k
  induction k with
  | zero => intro l1 l2 h hF; cases hF
  | succ k ih => intro l1 l2 h hF; exact J_fX11_toil_c14b C hR hd e1 e2 ih l1 l2 h hF
set_option maxRecDepth 20000 in
set_option maxHeartbeats 4000000 in
theorem J_fX11_toil {κ : zT} (C : zC κ RX11 cX11_toil 4 (some .int)) {d : Nat} (hR : zR κ = zrm (d + 1)) (hd : 65 ≤ d + 1) {N : Nat} {r : Int × zH} (e1 : zrv κ = some (.int (zi r.1))) (e2 : zhf κ = r.2) {a1 : Int} {h : zH} (hF : fX11_toil N a1 h = some r) : Z κ h 0 [(0, .ref (zα κ 14)), (1, .int (zi a1))] [] := by
  unfold fX11_toil at hF
  refine z_aload_n (q := 1) C dX11_toil_0 0 rfl rfl rfl ?_
  refine z_iload_n (q := 2) C dX11_toil_1 1 rfl rfl rfl ?_
  refine z_bipush (q := 4) C dX11_toil_2 bp_48 rfl ?_
  refine z_callV (q := 7) (o := 14) (av := [.int (zi a1), .int (zi 48)]) (rest := []) (stk2 := [.int (zi (fX11_areHours a1 48 h))]) C hR clX11 (zon C zo_14) kd_14 (M_fX11_areHours (zlv hd rfl) rfl) mY_X11_areHours q_1514 (Nat.le_of_ble_eq_true rfl) dX11_toil_4 rfl rfl rfl ?_
  refine z_if_ne (tgt := 12) (q := 10) C dX11_toil_7 (by decide) rfl (fun c1 => ?_) (fun c1 => ?_)
  · have hF := (if_neg c1).symm.trans hF
    refine z_iconst (q := 13) C dX11_toil_12 rfl ?_
    refine z_istore_n (q := 14) C dX11_toil_13 (by decide) rfl rfl rfl ?_
    exact z_sub (J_fX11_toil_c14 C hR hd e1 e2 N _ _ _ hF) [1, 2, 0] rfl
  · have hF := (if_pos c1).symm.trans hF
    refine z_iconst (q := 11) C dX11_toil_10 rfl ?_
    cases hF
    exact z_iret C e1 e2 dX11_toil_11
set_option maxRecDepth 20000 in
set_option maxHeartbeats 4000000 in
theorem M_fX11_toil {l : Launch} {D : va_G} {cy : ClassId} {α : Nat → Nat} {n : Nat} {σ : zSg} {d : Nat} (hd : 65 ≤ d) {N : Nat} {a1 : Int} {h : zH} {r : Int} {g : zH} (hF : fX11_toil N a1 h = some (r, g)) : zMet l yX11_toil cX11_toil 4 (some .int) (zrm d) D cy α n σ [.ref (α 14), .int (zi a1)] h (some (.int (zi r))) g := by
  obtain ⟨d, rfl⟩ : ∃ e, d = e + 1 := ⟨d - 1, by omega⟩
  refine z_met (by decide +kernel) (Nat.le_of_ble_eq_true rfl) (fun κ k1 k2 k3 k4 k5 k6 k7 k8 k9 C => ?_)
  subst k1 k3 k4 k5 k6 k7
  exact J_fX11_toil C k2 hd k8 k9 hF
set_option maxRecDepth 20000 in
set_option maxHeartbeats 4000000 in
theorem J_fX11_draw {κ : zT} (C : zC κ RX11 cX11_draw 2 (some .int)) {d : Nat} (hR : zR κ = zrm (d + 1)) (hd : 1 ≤ d + 1) {r : Int × zH} (e1 : zrv κ = some (.int (zi r.1))) (e2 : zhf κ = r.2) {a1 : Int} {h : zH} (hF : fX11_draw a1 h = some r) : Z κ h 0 [(0, .ref (zα κ 14)), (1, .int (zi a1))] [] := by
  unfold fX11_draw at hF
  refine z_aload_n (q := 1) C dX11_draw_0 0 rfl rfl rfl ?_
  refine z_aload_n (q := 2) C dX11_draw_1 0 rfl rfl rfl ?_
  refine z_getf (q := 5) C clX11 (zon C zo_14) kd_14 (k := 47) (by decide) q_1149 rfl (zfv_l kd_14 rfl) dX11_draw_2 rfl ?_
  refine z_ldc2 (q := 8) C kc_RX11_469 dX11_draw_5 rfl ?_
  refine z_lmul (q := 9) C dX11_draw_8 rfl ?_
  refine z_ldc2 (q := 12) C kc_RX11_471 dX11_draw_9 rfl ?_
  refine z_ladd (q := 13) C dX11_draw_12 rfl ?_
  obtain ⟨h1, eh1, hF⟩ := zlet_e hF
  refine z_putf (q := 16) C clX11 (zon C zo_14) kd_14 (k := 47) (x := ((h 14 47) * 6364136223846793005) + 1442695040888963407) (by decide) q_1149 rfl rfl rfl rfl (((zfv_l kd_14 rfl)).trans (by rw [if_pos rfl])) dX11_draw_13 rfl eh1 ?_
  refine z_aload_n (q := 17) C dX11_draw_16 0 rfl rfl rfl ?_
  refine z_getf (q := 20) C clX11 (zon C zo_14) kd_14 (k := 47) (by decide) q_1149 rfl (zfv_l kd_14 rfl) dX11_draw_17 rfl ?_
  refine z_bipush (q := 22) C dX11_draw_20 bp_33 rfl ?_
  refine z_lushr (q := 23) C dX11_draw_22 rfl ?_
  refine z_iload_n (q := 24) C dX11_draw_23 1 rfl rfl rfl ?_
  refine z_i2l (q := 25) C dX11_draw_24 rfl ?_
  obtain ⟨g2, hF⟩ := zif_none hF
  refine z_lrem (q := 26) C g2 dX11_draw_25 rfl ?_
  refine z_l2i (q := 27) C dX11_draw_26 rfl ?_
  cases hF
  exact z_iret C e1 e2 dX11_draw_27
set_option maxRecDepth 20000 in
set_option maxHeartbeats 4000000 in
theorem M_fX11_draw {l : Launch} {D : va_G} {cy : ClassId} {α : Nat → Nat} {n : Nat} {σ : zSg} {d : Nat} (hd : 1 ≤ d) {a1 : Int} {h : zH} {r : Int} {g : zH} (hF : fX11_draw a1 h = some (r, g)) : zMet l yX11_draw cX11_draw 2 (some .int) (zrm d) D cy α n σ [.ref (α 14), .int (zi a1)] h (some (.int (zi r))) g := by
  obtain ⟨d, rfl⟩ : ∃ e, d = e + 1 := ⟨d - 1, by omega⟩
  refine z_met (by decide +kernel) (Nat.le_of_ble_eq_true rfl) (fun κ k1 k2 k3 k4 k5 k6 k7 k8 k9 C => ?_)
  subst k1 k3 k4 k5 k6 k7
  exact J_fX11_draw C k2 hd k8 k9 hF
set_option maxRecDepth 20000 in
set_option maxHeartbeats 4000000 in
theorem J_fX11_years_c34b {κ : zT} (C : zC κ RX11 cX11_years 6 (some .int)) {d : Nat} (hR : zR κ = zrm (d + 1)) (hd : 65 ≤ d + 1) {N : Nat} {r : Int × zH} (e1 : zrv κ = some (.int (zi r.1))) (e2 : zhf κ = r.2) {K21 : Int → Int → zH → Option (Int × zH)} (hK21 : ∀ (l1 : Int) (l4 : Int) (h : zH), K21 l1 l4 h = some r → Z κ h 21 [(0, .ref (zα κ 14)), (1, .int (zi l1)), (4, .int (zi l4))] []) {K34 : Int → Int → Int → zH → Option (Int × zH)} (hK34 : ∀ (l1 : Int) (l4 : Int) (l5 : Int) (h : zH), K34 l1 l4 l5 h = some r → Z κ h 34 [(0, .ref (zα κ 14)), (1, .int (zi l1)), (4, .int (zi l4)), (5, .int (zi l5))] []) (l1 : Int) (l4 : Int) (l5 : Int) (h : zH) (hF : fX11_years_c34b N K21 K34 l1 l4 l5 h = some r) : Z κ h 34 [(0, .ref (zα κ 14)), (1, .int (zi l1)), (4, .int (zi l4)), (5, .int (zi l5))] [] := by
  unfold fX11_years_c34b at hF
  refine z_iload (q := 36) C dX11_years_34 3 rfl rfl ?_
  refine z_aload_n (q := 37) C dX11_years_36 0 rfl rfl rfl ?_
  refine z_getf (q := 40) C clX11 (zon C zo_14) kd_14 (k := 28) (by decide) q_1130 rfl (zfv_i kd_14 rfl) dX11_years_37 rfl ?_
  refine z_icmp_ge (tgt := 84) (q := 43) C dX11_years_40 (by decide) rfl (fun c1 => ?_) (fun c1 => ?_)
  · have hF := (if_pos c1).symm.trans hF
    refine z_aload_n (q := 85) C dX11_years_84 0 rfl rfl rfl ?_
    refine z_aload_n (q := 86) C dX11_years_85 0 rfl rfl rfl ?_
    refine z_callV (q := 89) (o := 14) (av := []) (rest := [.ref (zα κ 14)]) (stk2 := [.int (zi (fX11_isDawn h)), .ref (zα κ 14)]) C hR clX11 (zon C zo_14) kd_14 (M_fX11_isDawn (zlv hd rfl) rfl) mY_X11_isDawn q_1522 (Nat.le_of_ble_eq_true rfl) dX11_years_86 rfl rfl rfl ?_
    refine z_if_eq (tgt := 109) (q := 92) C dX11_years_89 (by decide) rfl (fun c2 => ?_) (fun c2 => ?_)
    · have hF := (if_pos c2).symm.trans hF
      refine z_iconst (q := 110) C dX11_years_109 rfl ?_
      obtain ⟨h3, eh3, hF⟩ := zb_e hF
      refine z_callV (q := 113) (o := 14) (av := [.int (zi 0)]) (rest := []) (stk2 := []) C hR clX11 (zon C zo_14) kd_14 (M_fX11_pass (zlv hd rfl) eh3) mY_X11_pass q_1518 (Nat.le_of_ble_eq_true rfl) dX11_years_110 rfl rfl rfl ?_
      refine z_iinc (q := 116) (x := l4) C dX11_years_113 (j := 2) rfl (by decide) rfl rfl ?_
      refine z_goto (q := 21) C dX11_years_116 (by decide) ?_
      exact z_sub (hK21 _ _ _ hF) [1, 2, 0] rfl
    · have hF := (if_neg c2).symm.trans hF
      refine z_aload_n (q := 93) C dX11_years_92 0 rfl rfl rfl ?_
      refine z_bipush (q := 95) C dX11_years_93 bp_100 rfl ?_
      obtain ⟨v5, h4, ev5, hF⟩ := z2_e hF
      refine z_callV (q := 98) (o := 14) (av := [.int (zi 100)]) (rest := [.ref (zα κ 14)]) (stk2 := [.int (zi v5), .ref (zα κ 14)]) C hR clX11 (zon C zo_14) kd_14 (M_fX11_draw (zlv hd rfl) ev5) mY_X11_draw q_1741 (Nat.le_of_ble_eq_true rfl) dX11_years_95 rfl rfl rfl ?_
      refine z_aload_n (q := 99) C dX11_years_98 0 rfl rfl rfl ?_
      refine z_getf (q := 102) C clX11 (zon C zo_14) kd_14 (k := 36) (by decide) q_1138 rfl (zfv_i kd_14 rfl) dX11_years_99 rfl ?_
      refine z_icmp_ge (tgt := 109) (q := 105) C dX11_years_102 (by decide) rfl (fun c6 => ?_) (fun c6 => ?_)
      · have hF := (if_pos c6).symm.trans hF
        refine z_iconst (q := 110) C dX11_years_109 rfl ?_
        obtain ⟨h7, eh7, hF⟩ := zb_e hF
        refine z_callV (q := 113) (o := 14) (av := [.int (zi 0)]) (rest := []) (stk2 := []) C hR clX11 (zon C zo_14) kd_14 (M_fX11_pass (zlv hd rfl) eh7) mY_X11_pass q_1518 (Nat.le_of_ble_eq_true rfl) dX11_years_110 rfl rfl rfl ?_
        refine z_iinc (q := 116) (x := l4) C dX11_years_113 (j := 2) rfl (by decide) rfl rfl ?_
        refine z_goto (q := 21) C dX11_years_116 (by decide) ?_
        exact z_sub (hK21 _ _ _ hF) [1, 2, 0] rfl
      · have hF := (if_neg c6).symm.trans hF
        refine z_iconst (q := 106) C dX11_years_105 rfl ?_
        refine z_goto (q := 110) C dX11_years_106 (by decide) ?_
        obtain ⟨h8, eh8, hF⟩ := zb_e hF
        refine z_callV (q := 113) (o := 14) (av := [.int (zi 1)]) (rest := []) (stk2 := []) C hR clX11 (zon C zo_14) kd_14 (M_fX11_pass (zlv hd rfl) eh8) mY_X11_pass q_1518 (Nat.le_of_ble_eq_true rfl) dX11_years_110 rfl rfl rfl ?_
        refine z_iinc (q := 116) (x := l4) C dX11_years_113 (j := 2) rfl (by decide) rfl rfl ?_
        refine z_goto (q := 21) C dX11_years_116 (by decide) ?_
        exact z_sub (hK21 _ _ _ hF) [1, 2, 0] rfl
  · have hF := (if_neg c1).symm.trans hF
    refine z_aload_n (q := 44) C dX11_years_43 0 rfl rfl rfl ?_
    refine z_iload (q := 46) C dX11_years_44 3 rfl rfl ?_
    obtain ⟨v9, ev9, hF⟩ := zb_e hF
    refine z_callV (q := 49) (o := 14) (av := [.int (zi l5)]) (rest := []) (stk2 := [.int (zi v9)]) C hR clX11 (zon C zo_14) kd_14 (M_fX11_isIdle (zlv hd rfl) ev9) mY_X11_isIdle q_1726 (Nat.le_of_ble_eq_true rfl) dX11_years_46 rfl rfl rfl ?_
    refine z_if_eq (tgt := 78) (q := 52) C dX11_years_49 (by decide) rfl (fun c10 => ?_) (fun c10 => ?_)
    · have hF := (if_pos c10).symm.trans hF
      refine z_iinc (q := 81) (x := l5) C dX11_years_78 (j := 3) rfl (by decide) rfl rfl ?_
      refine z_goto (q := 34) C dX11_years_81 (by decide) ?_
      exact z_sub (hK34 _ _ _ _ hF) [1, 2, 3, 0] rfl
    · have hF := (if_neg c10).symm.trans hF
      refine z_aload_n (q := 53) C dX11_years_52 0 rfl rfl rfl ?_
      refine z_bipush (q := 55) C dX11_years_53 bp_10 rfl ?_
      obtain ⟨v12, h11, ev12, hF⟩ := z2_e hF
      refine z_callV (q := 58) (o := 14) (av := [.int (zi 10)]) (rest := []) (stk2 := [.int (zi v12)]) C hR clX11 (zon C zo_14) kd_14 (M_fX11_draw (zlv hd rfl) ev12) mY_X11_draw q_1741 (Nat.le_of_ble_eq_true rfl) dX11_years_55 rfl rfl rfl ?_
      refine z_aload_n (q := 59) C dX11_years_58 0 rfl rfl rfl ?_
      refine z_getf (q := 62) C clX11 (zon C zo_14) kd_14 (k := 25) (by decide) q_1127 rfl (zfv_r kd_14 rfl fr_14_25) dX11_years_59 rfl ?_
      refine z_iconst (q := 63) C dX11_years_62 rfl ?_
      refine z_iload (q := 65) C dX11_years_63 3 rfl rfl ?_
      refine z_imul (q := 66) C dX11_years_65 rfl ?_
      refine z_iconst (q := 67) C dX11_years_66 rfl ?_
      refine z_iadd (q := 68) C dX11_years_67 rfl ?_
      obtain ⟨g13, hF⟩ := zif_none hF
      refine z_iald (q := 69) C (zon C zo_64) kd_64 g13.1 (by rw [ln_64]; exact g13.2) dX11_years_68 rfl ?_
      refine z_icmp_ge (tgt := 78) (q := 72) C dX11_years_69 (by decide) rfl (fun c14 => ?_) (fun c14 => ?_)
      · have hF := (if_pos c14).symm.trans hF
        refine z_iinc (q := 81) (x := l5) C dX11_years_78 (j := 3) rfl (by decide) rfl rfl ?_
        refine z_goto (q := 34) C dX11_years_81 (by decide) ?_
        exact z_sub (hK34 _ _ _ _ hF) [1, 2, 3, 0] rfl
      · have hF := (if_neg c14).symm.trans hF
        refine z_aload_n (q := 73) C dX11_years_72 0 rfl rfl rfl ?_
        refine z_iload (q := 75) C dX11_years_73 3 rfl rfl ?_
        obtain ⟨h15, eh15, hF⟩ := zb_e hF
        refine z_callV (q := 78) (o := 14) (av := [.int (zi l5)]) (rest := []) (stk2 := []) C hR clX11 (zon C zo_14) kd_14 (M_fX11_fileSoonest (zlv hd rfl) eh15) mY_X11_fileSoonest q_1730 (Nat.le_of_ble_eq_true rfl) dX11_years_75 rfl rfl rfl ?_
        refine z_iinc (q := 81) (x := l5) C dX11_years_78 (j := 3) rfl (by decide) rfl rfl ?_
        refine z_goto (q := 34) C dX11_years_81 (by decide) ?_
        exact z_sub (hK34 _ _ _ _ hF) [1, 2, 3, 0] rfl
set_option maxRecDepth 20000 in
set_option maxHeartbeats 4000000 in
theorem J_fX11_years_c34 {κ : zT} (C : zC κ RX11 cX11_years 6 (some .int)) {d : Nat} (hR : zR κ = zrm (d + 1)) (hd : 65 ≤ d + 1) {N : Nat} {r : Int × zH} (e1 : zrv κ = some (.int (zi r.1))) (e2 : zhf κ = r.2) {K21 : Int → Int → zH → Option (Int × zH)} (hK21 : ∀ (l1 : Int) (l4 : Int) (h : zH), K21 l1 l4 h = some r → Z κ h 21 [(0, .ref (zα κ 14)), (1, .int (zi l1)), (4, .int (zi l4))] []) : ∀ (k : Nat) (l1 : Int) (l4 : Int) (l5 : Int) (h : zH), fX11_years_c34 N K21 k l1 l4 l5 h = some r → Z κ h 34 [(0, .ref (zα κ 14)), (1, .int (zi l1)), (4, .int (zi l4)), (5, .int (zi l5))] [] := by
  intro k
  induction k with
  | zero => intro l1 l4 l5 h hF; cases hF
  | succ k ih => intro l1 l4 l5 h hF; exact J_fX11_years_c34b C hR hd e1 e2 hK21 ih l1 l4 l5 h hF
set_option maxRecDepth 20000 in
set_option maxHeartbeats 4000000 in
theorem J_fX11_years_c21b {κ : zT} (C : zC κ RX11 cX11_years 6 (some .int)) {d : Nat} (hR : zR κ = zrm (d + 1)) (hd : 65 ≤ d + 1) {N : Nat} {r : Int × zH} (e1 : zrv κ = some (.int (zi r.1))) (e2 : zhf κ = r.2) {K21 : Int → Int → zH → Option (Int × zH)} (hK21 : ∀ (l1 : Int) (l4 : Int) (h : zH), K21 l1 l4 h = some r → Z κ h 21 [(0, .ref (zα κ 14)), (1, .int (zi l1)), (4, .int (zi l4))] []) (l1 : Int) (l4 : Int) (h : zH) (hF : fX11_years_c21b N K21 l1 l4 h = some r) : Z κ h 21 [(0, .ref (zα κ 14)), (1, .int (zi l1)), (4, .int (zi l4))] [] := by
  unfold fX11_years_c21b at hF
  refine z_iload (q := 23) C dX11_years_21 2 rfl rfl ?_
  refine z_iload_n (q := 24) C dX11_years_23 1 rfl rfl rfl ?_
  refine z_icmp_ge (tgt := 119) (q := 27) C dX11_years_24 (by decide) rfl (fun c1 => ?_) (fun c1 => ?_)
  · have hF := (if_pos c1).symm.trans hF
    refine z_aload_n (q := 120) C dX11_years_119 0 rfl rfl rfl ?_
    refine z_getf (q := 123) C clX11 (zon C zo_14) kd_14 (k := 34) (by decide) q_1136 rfl (zfv_r kd_14 rfl fr_14_34) dX11_years_120 rfl ?_
    refine z_bipush (q := 125) C dX11_years_123 bp_42 rfl ?_
    refine z_ialdc (q := 126) (j := 42) C (zon C zo_69) kd_69 zwk_42 (by rw [ln_69]; decide) dX11_years_125 rfl ?_
    cases hF
    exact z_iret C e1 e2 dX11_years_126
  · have hF := (if_neg c1).symm.trans hF
    refine z_aload_n (q := 28) C dX11_years_27 0 rfl rfl rfl ?_
    obtain ⟨h2, eh2, hF⟩ := zb_e hF
    refine z_callV (q := 31) (o := 14) (av := []) (rest := []) (stk2 := []) C hR clX11 (zon C zo_14) kd_14 (M_fX11_keep (zlv hd rfl) eh2) mY_X11_keep q_1490 (Nat.le_of_ble_eq_true rfl) dX11_years_28 rfl rfl rfl ?_
    refine z_iconst (q := 32) C dX11_years_31 rfl ?_
    refine z_istore (q := 34) C dX11_years_32 (by decide) rfl rfl ?_
    exact z_sub (J_fX11_years_c34 C hR hd e1 e2 hK21 N _ _ _ _ hF) [1, 2, 3, 0] rfl
set_option maxRecDepth 20000 in
set_option maxHeartbeats 4000000 in
theorem J_fX11_years_c21 {κ : zT} (C : zC κ RX11 cX11_years 6 (some .int)) {d : Nat} (hR : zR κ = zrm (d + 1)) (hd : 65 ≤ d + 1) {N : Nat} {r : Int × zH} (e1 : zrv κ = some (.int (zi r.1))) (e2 : zhf κ = r.2) : ∀ (k : Nat) (l1 : Int) (l4 : Int) (h : zH), fX11_years_c21 N k l1 l4 h = some r → Z κ h 21 [(0, .ref (zα κ 14)), (1, .int (zi l1)), (4, .int (zi l4))] [] := by
  intro k
  induction k with
  | zero => intro l1 l4 h hF; cases hF
  | succ k ih => intro l1 l4 h hF; exact J_fX11_years_c21b C hR hd e1 e2 ih l1 l4 h hF
set_option maxRecDepth 20000 in
set_option maxHeartbeats 4000000 in
theorem J_fX11_years {κ : zT} (C : zC κ RX11 cX11_years 6 (some .int)) {d : Nat} (hR : zR κ = zrm (d + 1)) (hd : 65 ≤ d + 1) {N : Nat} {r : Int × zH} (e1 : zrv κ = some (.int (zi r.1))) (e2 : zhf κ = r.2) {a1 : Int} {a2 : Int} {h : zH} (hF : fX11_years N a1 a2 h = some r) : Z κ h 0 [(0, .ref (zα κ 14)), (1, .int (zi a1)), (2, .long (zl a2))] [] := by
  unfold fX11_years at hF
  refine z_aload_n (q := 1) C dX11_years_0 0 rfl rfl rfl ?_
  refine z_iload_n (q := 2) C dX11_years_1 1 rfl rfl rfl ?_
  refine z_sipush (q := 5) C dX11_years_2 sp_240 rfl ?_
  refine z_callV (q := 8) (o := 14) (av := [.int (zi a1), .int (zi 240)]) (rest := []) (stk2 := [.int (zi (fX11_areHours a1 240 h))]) C hR clX11 (zon C zo_14) kd_14 (M_fX11_areHours (zlv hd rfl) rfl) mY_X11_areHours q_1514 (Nat.le_of_ble_eq_true rfl) dX11_years_5 rfl rfl rfl ?_
  refine z_if_ne (tgt := 13) (q := 11) C dX11_years_8 (by decide) rfl (fun c1 => ?_) (fun c1 => ?_)
  · have hF := (if_neg c1).symm.trans hF
    refine z_aload_n (q := 14) C dX11_years_13 0 rfl rfl rfl ?_
    refine z_lload_n (q := 15) C dX11_years_14 2 rfl rfl rfl ?_
    obtain ⟨h2, eh2, hF⟩ := zlet_e hF
    refine z_putf (q := 18) C clX11 (zon C zo_14) kd_14 (k := 47) (x := a2) (by decide) q_1149 rfl rfl rfl rfl (((zfv_l kd_14 rfl)).trans (by rw [if_pos rfl])) dX11_years_15 rfl eh2 ?_
    refine z_iconst (q := 19) C dX11_years_18 rfl ?_
    refine z_istore (q := 21) C dX11_years_19 (by decide) rfl rfl ?_
    exact z_sub (J_fX11_years_c21 C hR hd e1 e2 N _ _ _ hF) [1, 2, 0] rfl
  · have hF := (if_pos c1).symm.trans hF
    refine z_iconst (q := 12) C dX11_years_11 rfl ?_
    cases hF
    exact z_iret C e1 e2 dX11_years_12
set_option maxRecDepth 20000 in
set_option maxHeartbeats 4000000 in
theorem M_fX11_years {l : Launch} {D : va_G} {cy : ClassId} {α : Nat → Nat} {n : Nat} {σ : zSg} {d : Nat} (hd : 65 ≤ d) {N : Nat} {a1 : Int} {a2 : Int} {h : zH} {r : Int} {g : zH} (hF : fX11_years N a1 a2 h = some (r, g)) : zMet l yX11_years cX11_years 6 (some .int) (zrm d) D cy α n σ [.ref (α 14), .int (zi a1), .long (zl a2)] h (some (.int (zi r))) g := by
  obtain ⟨d, rfl⟩ : ∃ e, d = e + 1 := ⟨d - 1, by omega⟩
  refine z_met (by decide +kernel) (Nat.le_of_ble_eq_true rfl) (fun κ k1 k2 k3 k4 k5 k6 k7 k8 k9 C => ?_)
  subst k1 k3 k4 k5 k6 k7
  exact J_fX11_years C k2 hd k8 k9 hF
set_option maxRecDepth 20000 in
set_option maxHeartbeats 4000000 in
theorem J_fX11_image_c11b {κ : zT} (C : zC κ RX11 cX11_image 2 (some .int)) {d : Nat} (hR : zR κ = zrm (d + 1)) (hd : 1 ≤ d + 1) {N : Nat} {r : Int × zH} (e1 : zrv κ = some (.int (zi r.1))) (e2 : zhf κ = r.2) {K11 : Int → zH → Option (Int × zH)} (hK11 : ∀ (l1 : Int) (h : zH), K11 l1 h = some r → Z κ h 11 [(0, .ref (zα κ 14)), (1, .int (zi l1))] []) (l1 : Int) (h : zH) (hF : fX11_image_c11b N K11 l1 h = some r) : Z κ h 11 [(0, .ref (zα κ 14)), (1, .int (zi l1))] [] := by
  unfold fX11_image_c11b at hF
  refine z_iload_n (q := 12) C dX11_image_11 1 rfl rfl rfl ?_
  refine z_sipush (q := 15) C dX11_image_12 sp_165 rfl ?_
  refine z_icmp_ge (tgt := 36) (q := 18) C dX11_image_15 (by decide) rfl (fun c1 => ?_) (fun c1 => ?_)
  · have hF := (if_pos c1).symm.trans hF
    refine z_aload_n (q := 37) C dX11_image_36 0 rfl rfl rfl ?_
    refine z_iconst (q := 38) C dX11_image_37 rfl ?_
    obtain ⟨h2, eh2, hF⟩ := zlet_e hF
    refine z_putf (q := 41) C clX11 (zon C zo_14) kd_14 (k := 49) (x := 1) (by decide) q_1151 rfl rfl (zbn (Or.inr rfl)) (zbf (Or.inr rfl)) (((zfv_i kd_14 rfl)).trans (by rw [if_pos rfl])) dX11_image_38 rfl eh2 ?_
    refine z_aload_n (q := 42) C dX11_image_41 0 rfl rfl rfl ?_
    refine z_getf (q := 45) C clX11 (zon C zo_14) kd_14 (k := 34) (by decide) q_1136 rfl (zfv_r kd_14 rfl fr_14_34) dX11_image_42 rfl ?_
    refine z_bipush (q := 47) C dX11_image_45 bp_42 rfl ?_
    refine z_ialdc (q := 48) (j := 42) C (zon C zo_69) kd_69 zwk_42 (by rw [ln_69]; decide) dX11_image_47 rfl ?_
    cases hF
    exact z_iret C e1 e2 dX11_image_48
  · have hF := (if_neg c1).symm.trans hF
    refine z_aload_n (q := 19) C dX11_image_18 0 rfl rfl rfl ?_
    refine z_getf (q := 22) C clX11 (zon C zo_14) kd_14 (k := 48) (by decide) q_1150 rfl (zfv_r kd_14 rfl fr_14_48) dX11_image_19 rfl ?_
    refine z_iload_n (q := 23) C dX11_image_22 1 rfl rfl rfl ?_
    refine z_aload_n (q := 24) C dX11_image_23 0 rfl rfl rfl ?_
    refine z_getf (q := 27) C clX11 (zon C zo_14) kd_14 (k := 34) (by decide) q_1136 rfl (zfv_r kd_14 rfl fr_14_34) dX11_image_24 rfl ?_
    refine z_iload_n (q := 28) C dX11_image_27 1 rfl rfl rfl ?_
    obtain ⟨g3, hF⟩ := zif_none hF
    refine z_iald (q := 29) C (zon C zo_69) kd_69 g3.1 (by rw [ln_69]; exact g3.2) dX11_image_28 rfl ?_
    obtain ⟨g4, hF⟩ := zif_none hF
    obtain ⟨h5, eh5, hF⟩ := zlet_e hF
    refine z_iast (q := 30) C (zon C zo_75) kd_75 g4.1 (by rw [ln_75]; exact g4.2) dX11_image_29 rfl eh5 ?_
    refine z_iinc (q := 33) (x := l1) C dX11_image_30 (j := 1) rfl (by decide) rfl rfl ?_
    refine z_goto (q := 11) C dX11_image_33 (by decide) ?_
    exact z_sub (hK11 _ _ hF) [1, 0] rfl
set_option maxRecDepth 20000 in
set_option maxHeartbeats 4000000 in
theorem J_fX11_image_c11 {κ : zT} (C : zC κ RX11 cX11_image 2 (some .int)) {d : Nat} (hR : zR κ = zrm (d + 1)) (hd : 1 ≤ d + 1) {N : Nat} {r : Int × zH} (e1 : zrv κ = some (.int (zi r.1))) (e2 : zhf κ = r.2) : ∀ (k : Nat) (l1 : Int) (h : zH), fX11_image_c11 N k l1 h = some r → Z κ h 11 [(0, .ref (zα κ 14)), (1, .int (zi l1))] [] := by
  intro k
  induction k with
  | zero => intro l1 h hF; cases hF
  | succ k ih => intro l1 h hF; exact J_fX11_image_c11b C hR hd e1 e2 ih l1 h hF
set_option maxRecDepth 20000 in
set_option maxHeartbeats 4000000 in
theorem J_fX11_image {κ : zT} (C : zC κ RX11 cX11_image 2 (some .int)) {d : Nat} (hR : zR κ = zrm (d + 1)) (hd : 1 ≤ d + 1) {N : Nat} {r : Int × zH} (e1 : zrv κ = some (.int (zi r.1))) (e2 : zhf κ = r.2) {h : zH} (hF : fX11_image N h = some r) : Z κ h 0 [(0, .ref (zα κ 14))] [] := by
  unfold fX11_image at hF
  refine z_aload_n (q := 1) C dX11_image_0 0 rfl rfl rfl ?_
  refine z_getf (q := 4) C clX11 (zon C zo_14) kd_14 (k := 28) (by decide) q_1130 rfl (zfv_i kd_14 rfl) dX11_image_1 rfl ?_
  refine z_if_ne (tgt := 9) (q := 7) C dX11_image_4 (by decide) rfl (fun c1 => ?_) (fun c1 => ?_)
  · have hF := (if_neg c1).symm.trans hF
    refine z_iconst (q := 10) C dX11_image_9 rfl ?_
    refine z_istore_n (q := 11) C dX11_image_10 (by decide) rfl rfl rfl ?_
    exact z_sub (J_fX11_image_c11 C hR hd e1 e2 N _ _ hF) [1, 0] rfl
  · have hF := (if_pos c1).symm.trans hF
    refine z_iconst (q := 8) C dX11_image_7 rfl ?_
    cases hF
    exact z_iret C e1 e2 dX11_image_8
set_option maxRecDepth 20000 in
set_option maxHeartbeats 4000000 in
theorem M_fX11_image {l : Launch} {D : va_G} {cy : ClassId} {α : Nat → Nat} {n : Nat} {σ : zSg} {d : Nat} (hd : 1 ≤ d) {N : Nat} {h : zH} {r : Int} {g : zH} (hF : fX11_image N h = some (r, g)) : zMet l yX11_image cX11_image 2 (some .int) (zrm d) D cy α n σ [.ref (α 14)] h (some (.int (zi r))) g := by
  obtain ⟨d, rfl⟩ : ∃ e, d = e + 1 := ⟨d - 1, by omega⟩
  refine z_met (by decide +kernel) (Nat.le_of_ble_eq_true rfl) (fun κ k1 k2 k3 k4 k5 k6 k7 k8 k9 C => ?_)
  subst k1 k3 k4 k5 k6 k7
  exact J_fX11_image C k2 hd k8 k9 hF
set_option maxRecDepth 20000 in
set_option maxHeartbeats 4000000 in
theorem J_fX11_back_c11b {κ : zT} (C : zC κ RX11 cX11_back 2 (some .int)) {d : Nat} (hR : zR κ = zrm (d + 1)) (hd : 1 ≤ d + 1) {N : Nat} {r : Int × zH} (e1 : zrv κ = some (.int (zi r.1))) (e2 : zhf κ = r.2) {K11 : Int → zH → Option (Int × zH)} (hK11 : ∀ (l1 : Int) (h : zH), K11 l1 h = some r → Z κ h 11 [(0, .ref (zα κ 14)), (1, .int (zi l1))] []) (l1 : Int) (h : zH) (hF : fX11_back_c11b N K11 l1 h = some r) : Z κ h 11 [(0, .ref (zα κ 14)), (1, .int (zi l1))] [] := by
  unfold fX11_back_c11b at hF
  refine z_iload_n (q := 12) C dX11_back_11 1 rfl rfl rfl ?_
  refine z_sipush (q := 15) C dX11_back_12 sp_165 rfl ?_
  refine z_icmp_ge (tgt := 36) (q := 18) C dX11_back_15 (by decide) rfl (fun c1 => ?_) (fun c1 => ?_)
  · have hF := (if_pos c1).symm.trans hF
    refine z_aload_n (q := 37) C dX11_back_36 0 rfl rfl rfl ?_
    refine z_iconst (q := 38) C dX11_back_37 rfl ?_
    obtain ⟨h2, eh2, hF⟩ := zlet_e hF
    refine z_putf (q := 41) C clX11 (zon C zo_14) kd_14 (k := 38) (x := 0) (by decide) q_1140 rfl rfl rfl rfl (((zfv_i kd_14 rfl)).trans (by rw [if_pos rfl])) dX11_back_38 rfl eh2 ?_
    refine z_aload_n (q := 42) C dX11_back_41 0 rfl rfl rfl ?_
    refine z_getf (q := 45) C clX11 (zon C zo_14) kd_14 (k := 34) (by decide) q_1136 rfl (zfv_r kd_14 rfl fr_14_34) dX11_back_42 rfl ?_
    refine z_bipush (q := 47) C dX11_back_45 bp_42 rfl ?_
    refine z_ialdc (q := 48) (j := 42) C (zon C zo_69) kd_69 zwk_42 (by rw [ln_69]; decide) dX11_back_47 rfl ?_
    cases hF
    exact z_iret C e1 e2 dX11_back_48
  · have hF := (if_neg c1).symm.trans hF
    refine z_aload_n (q := 19) C dX11_back_18 0 rfl rfl rfl ?_
    refine z_getf (q := 22) C clX11 (zon C zo_14) kd_14 (k := 34) (by decide) q_1136 rfl (zfv_r kd_14 rfl fr_14_34) dX11_back_19 rfl ?_
    refine z_iload_n (q := 23) C dX11_back_22 1 rfl rfl rfl ?_
    refine z_aload_n (q := 24) C dX11_back_23 0 rfl rfl rfl ?_
    refine z_getf (q := 27) C clX11 (zon C zo_14) kd_14 (k := 48) (by decide) q_1150 rfl (zfv_r kd_14 rfl fr_14_48) dX11_back_24 rfl ?_
    refine z_iload_n (q := 28) C dX11_back_27 1 rfl rfl rfl ?_
    obtain ⟨g3, hF⟩ := zif_none hF
    refine z_iald (q := 29) C (zon C zo_75) kd_75 g3.1 (by rw [ln_75]; exact g3.2) dX11_back_28 rfl ?_
    obtain ⟨g4, hF⟩ := zif_none hF
    obtain ⟨h5, eh5, hF⟩ := zlet_e hF
    refine z_iast (q := 30) C (zon C zo_69) kd_69 g4.1 (by rw [ln_69]; exact g4.2) dX11_back_29 rfl eh5 ?_
    refine z_iinc (q := 33) (x := l1) C dX11_back_30 (j := 1) rfl (by decide) rfl rfl ?_
    refine z_goto (q := 11) C dX11_back_33 (by decide) ?_
    exact z_sub (hK11 _ _ hF) [1, 0] rfl
set_option maxRecDepth 20000 in
set_option maxHeartbeats 4000000 in
theorem J_fX11_back_c11 {κ : zT} (C : zC κ RX11 cX11_back 2 (some .int)) {d : Nat} (hR : zR κ = zrm (d + 1)) (hd : 1 ≤ d + 1) {N : Nat} {r : Int × zH} (e1 : zrv κ = some (.int (zi r.1))) (e2 : zhf κ = r.2) : ∀ (k : Nat) (l1 : Int) (h : zH), fX11_back_c11 N k l1 h = some r → Z κ h 11 [(0, .ref (zα κ 14)), (1, .int (zi l1))] [] := by
  intro k
  induction k with
  | zero => intro l1 h hF; cases hF
  | succ k ih => intro l1 h hF; exact J_fX11_back_c11b C hR hd e1 e2 ih l1 h hF
set_option maxRecDepth 20000 in
set_option maxHeartbeats 4000000 in
theorem J_fX11_back {κ : zT} (C : zC κ RX11 cX11_back 2 (some .int)) {d : Nat} (hR : zR κ = zrm (d + 1)) (hd : 1 ≤ d + 1) {N : Nat} {r : Int × zH} (e1 : zrv κ = some (.int (zi r.1))) (e2 : zhf κ = r.2) {h : zH} (hF : fX11_back N h = some r) : Z κ h 0 [(0, .ref (zα κ 14))] [] := by
  unfold fX11_back at hF
  refine z_aload_n (q := 1) C dX11_back_0 0 rfl rfl rfl ?_
  refine z_getf (q := 4) C clX11 (zon C zo_14) kd_14 (k := 49) (by decide) q_1151 rfl (zfv_i kd_14 rfl) dX11_back_1 rfl ?_
  refine z_if_ne (tgt := 9) (q := 7) C dX11_back_4 (by decide) rfl (fun c1 => ?_) (fun c1 => ?_)
  · have hF := (if_neg c1).symm.trans hF
    refine z_iconst (q := 10) C dX11_back_9 rfl ?_
    refine z_istore_n (q := 11) C dX11_back_10 (by decide) rfl rfl rfl ?_
    exact z_sub (J_fX11_back_c11 C hR hd e1 e2 N _ _ hF) [1, 0] rfl
  · have hF := (if_pos c1).symm.trans hF
    refine z_iconst (q := 8) C dX11_back_7 rfl ?_
    cases hF
    exact z_iret C e1 e2 dX11_back_8
set_option maxRecDepth 20000 in
set_option maxHeartbeats 4000000 in
theorem M_fX11_back {l : Launch} {D : va_G} {cy : ClassId} {α : Nat → Nat} {n : Nat} {σ : zSg} {d : Nat} (hd : 1 ≤ d) {N : Nat} {h : zH} {r : Int} {g : zH} (hF : fX11_back N h = some (r, g)) : zMet l yX11_back cX11_back 2 (some .int) (zrm d) D cy α n σ [.ref (α 14)] h (some (.int (zi r))) g := by
  obtain ⟨d, rfl⟩ : ∃ e, d = e + 1 := ⟨d - 1, by omega⟩
  refine z_met (by decide +kernel) (Nat.le_of_ble_eq_true rfl) (fun κ k1 k2 k3 k4 k5 k6 k7 k8 k9 C => ?_)
  subst k1 k3 k4 k5 k6 k7
  exact J_fX11_back C k2 hd k8 k9 hF
