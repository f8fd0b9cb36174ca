set_option maxRecDepth 20000 in
set_option maxHeartbeats 4000000 in
theorem J_fX11_earliest_c6b {κ : zT} (C : zC κ RX11 cX11_earliest 4 (some .int)) {d : Nat} (hR : zR κ = zrm (d + 1)) (hd : 64 ≤ d + 1) {N : Nat} {r : Int × zH} (e1 : zrv κ = some (.int (zi r.1))) (e2 : zhf κ = r.2) {K6 : Int → Int → Int → zH → Option (Int × zH)} (hK6 : ∀ (l1 : Int) (l2 : Int) (l3 : Int) (h : zH), K6 l1 l2 l3 h = some r → Z κ h 6 [(0, .ref (zα κ 14)), (1, .int (zi l1)), (2, .int (zi l2)), (3, .int (zi l3))] []) (l1 : Int) (l2 : Int) (l3 : Int) (h : zH) (hF : fX11_earliest_c6b N K6 l1 l2 l3 h = some r) : Z κ h 6 [(0, .ref (zα κ 14)), (1, .int (zi l1)), (2, .int (zi l2)), (3, .int (zi l3))] [] := by
  unfold fX11_earliest_c6b at hF
  refine z_iload_n (q := 7) C dX11_earliest_6 3 rfl rfl rfl ?_
  refine z_aload_n (q := 8) C dX11_earliest_7 0 rfl rfl rfl ?_
  refine z_getf (q := 11) C clX11 (zon C zo_14) kd_14 (k := 28) (by decide) q_1130 rfl (zfv_i kd_14 rfl) dX11_earliest_8 rfl ?_
  refine z_icmp_ge (tgt := 59) (q := 14) C dX11_earliest_11 (by decide) rfl (fun c1 => ?_) (fun c1 => ?_)
  · have hF := (if_pos c1).symm.trans hF
    refine z_iload_n (q := 60) C dX11_earliest_59 1 rfl rfl rfl ?_
    have hF := Option.some.inj hF
    subst hF
    exact z_iret C e1 e2 dX11_earliest_60
  · have hF := (if_neg c1).symm.trans hF
    refine z_aload_n (q := 15) C dX11_earliest_14 0 rfl rfl rfl ?_
    refine z_iload_n (q := 16) C dX11_earliest_15 3 rfl rfl rfl ?_
    refine z_aload_n (q := 17) C dX11_earliest_16 0 rfl rfl rfl ?_
    refine z_iload_n (q := 18) C dX11_earliest_17 3 rfl rfl rfl ?_
    refine z_iconst (q := 19) C dX11_earliest_18 rfl ?_
    obtain ⟨v2, ev2, hF⟩ := zb_e hF
    refine z_callV (q := 22) (o := 14) (av := [.int (zi l3), .int (zi 0)]) (rest := [.int (zi l3), .ref (zα κ 14)]) (stk2 := [.int (zi v2), .int (zi l3), .ref (zα κ 14)]) C hR clX11 (zon C zo_14) kd_14 (M_fX11_of (zlv hd rfl) ev2) mY_X11_of q_1430 (Nat.le_of_ble_eq_true rfl) dX11_earliest_19 rfl rfl rfl ?_
    obtain ⟨h3, eh3, hF⟩ := zb_e hF
    refine z_callV (q := 25) (o := 14) (av := [.int (zi l3), .int (zi v2)]) (rest := []) (stk2 := []) C hR clX11 (zon C zo_14) kd_14 (M_fX11_laySoonest (zlv hd rfl) eh3) mY_X11_laySoonest q_1635 (Nat.le_of_ble_eq_true rfl) dX11_earliest_22 rfl rfl rfl ?_
    refine z_aload_n (q := 26) C dX11_earliest_25 0 rfl rfl rfl ?_
    refine z_getf (q := 29) C clX11 (zon C zo_14) kd_14 (k := 41) (by decide) q_1143 rfl (zfv_i kd_14 rfl) dX11_earliest_26 rfl ?_
    refine z_iconst (q := 30) C dX11_earliest_29 rfl ?_
    refine z_icmp_eq (tgt := 53) (q := 33) C dX11_earliest_30 (by decide) rfl (fun c4 => ?_) (fun c4 => ?_)
    · have hF := (if_pos c4).symm.trans hF
      refine z_iinc (q := 56) (x := l3) C dX11_earliest_53 (j := 3) rfl (by decide) rfl rfl ?_
      refine z_goto (q := 6) C dX11_earliest_56 (by decide) ?_
      exact z_sub (hK6 _ _ _ _ hF) [1, 2, 3, 0] rfl
    · have hF := (if_neg c4).symm.trans hF
      refine z_iload_n (q := 34) C dX11_earliest_33 1 rfl rfl rfl ?_
      refine z_iconst (q := 35) C dX11_earliest_34 rfl ?_
      refine z_icmp_eq (tgt := 46) (q := 38) C dX11_earliest_35 (by decide) rfl (fun c5 => ?_) (fun c5 => ?_)
      · have hF := (if_pos c5).symm.trans hF
        refine z_iload_n (q := 47) C dX11_earliest_46 3 rfl rfl rfl ?_
        refine z_istore_n (q := 48) C dX11_earliest_47 (by decide) rfl rfl rfl ?_
        refine z_aload_n (q := 49) C dX11_earliest_48 1 rfl rfl rfl ?_
        refine z_getf (q := 52) C clX11 (zon C zo_14) kd_14 (k := 41) (by decide) q_1143 rfl (zfv_i kd_14 rfl) dX11_earliest_49 rfl ?_
        obtain ⟨v6, ev6, hF⟩ := zlet_e hF
        refine z_istoreE_n (q := 53) C ev6 dX11_earliest_52 (by decide) rfl rfl rfl ?_
        refine z_iinc (q := 56) (x := l3) C dX11_earliest_53 (j := 3) rfl (by decide) rfl rfl ?_
        refine z_goto (q := 6) C dX11_earliest_56 (by decide) ?_
        exact z_sub (hK6 _ _ _ _ hF) [3, 2, 1, 0] rfl
      · have hF := (if_neg c5).symm.trans hF
        refine z_aload_n (q := 39) C dX11_earliest_38 0 rfl rfl rfl ?_
        refine z_getf (q := 42) C clX11 (zon C zo_14) kd_14 (k := 41) (by decide) q_1143 rfl (zfv_i kd_14 rfl) dX11_earliest_39 rfl ?_
        refine z_iload_n (q := 43) C dX11_earliest_42 2 rfl rfl rfl ?_
        refine z_icmp_ge (tgt := 53) (q := 46) C dX11_earliest_43 (by decide) rfl (fun c7 => ?_) (fun c7 => ?_)
        · have hF := (if_pos c7).symm.trans hF
          refine z_iinc (q := 56) (x := l3) C dX11_earliest_53 (j := 3) rfl (by decide) rfl rfl ?_
          refine z_goto (q := 6) C dX11_earliest_56 (by decide) ?_
          exact z_sub (hK6 _ _ _ _ hF) [1, 2, 3, 0] rfl
        · have hF := (if_neg c7).symm.trans hF
          refine z_iload_n (q := 47) C dX11_earliest_46 3 rfl rfl rfl ?_
          refine z_istore_n (q := 48) C dX11_earliest_47 (by decide) rfl rfl rfl ?_
          refine z_aload_n (q := 49) C dX11_earliest_48 1 rfl rfl rfl ?_
          refine z_getf (q := 52) C clX11 (zon C zo_14) kd_14 (k := 41) (by decide) q_1143 rfl (zfv_i kd_14 rfl) dX11_earliest_49 rfl ?_
          obtain ⟨v8, ev8, hF⟩ := zlet_e hF
          refine z_istoreE_n (q := 53) C ev8 dX11_earliest_52 (by decide) rfl rfl rfl ?_
          refine z_iinc (q := 56) (x := l3) C dX11_earliest_53 (j := 3) rfl (by decide) rfl rfl ?_
          refine z_goto (q := 6) C dX11_earliest_56 (by decide) ?_
          exact z_sub (hK6 _ _ _ _ hF) [3, 2, 1, 0] rfl
set_option maxRecDepth 20000 in
set_option maxHeartbeats 4000000 in
theorem J_fX11_earliest_c6 {κ : zT} (C : zC κ RX11 cX11_earliest 4 (some .int)) {d : Nat} (hR : zR κ = zrm (d + 1)) (hd : 64 ≤ d + 1) {N : Nat} {r : Int × zH} (e1 : zrv κ = some (.int (zi r.1))) (e2 : zhf κ = r.2) : ∀ (k : Nat) (l1 : Int) (l2 : Int) (l3 : Int) (h : zH), fX11_earliest_c6 N k l1 l2 l3 h = some r → Z κ h 6 [(0, .ref (zα κ 14)), (1, .int (zi l1)), (2, .int (zi l2)), (3, .int (zi l3))] [] := by
  intro k
  induction k with
  | zero => intro l1 l2 l3 h hF; cases hF
  | succ k ih => intro l1 l2 l3 h hF; exact J_fX11_earliest_c6b C hR hd e1 e2 ih l1 l2 l3 h hF
set_option maxRecDepth 20000 in
set_option maxHeartbeats 4000000 in
theorem J_fX11_earliest {κ : zT} (C : zC κ RX11 cX11_earliest 4 (some .int)) {d : Nat} (hR : zR κ = zrm (d + 1)) (hd : 64 ≤ d + 1) {N : Nat} {r : Int × zH} (e1 : zrv κ = some (.int (zi r.1))) (e2 : zhf κ = r.2) {h : zH} (hF : fX11_earliest N h = some r) : Z κ h 0 [(0, .ref (zα κ 14))] [] := by
  unfold fX11_earliest at hF
  refine z_iconst (q := 1) C dX11_earliest_0 rfl ?_
  refine z_istore_n (q := 2) C dX11_earliest_1 (by decide) rfl rfl rfl ?_
  refine z_iconst (q := 3) C dX11_earliest_2 rfl ?_
  refine z_istore_n (q := 4) C dX11_earliest_3 (by decide) rfl rfl rfl ?_
  refine z_iconst (q := 5) C dX11_earliest_4 rfl ?_
  refine z_istore_n (q := 6) C dX11_earliest_5 (by decide) rfl rfl rfl ?_
  exact z_sub (J_fX11_earliest_c6 C hR hd e1 e2 N _ _ _ _ hF) [3, 2, 1, 0] rfl
set_option maxRecDepth 20000 in
set_option maxHeartbeats 4000000 in
theorem M_fX11_earliest {l : Launch} {D : va_G} {cy : ClassId} {α : Nat → Nat} {n : Nat} {σ : zSg} {d : Nat} (hd : 64 ≤ d) {N : Nat} {h : zH} {r : Int} {g : zH} (hF : fX11_earliest N h = some (r, g)) : zMet l yX11_earliest cX11_earliest 4 (some .int) (zrm d) D cy α n σ [.ref (α 14)] h (some (.int (zi r))) g := by
  obtain ⟨d, rfl⟩ : ∃ e, d = e + 1 := ⟨d - 1, by omega⟩
  refine z_met (by decide +kernel) (Nat.le_of_ble_eq_true rfl) (fun κ k1 k2 k3 k4 k5 k6 k7 k8 k9 C => ?_)
  subst k1 k3 k4 k5 k6 k7
  exact J_fX11_earliest C k2 hd k8 k9 hF
set_option maxRecDepth 20000 in
set_option maxHeartbeats 4000000 in
theorem J_fX11_ten_c4b {κ : zT} (C : zC κ RX11 cX11_ten 3 (some .int)) {d : Nat} (hR : zR κ = zrm (d + 1)) (hd : 1 ≤ d + 1) {N : Nat} {h : zH} {r : Int} (e1 : zrv κ = some (.int (zi r))) (e2 : zhf κ = h) {K4 : Int → Int → Int → Option Int} (hK4 : ∀ (l0 : Int) (l1 : Int) (l2 : Int), K4 l0 l1 l2 = some r → Z κ h 4 [(0, .int (zi l0)), (1, .int (zi l1)), (2, .int (zi l2))] []) (l0 : Int) (l1 : Int) (l2 : Int) (hF : fX11_ten_c4b N K4 l0 l1 l2 = some r) : Z κ h 4 [(0, .int (zi l0)), (1, .int (zi l1)), (2, .int (zi l2))] [] := by
  unfold fX11_ten_c4b at hF
  refine z_iload_n (q := 5) C dX11_ten_4 2 rfl rfl rfl ?_
  refine z_iload_n (q := 6) C dX11_ten_5 0 rfl rfl rfl ?_
  refine z_icmp_ge (tgt := 20) (q := 9) C dX11_ten_6 (by decide) rfl (fun c1 => ?_) (fun c1 => ?_)
  · have hF := (if_pos c1).symm.trans hF
    refine z_iload_n (q := 21) C dX11_ten_20 1 rfl rfl rfl ?_
    have hF := Option.some.inj hF
    subst hF
    exact z_iret C e1 e2 dX11_ten_21
  · have hF := (if_neg c1).symm.trans hF
    refine z_iload_n (q := 10) C dX11_ten_9 1 rfl rfl rfl ?_
    refine z_bipush (q := 12) C dX11_ten_10 bp_10 rfl ?_
    refine z_imul (q := 13) C dX11_ten_12 rfl ?_
    refine z_istore_n (q := 14) C dX11_ten_13 (by decide) rfl rfl rfl ?_
    refine z_iinc (q := 17) (x := l2) C dX11_ten_14 (j := 2) rfl (by decide) rfl rfl ?_
    refine z_goto (q := 4) C dX11_ten_17 (by decide) ?_
    exact z_sub (hK4 _ _ _ hF) [2, 1, 0] rfl
set_option maxRecDepth 20000 in
set_option maxHeartbeats 4000000 in
theorem J_fX11_ten_c4 {κ : zT} (C : zC κ RX11 cX11_ten 3 (some .int)) {d : Nat} (hR : zR κ = zrm (d + 1)) (hd : 1 ≤ d + 1) {N : Nat} {h : zH} {r : Int} (e1 : zrv κ = some (.int (zi r))) (e2 : zhf κ = h) : ∀ (k : Nat) (l0 : Int) (l1 : Int) (l2 : Int), fX11_ten_c4 N k l0 l1 l2 = some r → Z κ h 4 [(0, .int (zi l0)), (1, .int (zi l1)), (2, .int (zi l2))] [] := by
  intro k
  induction k with
  | zero => intro l0 l1 l2 hF; cases hF
  | succ k ih => intro l0 l1 l2 hF; exact J_fX11_ten_c4b C hR hd e1 e2 ih l0 l1 l2 hF
set_option maxRecDepth 20000 in
set_option maxHeartbeats 4000000 in
theorem J_fX11_ten {κ : zT} (C : zC κ RX11 cX11_ten 3 (some .int)) {d : Nat} (hR : zR κ = zrm (d + 1)) (hd : 1 ≤ d + 1) {N : Nat} {h : zH} {r : Int} (e1 : zrv κ = some (.int (zi r))) (e2 : zhf κ = h) {a0 : Int} (hF : fX11_ten N a0 = some r) : Z κ h 0 [(0, .int (zi a0))] [] := by
  unfold fX11_ten at hF
  refine z_iconst (q := 1) C dX11_ten_0 rfl ?_
  refine z_istore_n (q := 2) C dX11_ten_1 (by decide) rfl rfl rfl ?_
  refine z_iconst (q := 3) C dX11_ten_2 rfl ?_
  refine z_istore_n (q := 4) C dX11_ten_3 (by decide) rfl rfl rfl ?_
  exact z_sub (J_fX11_ten_c4 C hR hd e1 e2 N _ _ _ hF) [2, 1, 0] rfl
set_option maxRecDepth 20000 in
set_option maxHeartbeats 4000000 in
theorem M_fX11_ten {l : Launch} {D : va_G} {cy : ClassId} {α : Nat → Nat} {n : Nat} {σ : zSg} {d : Nat} (hd : 1 ≤ d) {N : Nat} {a0 : Int} {h : zH} {r : Int} (hF : fX11_ten N a0 = some r) : zMet l yX11_ten cX11_ten 3 (some .int) (zrm d) D cy α n σ [.int (zi a0)] h (some (.int (zi r))) h := by
  obtain ⟨d, rfl⟩ : ∃ e, d = e + 1 := ⟨d - 1, by omega⟩
  refine z_met (by decide +kernel) (Nat.le_of_ble_eq_true rfl) (fun κ k1 k2 k3 k4 k5 k6 k7 k8 k9 C => ?_)
  subst k1 k3 k4 k5 k6 k7
  exact J_fX11_ten C k2 hd k8 k9 hF
set_option maxRecDepth 20000 in
set_option maxHeartbeats 4000000 in
theorem J_fX11_isForm_c2b {κ : zT} (C : zC κ RX11 cX11_isForm 3 (some .boolean)) {d : Nat} (hR : zR κ = zrm (d + 1)) (hd : 2 ≤ d + 1) {N : Nat} {h : zH} {r : Int} (e1 : zrv κ = some (.int (zi r))) (e2 : zhf κ = h) {K2 : Int → Int → Option Int} (hK2 : ∀ (l1 : Int) (l2 : Int), K2 l1 l2 = some r → Z κ h 2 [(0, .ref (zα κ 14)), (1, .int (zi l1)), (2, .int (zi l2))] []) (l1 : Int) (l2 : Int) (hF : fX11_isForm_c2b N h K2 l1 l2 = some r) : Z κ h 2 [(0, .ref (zα κ 14)), (1, .int (zi l1)), (2, .int (zi l2))] [] := by
  unfold fX11_isForm_c2b at hF
  refine z_iload_n (q := 3) C dX11_isForm_2 2 rfl rfl rfl ?_
  refine z_aload_n (q := 4) C dX11_isForm_3 0 rfl rfl rfl ?_
  refine z_getf (q := 7) C clX11 (zon C zo_14) kd_14 (k := 28) (by decide) q_1130 rfl (zfv_i kd_14 rfl) dX11_isForm_4 rfl ?_
  refine z_icmp_ge (tgt := 27) (q := 10) C dX11_isForm_7 (by decide) rfl (fun c1 => ?_) (fun c1 => ?_)
  · have hF := (if_pos c1).symm.trans hF
    refine z_iconst (q := 28) C dX11_isForm_27 rfl ?_
    have hF := Option.some.inj hF
    subst hF
    exact z_zret C (zb01 (Or.inl rfl)) e1 e2 dX11_isForm_28
  · have hF := (if_neg c1).symm.trans hF
    refine z_aload_n (q := 11) C dX11_isForm_10 0 rfl rfl rfl ?_
    refine z_iload_n (q := 12) C dX11_isForm_11 2 rfl rfl rfl ?_
    obtain ⟨v2, ev2, hF⟩ := zb_e hF
    refine z_callV (q := 15) (o := 14) (av := [.int (zi l2)]) (rest := []) (stk2 := [.int (zi v2)]) C hR clX11 (zon C zo_14) kd_14 (M_fX11_form (zlv hd rfl) ev2) mY_X11_form q_1530 (Nat.le_of_ble_eq_true rfl) dX11_isForm_12 rfl rfl rfl ?_
    refine z_iload_n (q := 16) C dX11_isForm_15 1 rfl rfl rfl ?_
    refine z_icmp_ne (tgt := 21) (q := 19) C dX11_isForm_16 (by decide) rfl (fun c3 => ?_) (fun c3 => ?_)
    · have hF := (if_neg c3).symm.trans hF
      refine z_iinc (q := 24) (x := l2) C dX11_isForm_21 (j := 2) rfl (by decide) rfl rfl ?_
      refine z_goto (q := 2) C dX11_isForm_24 (by decide) ?_
      exact z_sub (hK2 _ _ hF) [1, 2, 0] rfl
    · have hF := (if_pos c3).symm.trans hF
      refine z_iconst (q := 20) C dX11_isForm_19 rfl ?_
      have hF := Option.some.inj hF
      subst hF
      exact z_zret C (zb01 (Or.inr rfl)) e1 e2 dX11_isForm_20
set_option maxRecDepth 20000 in
set_option maxHeartbeats 4000000 in
theorem J_fX11_isForm_c2 {κ : zT} (C : zC κ RX11 cX11_isForm 3 (some .boolean)) {d : Nat} (hR : zR κ = zrm (d + 1)) (hd : 2 ≤ d + 1) {N : Nat} {h : zH} {r : Int} (e1 : zrv κ = some (.int (zi r))) (e2 : zhf κ = h) : ∀ (k : Nat) (l1 : Int) (l2 : Int), fX11_isForm_c2 N h k l1 l2 = some r → Z κ h 2 [(0, .ref (zα κ 14)), (1, .int (zi l1)), (2, .int (zi l2))] [] := by
  intro k
  induction k with
  | zero => intro l1 l2 hF; cases hF
  | succ k ih => intro l1 l2 hF; exact J_fX11_isForm_c2b C hR hd e1 e2 ih l1 l2 hF
set_option maxRecDepth 20000 in
set_option maxHeartbeats 4000000 in
theorem J_fX11_isForm {κ : zT} (C : zC κ RX11 cX11_isForm 3 (some .boolean)) {d : Nat} (hR : zR κ = zrm (d + 1)) (hd : 2 ≤ d + 1) {N : Nat} {h : zH} {r : Int} (e1 : zrv κ = some (.int (zi r))) (e2 : zhf κ = h) {a1 : Int} (hF : fX11_isForm N a1 h = some r) : Z κ h 0 [(0, .ref (zα κ 14)), (1, .int (zi a1))] [] := by
  unfold fX11_isForm at hF
  refine z_iconst (q := 1) C dX11_isForm_0 rfl ?_
  refine z_istore_n (q := 2) C dX11_isForm_1 (by decide) rfl rfl rfl ?_
  exact z_sub (J_fX11_isForm_c2 C hR hd e1 e2 N _ _ hF) [1, 2, 0] rfl
set_option maxRecDepth 20000 in
set_option maxHeartbeats 4000000 in
theorem M_fX11_isForm {l : Launch} {D : va_G} {cy : ClassId} {α : Nat → Nat} {n : Nat} {σ : zSg} {d : Nat} (hd : 2 ≤ d) {N : Nat} {a1 : Int} {h : zH} {r : Int} (hF : fX11_isForm N a1 h = some r) : zMet l yX11_isForm cX11_isForm 3 (some .boolean) (zrm d) D cy α n σ [.ref (α 14), .int (zi a1)] h (some (.int (zi r))) h := by
  obtain ⟨d, rfl⟩ : ∃ e, d = e + 1 := ⟨d - 1, by omega⟩
  refine z_met (by decide +kernel) (Nat.le_of_ble_eq_true rfl) (fun κ k1 k2 k3 k4 k5 k6 k7 k8 k9 C => ?_)
  subst k1 k3 k4 k5 k6 k7
  exact J_fX11_isForm C k2 hd k8 k9 hF
set_option maxRecDepth 20000 in
set_option maxHeartbeats 4000000 in
theorem J_fX11_layRow_c54 {κ : zT} (C : zC κ RX11 cX11_layRow 4 (some .boolean)) {d : Nat} (hR : zR κ = zrm (d + 1)) (hd : 3 ≤ d + 1) {N : Nat} {r : Int × zH} (e1 : zrv κ = some (.int (zi r.1))) (e2 : zhf κ = r.2) {K17 : Int → Int → Int → zH → Option (Int × zH)} (hK17 : ∀ (l1 : Int) (l2 : Int) (l3 : Int) (h : zH), K17 l1 l2 l3 h = some r → Z κ h 17 [(0, .ref (zα κ 14)), (1, .int (zi l1)), (2, .int (zi l2)), (3, .int (zi l3))] []) (l1 : Int) (l2 : Int) (l3 : Int) (s0 : Int) (s1 : Int) (h : zH) (hF : fX11_layRow_c54 N K17 l1 l2 l3 s0 s1 h = some r) : Z κ h 54 [(0, .ref (zα κ 14)), (1, .int (zi l1)), (2, .int (zi l2)), (3, .int (zi l3))] [.int (zi s0), .int (zi s1), .ref (zα κ 72)] := by
  unfold fX11_layRow_c54 at hF
  obtain ⟨g1, hF⟩ := zif_none hF
  obtain ⟨h2, eh2, hF⟩ := zlet_e hF
  refine z_iast (q := 55) C (zon C zo_72) kd_72 g1.1 (by rw [ln_72]; exact g1.2) dX11_layRow_54 rfl eh2 ?_
  refine z_iload_n (q := 56) C dX11_layRow_55 2 rfl rfl rfl ?_
  refine z_if_eq (tgt := 76) (q := 59) C dX11_layRow_56 (by decide) rfl (fun c3 => ?_) (fun c3 => ?_)
  · have hF := (if_pos c3).symm.trans hF
    refine z_iconst (q := 77) C dX11_layRow_76 rfl ?_
    refine z_istore_n (q := 78) C dX11_layRow_77 (by decide) rfl rfl rfl ?_
    refine z_iinc (q := 81) (x := l3) C dX11_layRow_78 (j := 3) rfl (by decide) rfl rfl ?_
    refine z_goto (q := 17) C dX11_layRow_81 (by decide) ?_
    exact z_sub (hK17 _ _ _ _ hF) [2, 3, 1, 0] rfl
  · have hF := (if_neg c3).symm.trans hF
    refine z_aload_n (q := 60) C dX11_layRow_59 0 rfl rfl rfl ?_
    refine z_aload_n (q := 61) C dX11_layRow_60 0 rfl rfl rfl ?_
    refine z_getf (q := 64) C clX11 (zon C zo_14) kd_14 (k := 43) (by decide) q_1145 rfl (zfv_r kd_14 rfl fr_14_43) dX11_layRow_61 rfl ?_
    refine z_iload_n (q := 65) C dX11_layRow_64 3 rfl rfl rfl ?_
    obtain ⟨g4, hF⟩ := zif_none hF
    refine z_iald (q := 66) C (zon C zo_72) kd_72 g4.1 (by rw [ln_72]; exact g4.2) dX11_layRow_65 rfl ?_
    obtain ⟨v5, ev5, hF⟩ := zb_e hF
    refine z_callV (q := 69) (o := 14) (av := [.int (zi (h2 72 (zw l3).toNat))]) (rest := []) (stk2 := [.int (zi v5)]) C hR clX11 (zon C zo_14) kd_14 (M_fX11_isForm (zlv hd rfl) ev5) mY_X11_isForm q_1674 (Nat.le_of_ble_eq_true rfl) dX11_layRow_66 rfl rfl rfl ?_
    refine z_if_eq (tgt := 76) (q := 72) C dX11_layRow_69 (by decide) rfl (fun c6 => ?_) (fun c6 => ?_)
    · have hF := (if_pos c6).symm.trans hF
      refine z_iconst (q := 77) C dX11_layRow_76 rfl ?_
      refine z_istore_n (q := 78) C dX11_layRow_77 (by decide) rfl rfl rfl ?_
      refine z_iinc (q := 81) (x := l3) C dX11_layRow_78 (j := 3) rfl (by decide) rfl rfl ?_
      refine z_goto (q := 17) C dX11_layRow_81 (by decide) ?_
      exact z_sub (hK17 _ _ _ _ hF) [2, 3, 1, 0] rfl
    · have hF := (if_neg c6).symm.trans hF
      refine z_iconst (q := 73) C dX11_layRow_72 rfl ?_
      refine z_goto (q := 77) C dX11_layRow_73 (by decide) ?_
      refine z_istore_n (q := 78) C dX11_layRow_77 (by decide) rfl rfl rfl ?_
      refine z_iinc (q := 81) (x := l3) C dX11_layRow_78 (j := 3) rfl (by decide) rfl rfl ?_
      refine z_goto (q := 17) C dX11_layRow_81 (by decide) ?_
      exact z_sub (hK17 _ _ _ _ hF) [2, 3, 1, 0] rfl
set_option maxRecDepth 20000 in
set_option maxHeartbeats 4000000 in
theorem J_fX11_layRow_c17b {κ : zT} (C : zC κ RX11 cX11_layRow 4 (some .boolean)) {d : Nat} (hR : zR κ = zrm (d + 1)) (hd : 3 ≤ d + 1) {N : Nat} {r : Int × zH} (e1 : zrv κ = some (.int (zi r.1))) (e2 : zhf κ = r.2) {K17 : Int → Int → Int → zH → Option (Int × zH)} (hK17 : ∀ (l1 : Int) (l2 : Int) (l3 : Int) (h : zH), K17 l1 l2 l3 h = some r → Z κ h 17 [(0, .ref (zα κ 14)), (1, .int (zi l1)), (2, .int (zi l2)), (3, .int (zi l3))] []) (l1 : Int) (l2 : Int) (l3 : Int) (h : zH) (hF : fX11_layRow_c17b N K17 l1 l2 l3 h = some r) : Z κ h 17 [(0, .ref (zα κ 14)), (1, .int (zi l1)), (2, .int (zi l2)), (3, .int (zi l3))] [] := by
  unfold fX11_layRow_c17b at hF
  refine z_iload_n (q := 18) C dX11_layRow_17 3 rfl rfl rfl ?_
  refine z_aload_n (q := 19) C dX11_layRow_18 0 rfl rfl rfl ?_
  refine z_getf (q := 22) C clX11 (zon C zo_14) kd_14 (k := 28) (by decide) q_1130 rfl (zfv_i kd_14 rfl) dX11_layRow_19 rfl ?_
  refine z_icmp_ge (tgt := 84) (q := 25) C dX11_layRow_22 (by decide) rfl (fun c1 => ?_) (fun c1 => ?_)
  · have hF := (if_pos c1).symm.trans hF
    refine z_iload_n (q := 85) C dX11_layRow_84 2 rfl rfl rfl ?_
    obtain ⟨g2, hF⟩ := zif_none hF
    have hF := Option.some.inj hF
    subst hF
    exact z_zret C (zb01 g2) e1 e2 dX11_layRow_85
  · have hF := (if_neg c1).symm.trans hF
    refine z_aload_n (q := 26) C dX11_layRow_25 0 rfl rfl rfl ?_
    refine z_getf (q := 29) C clX11 (zon C zo_14) kd_14 (k := 43) (by decide) q_1145 rfl (zfv_r kd_14 rfl fr_14_43) dX11_layRow_26 rfl ?_
    refine z_iload_n (q := 30) C dX11_layRow_29 3 rfl rfl rfl ?_
    refine z_iload_n (q := 31) C dX11_layRow_30 2 rfl rfl rfl ?_
    refine z_if_eq (tgt := 53) (q := 34) C dX11_layRow_31 (by decide) rfl (fun c3 => ?_) (fun c3 => ?_)
    · have hF := (if_pos c3).symm.trans hF
      refine z_iconst (q := 54) C dX11_layRow_53 rfl ?_
      exact z_sub (J_fX11_layRow_c54 C hR hd e1 e2 hK17 _ _ _ _ _ _ hF) [0, 1, 2, 3] rfl
    · have hF := (if_neg c3).symm.trans hF
      refine z_iload_n (q := 35) C dX11_layRow_34 1 rfl rfl rfl ?_
      refine z_aload_n (q := 36) C dX11_layRow_35 0 rfl rfl rfl ?_
      refine z_getf (q := 39) C clX11 (zon C zo_14) kd_14 (k := 28) (by decide) q_1130 rfl (zfv_i kd_14 rfl) dX11_layRow_36 rfl ?_
      refine z_iconst (q := 40) C dX11_layRow_39 rfl ?_
      refine z_isub (q := 41) C dX11_layRow_40 rfl ?_
      refine z_iload_n (q := 42) C dX11_layRow_41 3 rfl rfl rfl ?_
      refine z_isub (q := 43) C dX11_layRow_42 rfl ?_
      obtain ⟨v4, ev4, hF⟩ := zb_e hF
      refine z_callS (q := 46) (av := [.int (zi (((h 14 28) - 1) - l3))]) (rest := [.int (zi l1), .int (zi l3), .ref (zα κ 72)]) (stk2 := [.int (zi v4), .int (zi l1), .int (zi l3), .ref (zα κ 72)]) C hR (M_fX11_ten (zlv hd rfl) ev4) mY_X11_ten q_1671 (Nat.le_of_ble_eq_true rfl) dX11_layRow_43 rfl rfl rfl ?_
      obtain ⟨g5, hF⟩ := zif_none hF
      refine z_idiv (q := 47) C g5 dX11_layRow_46 rfl ?_
      refine z_bipush (q := 49) C dX11_layRow_47 bp_10 rfl ?_
      refine z_irem (q := 50) C (by decide) dX11_layRow_49 rfl ?_
      refine z_goto (q := 54) C dX11_layRow_50 (by decide) ?_
      exact z_sub (J_fX11_layRow_c54 C hR hd e1 e2 hK17 _ _ _ _ _ _ hF) [0, 1, 2, 3] rfl
set_option maxRecDepth 20000 in
set_option maxHeartbeats 4000000 in
theorem J_fX11_layRow_c17 {κ : zT} (C : zC κ RX11 cX11_layRow 4 (some .boolean)) {d : Nat} (hR : zR κ = zrm (d + 1)) (hd : 3 ≤ d + 1) {N : Nat} {r : Int × zH} (e1 : zrv κ = some (.int (zi r.1))) (e2 : zhf κ = r.2) : ∀ (k : Nat) (l1 : Int) (l2 : Int) (l3 : Int) (h : zH), fX11_layRow_c17 N k l1 l2 l3 h = some r → Z κ h 17 [(0, .ref (zα κ 14)), (1, .int (zi l1)), (2, .int (zi l2)), (3, .int (zi l3))] [] := by
  intro k
  induction k with
  | zero => intro l1 l2 l3 h hF; cases hF
  | succ k ih => intro l1 l2 l3 h hF; exact J_fX11_layRow_c17b C hR hd e1 e2 ih l1 l2 l3 h hF
set_option maxRecDepth 20000 in
set_option maxHeartbeats 4000000 in
theorem J_fX11_layRow {κ : zT} (C : zC κ RX11 cX11_layRow 4 (some .boolean)) {d : Nat} (hR : zR κ = zrm (d + 1)) (hd : 3 ≤ d + 1) {N : Nat} {r : Int × zH} (e1 : zrv κ = some (.int (zi r.1))) (e2 : zhf κ = r.2) {a1 : Int} {h : zH} (hF : fX11_layRow N a1 h = some r) : Z κ h 0 [(0, .ref (zα κ 14)), (1, .int (zi a1))] [] := by
  unfold fX11_layRow at hF
  refine z_iload_n (q := 1) C dX11_layRow_0 1 rfl rfl rfl ?_
  refine z_iconst (q := 2) C dX11_layRow_1 rfl ?_
  refine z_aload_n (q := 3) C dX11_layRow_2 0 rfl rfl rfl ?_
  refine z_getf (q := 6) C clX11 (zon C zo_14) kd_14 (k := 28) (by decide) q_1130 rfl (zfv_i kd_14 rfl) dX11_layRow_3 rfl ?_
  obtain ⟨v1, ev1, hF⟩ := zb_e hF
  refine z_callS (q := 9) (av := [.int (zi (h 14 28))]) (rest := [.int (zi 0), .int (zi a1)]) (stk2 := [.int (zi v1), .int (zi 0), .int (zi a1)]) C hR (M_fX11_ten (zlv hd rfl) ev1) mY_X11_ten q_1671 (Nat.le_of_ble_eq_true rfl) dX11_layRow_6 rfl rfl rfl ?_
  refine z_iconst (q := 10) C dX11_layRow_9 rfl ?_
  refine z_isub (q := 11) C dX11_layRow_10 rfl ?_
  refine z_callS (q := 14) (av := [.int (zi a1), .int (zi 0), .int (zi (v1 - 1))]) (rest := []) (stk2 := [.int (zi (fX11_in a1 0 (v1 - 1)))]) C hR (M_fX11_in (zlv hd rfl) rfl) mY_X11_in q_1314 (Nat.le_of_ble_eq_true rfl) dX11_layRow_11 rfl rfl rfl ?_
  obtain ⟨v2, ev2, hF⟩ := zlet_e hF
  refine z_istoreE_n (q := 15) C ev2 dX11_layRow_14 (by decide) rfl rfl rfl ?_
  refine z_iconst (q := 16) C dX11_layRow_15 rfl ?_
  refine z_istore_n (q := 17) C dX11_layRow_16 (by decide) rfl rfl rfl ?_
  exact z_sub (J_fX11_layRow_c17 C hR hd e1 e2 N _ _ _ _ hF) [2, 3, 1, 0] rfl
set_option maxRecDepth 20000 in
set_option maxHeartbeats 4000000 in
theorem M_fX11_layRow {l : Launch} {D : va_G} {cy : ClassId} {α : Nat → Nat} {n : Nat} {σ : zSg} {d : Nat} (hd : 3 ≤ d) {N : Nat} {a1 : Int} {h : zH} {r : Int} {g : zH} (hF : fX11_layRow N a1 h = some (r, g)) : zMet l yX11_layRow cX11_layRow 4 (some .boolean) (zrm d) D cy α n σ [.ref (α 14), .int (zi a1)] h (some (.int (zi r))) g := by
  obtain ⟨d, rfl⟩ : ∃ e, d = e + 1 := ⟨d - 1, by omega⟩
  refine z_met (by decide +kernel) (Nat.le_of_ble_eq_true rfl) (fun κ k1 k2 k3 k4 k5 k6 k7 k8 k9 C => ?_)
  subst k1 k3 k4 k5 k6 k7
  exact J_fX11_layRow C k2 hd k8 k9 hF
set_option maxRecDepth 20000 in
set_option maxHeartbeats 4000000 in
theorem J_fX11_chosenHours_c38 {κ : zT} (C : zC κ RX11 cX11_chosenHours 5 (some .int)) {d : Nat} (hR : zR κ = zrm (d + 1)) (hd : 3 ≤ d + 1) {N : Nat} {h : zH} {r : Int} (e1 : zrv κ = some (.int (zi r))) (e2 : zhf κ = h) {K7 : Int → Int → Int → Int → Option Int} (hK7 : ∀ (l1 : Int) (l2 : Int) (l3 : Int) (l4 : Int), K7 l1 l2 l3 l4 = some r → Z κ h 7 [(0, .ref (zα κ 14)), (1, .int (zi l1)), (2, .int (zi l2)), (3, .int (zi l3)), (4, .int (zi l4))] []) (l1 : Int) (l3 : Int) (l4 : Int) (s0 : Int) (s1 : Int) (hF : fX11_chosenHours_c38 N h K7 l1 l3 l4 s0 s1 = some r) : Z κ h 38 [(0, .ref (zα κ 14)), (1, .int (zi l1)), (3, .int (zi l3)), (4, .int (zi l4))] [.int (zi s0), .int (zi s1)] := by
  unfold fX11_chosenHours_c38 at hF
  refine z_iadd (q := 39) C dX11_chosenHours_38 rfl ?_
  refine z_istore_n (q := 40) C dX11_chosenHours_39 (by decide) rfl rfl rfl ?_
  refine z_iload_n (q := 41) C dX11_chosenHours_40 3 rfl rfl rfl ?_
  refine z_aload_n (q := 42) C dX11_chosenHours_41 1 rfl rfl rfl ?_
  refine z_getf (q := 45) C clX11 (zon C zo_14) kd_14 (k := 43) (by decide) q_1145 rfl (zfv_r kd_14 rfl fr_14_43) dX11_chosenHours_42 rfl ?_
  refine z_iload (q := 47) C dX11_chosenHours_45 4 rfl rfl ?_
  obtain ⟨g1, hF⟩ := zif_none hF
  refine z_iald (q := 48) C (zon C zo_72) kd_72 g1.1 (by rw [ln_72]; exact g1.2) dX11_chosenHours_47 rfl ?_
  refine z_aload_n (q := 49) C dX11_chosenHours_48 1 rfl rfl rfl ?_
  refine z_getf (q := 52) C clX11 (zon C zo_14) kd_14 (k := 43) (by decide) q_1145 rfl (zfv_r kd_14 rfl fr_14_43) dX11_chosenHours_49 rfl ?_
  refine z_iload_n (q := 53) C dX11_chosenHours_52 2 rfl rfl rfl ?_
  obtain ⟨g2, hF⟩ := zif_none hF
  refine z_iald (q := 54) C (zon C zo_72) kd_72 g2.1 (by rw [ln_72]; exact g2.2) dX11_chosenHours_53 rfl ?_
  refine z_icmp_ne (tgt := 67) (q := 57) C dX11_chosenHours_54 (by decide) rfl (fun c3 => ?_) (fun c3 => ?_)
  · have hF := (if_neg c3).symm.trans hF
    refine z_iconst (q := 68) C dX11_chosenHours_67 rfl ?_
    refine z_iadd (q := 69) C dX11_chosenHours_68 rfl ?_
    refine z_istore_n (q := 70) C dX11_chosenHours_69 (by decide) rfl rfl rfl ?_
    refine z_iinc (q := 73) (x := l4) C dX11_chosenHours_70 (j := 4) rfl (by decide) rfl rfl ?_
    refine z_goto (q := 7) C dX11_chosenHours_73 (by decide) ?_
    exact z_sub (hK7 _ _ _ _ hF) [3, 4, 2, 1, 0] rfl
  · have hF := (if_pos c3).symm.trans hF
    refine z_iload (q := 59) C dX11_chosenHours_57 4 rfl rfl ?_
    refine z_iload_n (q := 60) C dX11_chosenHours_59 2 rfl rfl rfl ?_
    refine z_icmp_ge (tgt := 67) (q := 63) C dX11_chosenHours_60 (by decide) rfl (fun c4 => ?_) (fun c4 => ?_)
    · have hF := (if_pos c4).symm.trans hF
      refine z_iconst (q := 68) C dX11_chosenHours_67 rfl ?_
      refine z_iadd (q := 69) C dX11_chosenHours_68 rfl ?_
      refine z_istore_n (q := 70) C dX11_chosenHours_69 (by decide) rfl rfl rfl ?_
      refine z_iinc (q := 73) (x := l4) C dX11_chosenHours_70 (j := 4) rfl (by decide) rfl rfl ?_
      refine z_goto (q := 7) C dX11_chosenHours_73 (by decide) ?_
      exact z_sub (hK7 _ _ _ _ hF) [3, 4, 2, 1, 0] rfl
    · have hF := (if_neg c4).symm.trans hF
      refine z_iconst (q := 64) C dX11_chosenHours_63 rfl ?_
      refine z_goto (q := 68) C dX11_chosenHours_64 (by decide) ?_
      refine z_iadd (q := 69) C dX11_chosenHours_68 rfl ?_
      refine z_istore_n (q := 70) C dX11_chosenHours_69 (by decide) rfl rfl rfl ?_
      refine z_iinc (q := 73) (x := l4) C dX11_chosenHours_70 (j := 4) rfl (by decide) rfl rfl ?_
      refine z_goto (q := 7) C dX11_chosenHours_73 (by decide) ?_
      exact z_sub (hK7 _ _ _ _ hF) [3, 4, 2, 1, 0] rfl
set_option maxRecDepth 20000 in
set_option maxHeartbeats 4000000 in
theorem J_fX11_chosenHours_c7b {κ : zT} (C : zC κ RX11 cX11_chosenHours 5 (some .int)) {d : Nat} (hR : zR κ = zrm (d + 1)) (hd : 3 ≤ d + 1) {N : Nat} {h : zH} {r : Int} (e1 : zrv κ = some (.int (zi r))) (e2 : zhf κ = h) {K7 : Int → Int → Int → Int → Option Int} (hK7 : ∀ (l1 : Int) (l2 : Int) (l3 : Int) (l4 : Int), K7 l1 l2 l3 l4 = some r → Z κ h 7 [(0, .ref (zα κ 14)), (1, .int (zi l1)), (2, .int (zi l2)), (3, .int (zi l3)), (4, .int (zi l4))] []) (l1 : Int) (l2 : Int) (l3 : Int) (l4 : Int) (hF : fX11_chosenHours_c7b N h K7 l1 l2 l3 l4 = some r) : Z κ h 7 [(0, .ref (zα κ 14)), (1, .int (zi l1)), (2, .int (zi l2)), (3, .int (zi l3)), (4, .int (zi l4))] [] := by
  unfold fX11_chosenHours_c7b at hF
  refine z_iload (q := 9) C dX11_chosenHours_7 4 rfl rfl ?_
  refine z_aload_n (q := 10) C dX11_chosenHours_9 0 rfl rfl rfl ?_
  refine z_getf (q := 13) C clX11 (zon C zo_14) kd_14 (k := 28) (by decide) q_1130 rfl (zfv_i kd_14 rfl) dX11_chosenHours_10 rfl ?_
  refine z_icmp_ge (tgt := 76) (q := 16) C dX11_chosenHours_13 (by decide) rfl (fun c1 => ?_) (fun c1 => ?_)
  · have hF := (if_pos c1).symm.trans hF
    refine z_aload_n (q := 77) C dX11_chosenHours_76 0 rfl rfl rfl ?_
    refine z_iload_n (q := 78) C dX11_chosenHours_77 1 rfl rfl rfl ?_
    refine z_iload_n (q := 79) C dX11_chosenHours_78 2 rfl rfl rfl ?_
    refine z_iload_n (q := 80) C dX11_chosenHours_79 3 rfl rfl rfl ?_
    obtain ⟨v2, ev2, hF⟩ := zb_e hF
    refine z_callV (q := 83) (o := 14) (av := [.int (zi l1), .int (zi l2), .int (zi l3)]) (rest := []) (stk2 := [.int (zi v2)]) C hR clX11 (zon C zo_14) kd_14 (M_fX11_shareOf (zlv hd rfl) ev2) mY_X11_shareOf q_1538 (Nat.le_of_ble_eq_true rfl) dX11_chosenHours_80 rfl rfl rfl ?_
    have hF := Option.some.inj hF
    subst hF
    exact z_iret C e1 e2 dX11_chosenHours_83
  · have hF := (if_neg c1).symm.trans hF
    refine z_iload_n (q := 17) C dX11_chosenHours_16 2 rfl rfl rfl ?_
    refine z_aload_n (q := 18) C dX11_chosenHours_17 0 rfl rfl rfl ?_
    refine z_getf (q := 21) C clX11 (zon C zo_14) kd_14 (k := 43) (by decide) q_1145 rfl (zfv_r kd_14 rfl fr_14_43) dX11_chosenHours_18 rfl ?_
    refine z_iload (q := 23) C dX11_chosenHours_21 4 rfl rfl ?_
    obtain ⟨g3, hF⟩ := zif_none hF
    refine z_iald (q := 24) C (zon C zo_72) kd_72 g3.1 (by rw [ln_72]; exact g3.2) dX11_chosenHours_23 rfl ?_
    refine z_aload_n (q := 25) C dX11_chosenHours_24 0 rfl rfl rfl ?_
    refine z_getf (q := 28) C clX11 (zon C zo_14) kd_14 (k := 43) (by decide) q_1145 rfl (zfv_r kd_14 rfl fr_14_43) dX11_chosenHours_25 rfl ?_
    refine z_iload_n (q := 29) C dX11_chosenHours_28 1 rfl rfl rfl ?_
    obtain ⟨g4, hF⟩ := zif_none hF
    refine z_iald (q := 30) C (zon C zo_72) kd_72 g4.1 (by rw [ln_72]; exact g4.2) dX11_chosenHours_29 rfl ?_
    refine z_icmp_ne (tgt := 37) (q := 33) C dX11_chosenHours_30 (by decide) rfl (fun c5 => ?_) (fun c5 => ?_)
    · have hF := (if_neg c5).symm.trans hF
      refine z_iconst (q := 38) C dX11_chosenHours_37 rfl ?_
      exact z_sub (J_fX11_chosenHours_c38 C hR hd e1 e2 hK7 _ _ _ _ _ hF) [0, 1, 3, 4] rfl
    · have hF := (if_pos c5).symm.trans hF
      refine z_iconst (q := 34) C dX11_chosenHours_33 rfl ?_
      refine z_goto (q := 38) C dX11_chosenHours_34 (by decide) ?_
      exact z_sub (J_fX11_chosenHours_c38 C hR hd e1 e2 hK7 _ _ _ _ _ hF) [0, 1, 3, 4] rfl
set_option maxRecDepth 20000 in
set_option maxHeartbeats 4000000 in
theorem J_fX11_chosenHours_c7 {κ : zT} (C : zC κ RX11 cX11_chosenHours 5 (some .int)) {d : Nat} (hR : zR κ = zrm (d + 1)) (hd : 3 ≤ d + 1) {N : Nat} {h : zH} {r : Int} (e1 : zrv κ = some (.int (zi r))) (e2 : zhf κ = h) : ∀ (k : Nat) (l1 : Int) (l2 : Int) (l3 : Int) (l4 : Int), fX11_chosenHours_c7 N h k l1 l2 l3 l4 = some r → Z κ h 7 [(0, .ref (zα κ 14)), (1, .int (zi l1)), (2, .int (zi l2)), (3, .int (zi l3)), (4, .int (zi l4))] [] := by
  intro k
  induction k with
  | zero => intro l1 l2 l3 l4 hF; cases hF
  | succ k ih => intro l1 l2 l3 l4 hF; exact J_fX11_chosenHours_c7b C hR hd e1 e2 ih l1 l2 l3 l4 hF
set_option maxRecDepth 20000 in
set_option maxHeartbeats 4000000 in
theorem J_fX11_chosenHours {κ : zT} (C : zC κ RX11 cX11_chosenHours 5 (some .int)) {d : Nat} (hR : zR κ = zrm (d + 1)) (hd : 3 ≤ d + 1) {N : Nat} {h : zH} {r : Int} (e1 : zrv κ = some (.int (zi r))) (e2 : zhf κ = h) {a1 : Int} (hF : fX11_chosenHours N a1 h = some r) : Z κ h 0 [(0, .ref (zα κ 14)), (1, .int (zi a1))] [] := by
  unfold fX11_chosenHours at hF
  refine z_iconst (q := 1) C dX11_chosenHours_0 rfl ?_
  refine z_istore_n (q := 2) C dX11_chosenHours_1 (by decide) rfl rfl rfl ?_
  refine z_iconst (q := 3) C dX11_chosenHours_2 rfl ?_
  refine z_istore_n (q := 4) C dX11_chosenHours_3 (by decide) rfl rfl rfl ?_
  refine z_iconst (q := 5) C dX11_chosenHours_4 rfl ?_
  refine z_istore (q := 7) C dX11_chosenHours_5 (by decide) rfl rfl ?_
  exact z_sub (J_fX11_chosenHours_c7 C hR hd e1 e2 N _ _ _ _ hF) [3, 4, 2, 1, 0] rfl
set_option maxRecDepth 20000 in
set_option maxHeartbeats 4000000 in
theorem M_fX11_chosenHours {l : Launch} {D : va_G} {cy : ClassId} {α : Nat → Nat} {n : Nat} {σ : zSg} {d : Nat} (hd : 3 ≤ d) {N : Nat} {a1 : Int} {h : zH} {r : Int} (hF : fX11_chosenHours N a1 h = some r) : zMet l yX11_chosenHours cX11_chosenHours 5 (some .int) (zrm d) D cy α n σ [.ref (α 14), .int (zi a1)] h (some (.int (zi r))) h := by
  obtain ⟨d, rfl⟩ : ∃ e, d = e + 1 := ⟨d - 1, by omega⟩
  refine z_met (by decide +kernel) (Nat.le_of_ble_eq_true rfl) (fun κ k1 k2 k3 k4 k5 k6 k7 k8 k9 C => ?_)
  subst k1 k3 k4 k5 k6 k7
  exact J_fX11_chosenHours C k2 hd k8 k9 hF
set_option maxRecDepth 20000 in
set_option maxHeartbeats 4000000 in
theorem J_fX11_share {κ : zT} (C : zC κ RX11 cX11_share 3 (some .int)) {d : Nat} (hR : zR κ = zrm (d + 1)) (hd : 4 ≤ d + 1) {N : Nat} {r : Int × zH} (e1 : zrv κ = some (.int (zi r.1))) (e2 : zhf κ = r.2) {a1 : Int} {a2 : Int} {h : zH} (hF : fX11_share N a1 a2 h = some r) : Z κ h 0 [(0, .ref (zα κ 14)), (1, .int (zi a1)), (2, .int (zi a2))] [] := by
  unfold fX11_share at hF
  refine z_aload_n (q := 1) C dX11_share_0 0 rfl rfl rfl ?_
  refine z_iload_n (q := 2) C dX11_share_1 2 rfl rfl rfl ?_
  refine z_callV (q := 5) (o := 14) (av := [.int (zi a2)]) (rest := []) (stk2 := [.int (zi (fX11_isParish a2 h))]) C hR clX11 (zon C zo_14) kd_14 (M_fX11_isParish (zlv hd rfl) rfl) mY_X11_isParish q_1426 (Nat.le_of_ble_eq_true rfl) dX11_share_2 rfl rfl rfl ?_
  refine z_if_eq (tgt := 32) (q := 8) C dX11_share_5 (by decide) rfl (fun c1 => ?_) (fun c1 => ?_)
  · have hF := (if_pos c1).symm.trans hF
    refine z_ldcw (q := 35) C kc_RX11_392 dX11_share_32 rfl ?_
    have hF := Option.some.inj hF
    subst hF
    exact z_iret C e1 e2 dX11_share_35
  · have hF := (if_neg c1).symm.trans hF
    refine z_aload_n (q := 9) C dX11_share_8 0 rfl rfl rfl ?_
    refine z_getf (q := 12) C clX11 (zon C zo_14) kd_14 (k := 28) (by decide) q_1130 rfl (zfv_i kd_14 rfl) dX11_share_9 rfl ?_
    refine z_iconst (q := 13) C dX11_share_12 rfl ?_
    refine z_icmp_gt (tgt := 32) (q := 16) C dX11_share_13 (by decide) rfl (fun c2 => ?_) (fun c2 => ?_)
    · have hF := (if_pos c2).symm.trans hF
      refine z_ldcw (q := 35) C kc_RX11_392 dX11_share_32 rfl ?_
      have hF := Option.some.inj hF
      subst hF
      exact z_iret C e1 e2 dX11_share_35
    · have hF := (if_neg c2).symm.trans hF
      refine z_aload_n (q := 17) C dX11_share_16 0 rfl rfl rfl ?_
      refine z_iload_n (q := 18) C dX11_share_17 1 rfl rfl rfl ?_
      obtain ⟨v4, h3, ev4, hF⟩ := z2_e hF
      refine z_callV (q := 21) (o := 14) (av := [.int (zi a1)]) (rest := []) (stk2 := [.int (zi v4)]) C hR clX11 (zon C zo_14) kd_14 (M_fX11_layRow (zlv hd rfl) ev4) mY_X11_layRow q_1667 (Nat.le_of_ble_eq_true rfl) dX11_share_18 rfl rfl rfl ?_
      refine z_if_eq (tgt := 32) (q := 24) C dX11_share_21 (by decide) rfl (fun c5 => ?_) (fun c5 => ?_)
      · have hF := (if_pos c5).symm.trans hF
        refine z_ldcw (q := 35) C kc_RX11_392 dX11_share_32 rfl ?_
        have hF := Option.some.inj hF
        subst hF
        exact z_iret C e1 e2 dX11_share_35
      · have hF := (if_neg c5).symm.trans hF
        refine z_aload_n (q := 25) C dX11_share_24 0 rfl rfl rfl ?_
        refine z_iload_n (q := 26) C dX11_share_25 2 rfl rfl rfl ?_
        obtain ⟨v6, ev6, hF⟩ := zb_e hF
        refine z_callV (q := 29) (o := 14) (av := [.int (zi a2)]) (rest := []) (stk2 := [.int (zi v6)]) C hR clX11 (zon C zo_14) kd_14 (M_fX11_chosenHours (zlv hd rfl) ev6) mY_X11_chosenHours q_1678 (Nat.le_of_ble_eq_true rfl) dX11_share_26 rfl rfl rfl ?_
        refine z_goto (q := 35) C dX11_share_29 (by decide) ?_
        have hF := Option.some.inj hF
        subst hF
        exact z_iret C e1 e2 dX11_share_35
set_option maxRecDepth 20000 in
set_option maxHeartbeats 4000000 in
theorem M_fX11_share {l : Launch} {D : va_G} {cy : ClassId} {α : Nat → Nat} {n : Nat} {σ : zSg} {d : Nat} (hd : 4 ≤ d) {N : Nat} {a1 : Int} {a2 : Int} {h : zH} {r : Int} {g : zH} (hF : fX11_share N a1 a2 h = some (r, g)) : zMet l yX11_share cX11_share 3 (some .int) (zrm d) D cy α n σ [.ref (α 14), .int (zi a1), .int (zi a2)] h (some (.int (zi r))) g := by
  obtain ⟨d, rfl⟩ : ∃ e, d = e + 1 := ⟨d - 1, by omega⟩
  refine z_met (by decide +kernel) (Nat.le_of_ble_eq_true rfl) (fun κ k1 k2 k3 k4 k5 k6 k7 k8 k9 C => ?_)
  subst k1 k3 k4 k5 k6 k7
  exact J_fX11_share C k2 hd k8 k9 hF
set_option maxRecDepth 20000 in
set_option maxHeartbeats 4000000 in
theorem J_fX11_isRest_c29b {κ : zT} (C : zC κ RX11 cX11_isRest 6 (some .boolean)) {d : Nat} (hR : zR κ = zrm (d + 1)) (hd : 4 ≤ d + 1) {N : Nat} {r : Int × zH} (e1 : zrv κ = some (.int (zi r.1))) (e2 : zhf κ = r.2) {K2 : Int → zH → Option (Int × zH)} (hK2 : ∀ (l1 : Int) (h : zH), K2 l1 h = some r → Z κ h 2 [(0, .ref (zα κ 14)), (1, .int (zi l1))] []) {K29 : Int → Int → Int → Int → Int → zH → Option (Int × zH)} (hK29 : ∀ (l1 : Int) (l2 : Int) (l3 : Int) (l4 : Int) (l5 : Int) (h : zH), K29 l1 l2 l3 l4 l5 h = some r → Z κ h 29 [(0, .ref (zα κ 14)), (1, .int (zi l1)), (2, .int (zi l2)), (3, .int (zi l3)), (4, .int (zi l4)), (5, .int (zi l5))] []) (l1 : Int) (l2 : Int) (l3 : Int) (l4 : Int) (l5 : Int) (h : zH) (hF : fX11_isRest_c29b N K2 K29 l1 l2 l3 l4 l5 h = some r) : Z κ h 29 [(0, .ref (zα κ 14)), (1, .int (zi l1)), (2, .int (zi l2)), (3, .int (zi l3)), (4, .int (zi l4)), (5, .int (zi l5))] [] := by
  unfold fX11_isRest_c29b at hF
  refine z_iload (q := 31) C dX11_isRest_29 5 rfl rfl ?_
  refine z_aload_n (q := 32) C dX11_isRest_31 0 rfl rfl rfl ?_
  refine z_getf (q := 35) C clX11 (zon C zo_14) kd_14 (k := 30) (by decide) q_1132 rfl (zfv_i kd_14 rfl) dX11_isRest_32 rfl ?_
  refine z_icmp_ge (tgt := 82) (q := 38) C dX11_isRest_35 (by decide) rfl (fun c1 => ?_) (fun c1 => ?_)
  · have hF := (if_pos c1).symm.trans hF
    refine z_aload_n (q := 83) C dX11_isRest_82 0 rfl rfl rfl ?_
    refine z_getf (q := 86) C clX11 (zon C zo_14) kd_14 (k := 43) (by decide) q_1145 rfl (zfv_r kd_14 rfl fr_14_43) dX11_isRest_83 rfl ?_
    refine z_iload_n (q := 87) C dX11_isRest_86 1 rfl rfl rfl ?_
    refine z_iload_n (q := 88) C dX11_isRest_87 3 rfl rfl rfl ?_
    obtain ⟨g2, hF⟩ := zif_none hF
    obtain ⟨h3, eh3, hF⟩ := zlet_e hF
    refine z_iast (q := 89) C (zon C zo_72) kd_72 g2.1 (by rw [ln_72]; exact g2.2) dX11_isRest_88 rfl eh3 ?_
    refine z_iload (q := 91) C dX11_isRest_89 4 rfl rfl ?_
    refine z_if_ne (tgt := 96) (q := 94) C dX11_isRest_91 (by decide) rfl (fun c4 => ?_) (fun c4 => ?_)
    · have hF := (if_neg c4).symm.trans hF
      refine z_iinc (q := 99) (x := l1) C dX11_isRest_96 (j := 1) rfl (by decide) rfl rfl ?_
      refine z_goto (q := 2) C dX11_isRest_99 (by decide) ?_
      exact z_sub (hK2 _ _ hF) [1, 0] rfl
    · have hF := (if_pos c4).symm.trans hF
      refine z_iconst (q := 95) C dX11_isRest_94 rfl ?_
      have hF := Option.some.inj hF
      subst hF
      exact z_zret C (zb01 (Or.inl rfl)) e1 e2 dX11_isRest_95
  · have hF := (if_neg c1).symm.trans hF
    refine z_aload_n (q := 39) C dX11_isRest_38 0 rfl rfl rfl ?_
    refine z_iload (q := 41) C dX11_isRest_39 5 rfl rfl ?_
    obtain ⟨v5, ev5, hF⟩ := zb_e hF
    refine z_callV (q := 44) (o := 14) (av := [.int (zi l5)]) (rest := []) (stk2 := [.int (zi v5)]) C hR clX11 (zon C zo_14) kd_14 (M_fX11_isForm (zlv hd rfl) ev5) mY_X11_isForm q_1674 (Nat.le_of_ble_eq_true rfl) dX11_isRest_41 rfl rfl rfl ?_
    refine z_if_eq (tgt := 76) (q := 47) C dX11_isRest_44 (by decide) rfl (fun c6 => ?_) (fun c6 => ?_)
    · have hF := (if_pos c6).symm.trans hF
      refine z_iinc (q := 79) (x := l5) C dX11_isRest_76 (j := 5) rfl (by decide) rfl rfl ?_
      refine z_goto (q := 29) C dX11_isRest_79 (by decide) ?_
      exact z_sub (hK29 _ _ _ _ _ _ hF) [1, 2, 3, 4, 5, 0] rfl
    · have hF := (if_neg c6).symm.trans hF
      refine z_aload_n (q := 48) C dX11_isRest_47 0 rfl rfl rfl ?_
      refine z_getf (q := 51) C clX11 (zon C zo_14) kd_14 (k := 43) (by decide) q_1145 rfl (zfv_r kd_14 rfl fr_14_43) dX11_isRest_48 rfl ?_
      refine z_iload_n (q := 52) C dX11_isRest_51 1 rfl rfl rfl ?_
      refine z_iload (q := 54) C dX11_isRest_52 5 rfl rfl ?_
      obtain ⟨g7, hF⟩ := zif_none hF
      obtain ⟨h8, eh8, hF⟩ := zlet_e hF
      refine z_iast (q := 55) C (zon C zo_72) kd_72 g7.1 (by rw [ln_72]; exact g7.2) dX11_isRest_54 rfl eh8 ?_
      refine z_iload (q := 57) C dX11_isRest_55 4 rfl rfl ?_
      refine z_if_eq (tgt := 73) (q := 60) C dX11_isRest_57 (by decide) rfl (fun c9 => ?_) (fun c9 => ?_)
      · have hF := (if_pos c9).symm.trans hF
        refine z_iconst (q := 74) C dX11_isRest_73 rfl ?_
        refine z_istore (q := 76) C dX11_isRest_74 (by decide) rfl rfl ?_
        refine z_iinc (q := 79) (x := l5) C dX11_isRest_76 (j := 5) rfl (by decide) rfl rfl ?_
        refine z_goto (q := 29) C dX11_isRest_79 (by decide) ?_
        exact z_sub (hK29 _ _ _ _ _ _ hF) [2, 3, 4, 5, 1, 0] rfl
      · have hF := (if_neg c9).symm.trans hF
        refine z_aload_n (q := 61) C dX11_isRest_60 0 rfl rfl rfl ?_
        refine z_iload_n (q := 62) C dX11_isRest_61 1 rfl rfl rfl ?_
        obtain ⟨v10, ev10, hF⟩ := zb_e hF
        refine z_callV (q := 65) (o := 14) (av := [.int (zi l1)]) (rest := []) (stk2 := [.int (zi v10)]) C hR clX11 (zon C zo_14) kd_14 (M_fX11_chosenHours (zlv hd rfl) ev10) mY_X11_chosenHours q_1678 (Nat.le_of_ble_eq_true rfl) dX11_isRest_62 rfl rfl rfl ?_
        refine z_iload_n (q := 66) C dX11_isRest_65 2 rfl rfl rfl ?_
        refine z_icmp_gt (tgt := 73) (q := 69) C dX11_isRest_66 (by decide) rfl (fun c11 => ?_) (fun c11 => ?_)
        · have hF := (if_pos c11).symm.trans hF
          refine z_iconst (q := 74) C dX11_isRest_73 rfl ?_
          refine z_istore (q := 76) C dX11_isRest_74 (by decide) rfl rfl ?_
          refine z_iinc (q := 79) (x := l5) C dX11_isRest_76 (j := 5) rfl (by decide) rfl rfl ?_
          refine z_goto (q := 29) C dX11_isRest_79 (by decide) ?_
          exact z_sub (hK29 _ _ _ _ _ _ hF) [2, 3, 4, 5, 1, 0] rfl
        · have hF := (if_neg c11).symm.trans hF
          refine z_iconst (q := 70) C dX11_isRest_69 rfl ?_
          refine z_goto (q := 74) C dX11_isRest_70 (by decide) ?_
          refine z_istore (q := 76) C dX11_isRest_74 (by decide) rfl rfl ?_
          refine z_iinc (q := 79) (x := l5) C dX11_isRest_76 (j := 5) rfl (by decide) rfl rfl ?_
          refine z_goto (q := 29) C dX11_isRest_79 (by decide) ?_
          exact z_sub (hK29 _ _ _ _ _ _ hF) [2, 3, 4, 5, 1, 0] rfl
set_option maxRecDepth 20000 in
set_option maxHeartbeats 4000000 in
theorem J_fX11_isRest_c29 {κ : zT} (C : zC κ RX11 cX11_isRest 6 (some .boolean)) {d : Nat} (hR : zR κ = zrm (d + 1)) (hd : 4 ≤ d + 1) {N : Nat} {r : Int × zH} (e1 : zrv κ = some (.int (zi r.1))) (e2 : zhf κ = r.2) {K2 : Int → zH → Option (Int × zH)} (hK2 : ∀ (l1 : Int) (h : zH), K2 l1 h = some r → Z κ h 2 [(0, .ref (zα κ 14)), (1, .int (zi l1))] []) : ∀ (k : Nat) (l1 : Int) (l2 : Int) (l3 : Int) (l4 : Int) (l5 : Int) (h : zH), fX11_isRest_c29 N K2 k l1 l2 l3 l4 l5 h = some r → Z κ h 29 [(0, .ref (zα κ 14)), (1, .int (zi l1)), (2, .int (zi l2)), (3, .int (zi l3)), (4, .int (zi l4)), (5, .int (zi l5))] [] := by
  intro k
  induction k with
  | zero => intro l1 l2 l3 l4 l5 h hF; cases hF
  | succ k ih => intro l1 l2 l3 l4 l5 h hF; exact J_fX11_isRest_c29b C hR hd e1 e2 hK2 ih l1 l2 l3 l4 l5 h hF
set_option maxRecDepth 20000 in
set_option maxHeartbeats 4000000 in
theorem J_fX11_isRest_c2b {κ : zT} (C : zC κ RX11 cX11_isRest 6 (some .boolean)) {d : Nat} (hR : zR κ = zrm (d + 1)) (hd : 4 ≤ d + 1) {N : Nat} {r : Int × zH} (e1 : zrv κ = some (.int (zi r.1))) (e2 : zhf κ = r.2) {K2 : Int → zH → Option (Int × zH)} (hK2 : ∀ (l1 : Int) (h : zH), K2 l1 h = some r → Z κ h 2 [(0, .ref (zα κ 14)), (1, .int (zi l1))] []) (l1 : Int) (h : zH) (hF : fX11_isRest_c2b N K2 l1 h = some r) : Z κ h 2 [(0, .ref (zα κ 14)), (1, .int (zi l1))] [] := by
  unfold fX11_isRest_c2b at hF
  refine z_iload_n (q := 3) C dX11_isRest_2 1 rfl rfl rfl ?_
  refine z_aload_n (q := 4) C dX11_isRest_3 0 rfl rfl rfl ?_
  refine z_getf (q := 7) C clX11 (zon C zo_14) kd_14 (k := 28) (by decide) q_1130 rfl (zfv_i kd_14 rfl) dX11_isRest_4 rfl ?_
  refine z_icmp_ge (tgt := 102) (q := 10) C dX11_isRest_7 (by decide) rfl (fun c1 => ?_) (fun c1 => ?_)
  · have hF := (if_pos c1).symm.trans hF
    refine z_iconst (q := 103) C dX11_isRest_102 rfl ?_
    have hF := Option.some.inj hF
    subst hF
    exact z_zret C (zb01 (Or.inr rfl)) e1 e2 dX11_isRest_103
  · have hF := (if_neg c1).symm.trans hF
    refine z_aload_n (q := 11) C dX11_isRest_10 0 rfl rfl rfl ?_
    refine z_iload_n (q := 12) C dX11_isRest_11 1 rfl rfl rfl ?_
    obtain ⟨v2, ev2, hF⟩ := zb_e hF
    refine z_callV (q := 15) (o := 14) (av := [.int (zi l1)]) (rest := []) (stk2 := [.int (zi v2)]) C hR clX11 (zon C zo_14) kd_14 (M_fX11_chosenHours (zlv hd rfl) ev2) mY_X11_chosenHours q_1678 (Nat.le_of_ble_eq_true rfl) dX11_isRest_12 rfl rfl rfl ?_
    refine z_istore_n (q := 16) C dX11_isRest_15 (by decide) rfl rfl rfl ?_
    refine z_aload_n (q := 17) C dX11_isRest_16 1 rfl rfl rfl ?_
    refine z_getf (q := 20) C clX11 (zon C zo_14) kd_14 (k := 43) (by decide) q_1145 rfl (zfv_r kd_14 rfl fr_14_43) dX11_isRest_17 rfl ?_
    refine z_iload_n (q := 21) C dX11_isRest_20 2 rfl rfl rfl ?_
    obtain ⟨g3, hF⟩ := zif_none hF
    refine z_iald (q := 22) C (zon C zo_72) kd_72 g3.1 (by rw [ln_72]; exact g3.2) dX11_isRest_21 rfl ?_
    obtain ⟨v4, ev4, hF⟩ := zlet_e hF
    refine z_istoreE_n (q := 23) C ev4 dX11_isRest_22 (by decide) rfl rfl rfl ?_
    refine z_iconst (q := 24) C dX11_isRest_23 rfl ?_
    refine z_istore (q := 26) C dX11_isRest_24 (by decide) rfl rfl ?_
    refine z_iconst (q := 27) C dX11_isRest_26 rfl ?_
    refine z_istore (q := 29) C dX11_isRest_27 (by decide) rfl rfl ?_
    exact z_sub (J_fX11_isRest_c29 C hR hd e1 e2 hK2 N _ _ _ _ _ _ hF) [4, 5, 3, 2, 1, 0] rfl
set_option maxRecDepth 20000 in
set_option maxHeartbeats 4000000 in
theorem J_fX11_isRest_c2 {κ : zT} (C : zC κ RX11 cX11_isRest 6 (some .boolean)) {d : Nat} (hR : zR κ = zrm (d + 1)) (hd : 4 ≤ d + 1) {N : Nat} {r : Int × zH} (e1 : zrv κ = some (.int (zi r.1))) (e2 : zhf κ = r.2) : ∀ (k : Nat) (l1 : Int) (h : zH), fX11_isRest_c2 N k l1 h = some r → Z κ h 2 [(0, .ref (zα κ 14)), (1, .int (zi l1))] [] := by
  intro k
  induction k with
  | zero => intro l1 h hF; cases hF
  | succ k ih => intro l1 h hF; exact J_fX11_isRest_c2b C hR hd e1 e2 ih l1 h hF
set_option maxRecDepth 20000 in
set_option maxHeartbeats 4000000 in
theorem J_fX11_isRest {κ : zT} (C : zC κ RX11 cX11_isRest 6 (some .boolean)) {d : Nat} (hR : zR κ = zrm (d + 1)) (hd : 4 ≤ d + 1) {N : Nat} {r : Int × zH} (e1 : zrv κ = some (.int (zi r.1))) (e2 : zhf κ = r.2) {h : zH} (hF : fX11_isRest N h = some r) : Z κ h 0 [(0, .ref (zα κ 14))] [] := by
  unfold fX11_isRest at hF
  refine z_iconst (q := 1) C dX11_isRest_0 rfl ?_
  refine z_istore_n (q := 2) C dX11_isRest_1 (by decide) rfl rfl rfl ?_
  exact z_sub (J_fX11_isRest_c2 C hR hd e1 e2 N _ _ hF) [1, 0] rfl
set_option maxRecDepth 20000 in
set_option maxHeartbeats 4000000 in
theorem M_fX11_isRest {l : Launch} {D : va_G} {cy : ClassId} {α : Nat → Nat} {n : Nat} {σ : zSg} {d : Nat} (hd : 4 ≤ d) {N : Nat} {h : zH} {r : Int} {g : zH} (hF : fX11_isRest N h = some (r, g)) : zMet l yX11_isRest cX11_isRest 6 (some .boolean) (zrm d) D cy α n σ [.ref (α 14)] h (some (.int (zi r))) g := by
  obtain ⟨d, rfl⟩ : ∃ e, d = e + 1 := ⟨d - 1, by omega⟩
  refine z_met (by decide +kernel) (Nat.le_of_ble_eq_true rfl) (fun κ k1 k2 k3 k4 k5 k6 k7 k8 k9 C => ?_)
  subst k1 k3 k4 k5 k6 k7
  exact J_fX11_isRest C k2 hd k8 k9 hF
set_option maxRecDepth 20000 in
set_option maxHeartbeats 4000000 in
theorem J_fX11_rests_c30b {κ : zT} (C : zC κ RX11 cX11_rests 4 (some .int)) {d : Nat} (hR : zR κ = zrm (d + 1)) (hd : 5 ≤ d + 1) {N : Nat} {r : Int × zH} (e1 : zrv κ = some (.int (zi r.1))) (e2 : zhf κ = r.2) {K30 : Int → Int → Int → zH → Option (Int × zH)} (hK30 : ∀ (l1 : Int) (l2 : Int) (l3 : Int) (h : zH), K30 l1 l2 l3 h = some r → Z κ h 30 [(0, .ref (zα κ 14)), (1, .int (zi l1)), (2, .int (zi l2)), (3, .int (zi l3))] []) (l1 : Int) (l2 : Int) (l3 : Int) (h : zH) (hF : fX11_rests_c30b N K30 l1 l2 l3 h = some r) : Z κ h 30 [(0, .ref (zα κ 14)), (1, .int (zi l1)), (2, .int (zi l2)), (3, .int (zi l3))] [] := by
  unfold fX11_rests_c30b at hF
  refine z_iload_n (q := 31) C dX11_rests_30 3 rfl rfl rfl ?_
  refine z_aload_n (q := 32) C dX11_rests_31 0 rfl rfl rfl ?_
  refine z_getf (q := 35) C clX11 (zon C zo_14) kd_14 (k := 28) (by decide) q_1130 rfl (zfv_i kd_14 rfl) dX11_rests_32 rfl ?_
  obtain ⟨v1, ev1, hF⟩ := zb_e hF
  refine z_callS (q := 38) (av := [.int (zi (h 14 28))]) (rest := [.int (zi l3)]) (stk2 := [.int (zi v1), .int (zi l3)]) C hR (M_fX11_ten (zlv hd rfl) ev1) mY_X11_ten q_1671 (Nat.le_of_ble_eq_true rfl) dX11_rests_35 rfl rfl rfl ?_
  refine z_icmp_ge (tgt := 72) (q := 41) C dX11_rests_38 (by decide) rfl (fun c2 => ?_) (fun c2 => ?_)
  · have hF := (if_pos c2).symm.trans hF
    refine z_iload_n (q := 73) C dX11_rests_72 1 rfl rfl rfl ?_
    refine z_iconst (q := 74) C dX11_rests_73 rfl ?_
    refine z_icmp_ne (tgt := 81) (q := 77) C dX11_rests_74 (by decide) rfl (fun c3 => ?_) (fun c3 => ?_)
    · have hF := (if_neg c3).symm.trans hF
      refine z_iconst (q := 82) C dX11_rests_81 rfl ?_
      have hF := Option.some.inj hF
      subst hF
      exact z_iret C e1 e2 dX11_rests_82
    · have hF := (if_pos c3).symm.trans hF
      refine z_iload_n (q := 78) C dX11_rests_77 2 rfl rfl rfl ?_
      refine z_goto (q := 82) C dX11_rests_78 (by decide) ?_
      have hF := Option.some.inj hF
      subst hF
      exact z_iret C e1 e2 dX11_rests_82
  · have hF := (if_neg c2).symm.trans hF
    refine z_aload_n (q := 42) C dX11_rests_41 0 rfl rfl rfl ?_
    refine z_iload_n (q := 43) C dX11_rests_42 3 rfl rfl rfl ?_
    obtain ⟨v5, h4, ev5, hF⟩ := z2_e hF
    refine z_callV (q := 46) (o := 14) (av := [.int (zi l3)]) (rest := []) (stk2 := [.int (zi v5)]) C hR clX11 (zon C zo_14) kd_14 (M_fX11_layRow (zlv hd rfl) ev5) mY_X11_layRow q_1667 (Nat.le_of_ble_eq_true rfl) dX11_rests_43 rfl rfl rfl ?_
    refine z_if_eq (tgt := 66) (q := 49) C dX11_rests_46 (by decide) rfl (fun c6 => ?_) (fun c6 => ?_)
    · have hF := (if_pos c6).symm.trans hF
      refine z_iinc (q := 69) (x := l3) C dX11_rests_66 (j := 3) rfl (by decide) rfl rfl ?_
      refine z_goto (q := 30) C dX11_rests_69 (by decide) ?_
      exact z_sub (hK30 _ _ _ _ hF) [1, 2, 3, 0] rfl
    · have hF := (if_neg c6).symm.trans hF
      refine z_aload_n (q := 50) C dX11_rests_49 0 rfl rfl rfl ?_
      obtain ⟨v8, h7, ev8, hF⟩ := z2_e hF
      refine z_callV (q := 53) (o := 14) (av := []) (rest := []) (stk2 := [.int (zi v8)]) C hR clX11 (zon C zo_14) kd_14 (M_fX11_isRest (zlv hd rfl) ev8) mY_X11_isRest q_1686 (Nat.le_of_ble_eq_true rfl) dX11_rests_50 rfl rfl rfl ?_
      refine z_if_eq (tgt := 66) (q := 56) C dX11_rests_53 (by decide) rfl (fun c9 => ?_) (fun c9 => ?_)
      · have hF := (if_pos c9).symm.trans hF
        refine z_iinc (q := 69) (x := l3) C dX11_rests_66 (j := 3) rfl (by decide) rfl rfl ?_
        refine z_goto (q := 30) C dX11_rests_69 (by decide) ?_
        exact z_sub (hK30 _ _ _ _ hF) [1, 2, 3, 0] rfl
      · have hF := (if_neg c9).symm.trans hF
        refine z_iload_n (q := 57) C dX11_rests_56 2 rfl rfl rfl ?_
        refine z_iload_n (q := 58) C dX11_rests_57 1 rfl rfl rfl ?_
        refine z_icmp_ne (tgt := 63) (q := 61) C dX11_rests_58 (by decide) rfl (fun c10 => ?_) (fun c10 => ?_)
        · have hF := (if_neg c10).symm.trans hF
          refine z_iinc (q := 66) (x := l2) C dX11_rests_63 (j := 2) rfl (by decide) rfl rfl ?_
          refine z_iinc (q := 69) (x := l3) C dX11_rests_66 (j := 3) rfl (by decide) rfl rfl ?_
          refine z_goto (q := 30) C dX11_rests_69 (by decide) ?_
          exact z_sub (hK30 _ _ _ _ hF) [2, 3, 1, 0] rfl
        · have hF := (if_pos c10).symm.trans hF
          refine z_iload_n (q := 62) C dX11_rests_61 3 rfl rfl rfl ?_
          have hF := Option.some.inj hF
          subst hF
          exact z_iret C e1 e2 dX11_rests_62
set_option maxRecDepth 20000 in
set_option maxHeartbeats 4000000 in
theorem J_fX11_rests_c30 {κ : zT} (C : zC κ RX11 cX11_rests 4 (some .int)) {d : Nat} (hR : zR κ = zrm (d + 1)) (hd : 5 ≤ d + 1) {N : Nat} {r : Int × zH} (e1 : zrv κ = some (.int (zi r.1))) (e2 : zhf κ = r.2) : ∀ (k : Nat) (l1 : Int) (l2 : Int) (l3 : Int) (h : zH), fX11_rests_c30 N k l1 l2 l3 h = some r → Z κ h 30 [(0, .ref (zα κ 14)), (1, .int (zi l1)), (2, .int (zi l2)), (3, .int (zi l3))] [] := by
  intro k
  induction k with
  | zero => intro l1 l2 l3 h hF; cases hF
  | succ k ih => intro l1 l2 l3 h hF; exact J_fX11_rests_c30b C hR hd e1 e2 ih l1 l2 l3 h hF
set_option maxRecDepth 20000 in
set_option maxHeartbeats 4000000 in
theorem J_fX11_rests {κ : zT} (C : zC κ RX11 cX11_rests 4 (some .int)) {d : Nat} (hR : zR κ = zrm (d + 1)) (hd : 5 ≤ d + 1) {N : Nat} {r : Int × zH} (e1 : zrv κ = some (.int (zi r.1))) (e2 : zhf κ = r.2) {a1 : Int} {h : zH} (hF : fX11_rests N a1 h = some r) : Z κ h 0 [(0, .ref (zα κ 14)), (1, .int (zi a1))] [] := by
  unfold fX11_rests at hF
  refine z_aload_n (q := 1) C dX11_rests_0 0 rfl rfl rfl ?_
  refine z_getf (q := 4) C clX11 (zon C zo_14) kd_14 (k := 28) (by decide) q_1130 rfl (zfv_i kd_14 rfl) dX11_rests_1 rfl ?_
  refine z_iconst (q := 5) C dX11_rests_4 rfl ?_
  refine z_icmp_le (tgt := 12) (q := 8) C dX11_rests_5 (by decide) rfl (fun c1 => ?_) (fun c1 => ?_)
  · have hF := (if_pos c1).symm.trans hF
    refine z_aload_n (q := 13) C dX11_rests_12 0 rfl rfl rfl ?_
    refine z_getf (q := 16) C clX11 (zon C zo_14) kd_14 (k := 28) (by decide) q_1130 rfl (zfv_i kd_14 rfl) dX11_rests_13 rfl ?_
    refine z_if_eq (tgt := 24) (q := 19) C dX11_rests_16 (by decide) rfl (fun c2 => ?_) (fun c2 => ?_)
    · have hF := (if_pos c2).symm.trans hF
      refine z_iconst (q := 25) C dX11_rests_24 rfl ?_
      have hF := Option.some.inj hF
      subst hF
      exact z_iret C e1 e2 dX11_rests_25
    · have hF := (if_neg c2).symm.trans hF
      refine z_iload_n (q := 20) C dX11_rests_19 1 rfl rfl rfl ?_
      refine z_iconst (q := 21) C dX11_rests_20 rfl ?_
      refine z_icmp_ge (tgt := 26) (q := 24) C dX11_rests_21 (by decide) rfl (fun c3 => ?_) (fun c3 => ?_)
      · have hF := (if_pos c3).symm.trans hF
        refine z_iconst (q := 27) C dX11_rests_26 rfl ?_
        refine z_istore_n (q := 28) C dX11_rests_27 (by decide) rfl rfl rfl ?_
        refine z_iconst (q := 29) C dX11_rests_28 rfl ?_
        refine z_istore_n (q := 30) C dX11_rests_29 (by decide) rfl rfl rfl ?_
        exact z_sub (J_fX11_rests_c30 C hR hd e1 e2 N _ _ _ _ hF) [2, 3, 1, 0] rfl
      · have hF := (if_neg c3).symm.trans hF
        refine z_iconst (q := 25) C dX11_rests_24 rfl ?_
        have hF := Option.some.inj hF
        subst hF
        exact z_iret C e1 e2 dX11_rests_25
  · have hF := (if_neg c1).symm.trans hF
    refine z_ldcw (q := 11) C kc_RX11_392 dX11_rests_8 rfl ?_
    have hF := Option.some.inj hF
    subst hF
    exact z_iret C e1 e2 dX11_rests_11
set_option maxRecDepth 20000 in
set_option maxHeartbeats 4000000 in
theorem M_fX11_rests {l : Launch} {D : va_G} {cy : ClassId} {α : Nat → Nat} {n : Nat} {σ : zSg} {d : Nat} (hd : 5 ≤ d) {N : Nat} {a1 : Int} {h : zH} {r : Int} {g : zH} (hF : fX11_rests N a1 h = some (r, g)) : zMet l yX11_rests cX11_rests 4 (some .int) (zrm d) D cy α n σ [.ref (α 14), .int (zi a1)] h (some (.int (zi r))) g := by
  obtain ⟨d, rfl⟩ : ∃ e, d = e + 1 := ⟨d - 1, by omega⟩
  refine z_met (by decide +kernel) (Nat.le_of_ble_eq_true rfl) (fun κ k1 k2 k3 k4 k5 k6 k7 k8 k9 C => ?_)
  subst k1 k3 k4 k5 k6 k7
  exact J_fX11_rests C k2 hd k8 k9 hF
set_option maxRecDepth 20000 in
set_option maxHeartbeats 4000000 in
theorem J_fX11_divisor_b {κ : zT} (C : zC κ RX11 cX11_divisor 2 (some .int)) {d : Nat} (hR : zR κ = zrm (d + 1)) (hd : 1 ≤ d + 1) {R_fX11_divisor : Int → Int → Option Int} (hM_fX11_divisor : ∀ {a0 : Int} {a1 : Int} {h : zH} {r : Int} (hF : R_fX11_divisor a0 a1 = some r), zMet (zla κ) yX11_divisor cX11_divisor 2 (some .int) (zrm d) (zD κ) (zcy κ) (zα κ) (zn κ) (zσ κ) [.int (zi a0), .int (zi a1)] h (some (.int (zi r))) h) {h : zH} {r : Int} (e1 : zrv κ = some (.int (zi r))) (e2 : zhf κ = h) {a0 : Int} {a1 : Int} (hF : fX11_divisor_b R_fX11_divisor a0 a1 = some r) : Z κ h 0 [(0, .int (zi a0)), (1, .int (zi a1))] [] := by
  unfold fX11_divisor_b at hF
  refine z_iload_n (q := 1) C dX11_divisor_0 1 rfl rfl rfl ?_
  refine z_if_ne (tgt := 8) (q := 4) C dX11_divisor_1 (by decide) rfl (fun c1 => ?_) (fun c1 => ?_)
  · have hF := (if_neg c1).symm.trans hF
    refine z_iload_n (q := 9) C dX11_divisor_8 1 rfl rfl rfl ?_
    refine z_iload_n (q := 10) C dX11_divisor_9 0 rfl rfl rfl ?_
    refine z_iload_n (q := 11) C dX11_divisor_10 1 rfl rfl rfl ?_
    obtain ⟨g2, hF⟩ := zif_none hF
    refine z_irem (q := 12) C g2 dX11_divisor_11 rfl ?_
    obtain ⟨v3, ev3, hF⟩ := zb_e hF
    refine z_callS (q := 15) (av := [.int (zi a1), .int (zi (zrem a0 a1))]) (rest := []) (stk2 := [.int (zi v3)]) C hR (hM_fX11_divisor ev3) mY_X11_divisor q_1694 (Nat.le_of_ble_eq_true rfl) dX11_divisor_12 rfl rfl rfl ?_
    have hF := Option.some.inj hF
    subst hF
    exact z_iret C e1 e2 dX11_divisor_15
  · have hF := (if_pos c1).symm.trans hF
    refine z_iload_n (q := 5) C dX11_divisor_4 0 rfl rfl rfl ?_
    refine z_goto (q := 15) C dX11_divisor_5 (by decide) ?_
    have hF := Option.some.inj hF
    subst hF
    exact z_iret C e1 e2 dX11_divisor_15
set_option maxRecDepth 20000 in
set_option maxHeartbeats 4000000 in
theorem MG_fX11_divisor : ∀ (k : Nat) {l : Launch} {D : va_G} {cy : ClassId} {α : Nat → Nat} {n : Nat} {σ : zSg} {d : Nat} (hd : 0 + k ≤ d), (∀ {a0 : Int} {a1 : Int} {h : zH} {r : Int} (hF : ((fG_X11_divisor k)) a0 a1 = some r), zMet l yX11_divisor cX11_divisor 2 (some .int) (zrm d) D cy α n σ [.int (zi a0), .int (zi a1)] h (some (.int (zi r))) h) := by
  intro k
  induction k with
  | zero => intro l D cy α n σ d hd; exact (by intros; rename_i hF; cases hF)
  | succ k ih =>
    intro l D cy α n σ d hd
    obtain ⟨d, rfl⟩ : ∃ e, d = e + 1 := ⟨d - 1, by omega⟩
    · intro a0 a1 h r hF
      refine z_met (by decide +kernel) (Nat.le_of_ble_eq_true rfl) (fun κ k1 k2 k3 k4 k5 k6 k7 k8 k9 C => ?_)
      subst k1 k3 k4 k5 k6 k7
      exact J_fX11_divisor_b C k2 (by omega) ((ih (by omega : 0 + k ≤ d))) k8 k9 hF
set_option maxRecDepth 20000 in
set_option maxHeartbeats 4000000 in
theorem M_fX11_divisor {l : Launch} {D : va_G} {cy : ClassId} {α : Nat → Nat} {n : Nat} {σ : zSg} {d : Nat} (hd : 60 ≤ d) {a0 : Int} {a1 : Int} {h : zH} {r : Int} (hF : fX11_divisor a0 a1 = some r) : zMet l yX11_divisor cX11_divisor 2 (some .int) (zrm d) D cy α n σ [.int (zi a0), .int (zi a1)] h (some (.int (zi r))) h :=
  (MG_fX11_divisor 60 (by omega : 0 + 60 ≤ d)) hF
set_option maxRecDepth 20000 in
set_option maxHeartbeats 4000000 in
theorem J_fX11_bribes_c80 {κ : zT} (C : zC κ RX11 cX11_bribes 6 (some .int)) {d : Nat} (hR : zR κ = zrm (d + 1)) (hd : 61 ≤ d + 1) {h : zH} {r : Int} (e1 : zrv κ = some (.int (zi r))) (e2 : zhf κ = h) (l1 : Int) (l2 : Int) (l3 : Int) (l4 : Int) (s0 : Int) (hF : fX11_bribes_c80 l1 l2 l3 l4 s0 = some r) : Z κ h 80 [(1, .int (zi l1)), (2, .int (zi l2)), (3, .int (zi l3)), (4, .int (zi l4))] [.int (zi s0)] := by
  unfold fX11_bribes_c80 at hF
  refine z_istore (q := 82) C dX11_bribes_80 (by decide) rfl rfl ?_
  refine z_iload (q := 84) C dX11_bribes_82 4 rfl rfl ?_
  refine z_if_ne (tgt := 94) (q := 87) C dX11_bribes_84 (by decide) rfl (fun c1 => ?_) (fun c1 => ?_)
  · have hF := (if_neg c1).symm.trans hF
    refine z_iload (q := 96) C dX11_bribes_94 4 rfl rfl ?_
    refine z_iconst (q := 97) C dX11_bribes_96 rfl ?_
    refine z_icmp_ne (tgt := 107) (q := 100) C dX11_bribes_97 (by decide) rfl (fun c3 => ?_) (fun c3 => ?_)
    · have hF := (if_neg c3).symm.trans hF
      refine z_iload (q := 109) C dX11_bribes_107 4 rfl rfl ?_
      refine z_iconst (q := 110) C dX11_bribes_109 rfl ?_
      refine z_icmp_ne (tgt := 120) (q := 113) C dX11_bribes_110 (by decide) rfl (fun c5 => ?_) (fun c5 => ?_)
      · have hF := (if_neg c5).symm.trans hF
        refine z_iload_n (q := 121) C dX11_bribes_120 1 rfl rfl rfl ?_
        refine z_iload_n (q := 122) C dX11_bribes_121 2 rfl rfl rfl ?_
        refine z_iadd (q := 123) C dX11_bribes_122 rfl ?_
        refine z_iload (q := 125) C dX11_bribes_123 0 rfl rfl ?_
        obtain ⟨g7, hF⟩ := zif_none hF
        refine z_idiv (q := 126) C g7 dX11_bribes_125 rfl ?_
        have hF := Option.some.inj hF
        subst hF
        exact z_iret C e1 e2 dX11_bribes_126
      · have hF := (if_pos c5).symm.trans hF
        refine z_iload_n (q := 114) C dX11_bribes_113 1 rfl rfl rfl ?_
        refine z_iload (q := 116) C dX11_bribes_114 0 rfl rfl ?_
        obtain ⟨g6, hF⟩ := zif_none hF
        refine z_idiv (q := 117) C g6 dX11_bribes_116 rfl ?_
        refine z_goto (q := 126) C dX11_bribes_117 (by decide) ?_
        have hF := Option.some.inj hF
        subst hF
        exact z_iret C e1 e2 dX11_bribes_126
    · have hF := (if_pos c3).symm.trans hF
      refine z_iload_n (q := 101) C dX11_bribes_100 2 rfl rfl rfl ?_
      refine z_iload (q := 103) C dX11_bribes_101 0 rfl rfl ?_
      obtain ⟨g4, hF⟩ := zif_none hF
      refine z_idiv (q := 104) C g4 dX11_bribes_103 rfl ?_
      refine z_goto (q := 126) C dX11_bribes_104 (by decide) ?_
      have hF := Option.some.inj hF
      subst hF
      exact z_iret C e1 e2 dX11_bribes_126
  · have hF := (if_pos c1).symm.trans hF
    refine z_iload_n (q := 88) C dX11_bribes_87 3 rfl rfl rfl ?_
    refine z_iload (q := 90) C dX11_bribes_88 0 rfl rfl ?_
    obtain ⟨g2, hF⟩ := zif_none hF
    refine z_idiv (q := 91) C g2 dX11_bribes_90 rfl ?_
    refine z_goto (q := 126) C dX11_bribes_91 (by decide) ?_
    have hF := Option.some.inj hF
    subst hF
    exact z_iret C e1 e2 dX11_bribes_126
set_option maxRecDepth 20000 in
set_option maxHeartbeats 4000000 in
theorem J_fX11_bribes {κ : zT} (C : zC κ RX11 cX11_bribes 6 (some .int)) {d : Nat} (hR : zR κ = zrm (d + 1)) (hd : 61 ≤ d + 1) {h : zH} {r : Int} (e1 : zrv κ = some (.int (zi r))) (e2 : zhf κ = h) {a1 : Int} {a2 : Int} {a3 : Int} {a4 : Int} (hF : fX11_bribes a1 a2 a3 a4 = some r) : Z κ h 0 [(0, .ref (zα κ 14)), (1, .int (zi a1)), (2, .int (zi a2)), (3, .int (zi a3)), (4, .int (zi a4))] [] := by
  unfold fX11_bribes at hF
  refine z_iload_n (q := 1) C dX11_bribes_0 1 rfl rfl rfl ?_
  refine z_iconst (q := 2) C dX11_bribes_1 rfl ?_
  refine z_bipush (q := 4) C dX11_bribes_2 bp_99 rfl ?_
  refine z_callS (q := 7) (av := [.int (zi a1), .int (zi 1), .int (zi 99)]) (rest := []) (stk2 := [.int (zi (fX11_in a1 1 99))]) C hR (M_fX11_in (zlv hd rfl) rfl) mY_X11_in q_1314 (Nat.le_of_ble_eq_true rfl) dX11_bribes_4 rfl rfl rfl ?_
  refine z_if_eq (tgt := 40) (q := 10) C dX11_bribes_7 (by decide) rfl (fun c1 => ?_) (fun c1 => ?_)
  · have hF := (if_pos c1).symm.trans hF
    refine z_iconst (q := 41) C dX11_bribes_40 rfl ?_
    have hF := Option.some.inj hF
    subst hF
    exact z_iret C e1 e2 dX11_bribes_41
  · have hF := (if_neg c1).symm.trans hF
    refine z_iload_n (q := 11) C dX11_bribes_10 2 rfl rfl rfl ?_
    refine z_iconst (q := 12) C dX11_bribes_11 rfl ?_
    refine z_bipush (q := 14) C dX11_bribes_12 bp_99 rfl ?_
    refine z_callS (q := 17) (av := [.int (zi a2), .int (zi 1), .int (zi 99)]) (rest := []) (stk2 := [.int (zi (fX11_in a2 1 99))]) C hR (M_fX11_in (zlv hd rfl) rfl) mY_X11_in q_1314 (Nat.le_of_ble_eq_true rfl) dX11_bribes_14 rfl rfl rfl ?_
    refine z_if_eq (tgt := 40) (q := 20) C dX11_bribes_17 (by decide) rfl (fun c2 => ?_) (fun c2 => ?_)
    · have hF := (if_pos c2).symm.trans hF
      refine z_iconst (q := 41) C dX11_bribes_40 rfl ?_
      have hF := Option.some.inj hF
      subst hF
      exact z_iret C e1 e2 dX11_bribes_41
    · have hF := (if_neg c2).symm.trans hF
      refine z_iload_n (q := 21) C dX11_bribes_20 3 rfl rfl rfl ?_
      refine z_iconst (q := 22) C dX11_bribes_21 rfl ?_
      refine z_bipush (q := 24) C dX11_bribes_22 bp_99 rfl ?_
      refine z_callS (q := 27) (av := [.int (zi a3), .int (zi 1), .int (zi 99)]) (rest := []) (stk2 := [.int (zi (fX11_in a3 1 99))]) C hR (M_fX11_in (zlv hd rfl) rfl) mY_X11_in q_1314 (Nat.le_of_ble_eq_true rfl) dX11_bribes_24 rfl rfl rfl ?_
      refine z_if_eq (tgt := 40) (q := 30) C dX11_bribes_27 (by decide) rfl (fun c3 => ?_) (fun c3 => ?_)
      · have hF := (if_pos c3).symm.trans hF
        refine z_iconst (q := 41) C dX11_bribes_40 rfl ?_
        have hF := Option.some.inj hF
        subst hF
        exact z_iret C e1 e2 dX11_bribes_41
      · have hF := (if_neg c3).symm.trans hF
        refine z_iload (q := 32) C dX11_bribes_30 4 rfl rfl ?_
        refine z_iconst (q := 33) C dX11_bribes_32 rfl ?_
        refine z_iconst (q := 34) C dX11_bribes_33 rfl ?_
        refine z_callS (q := 37) (av := [.int (zi a4), .int (zi 0), .int (zi 3)]) (rest := []) (stk2 := [.int (zi (fX11_in a4 0 3))]) C hR (M_fX11_in (zlv hd rfl) rfl) mY_X11_in q_1314 (Nat.le_of_ble_eq_true rfl) dX11_bribes_34 rfl rfl rfl ?_
        refine z_if_ne (tgt := 42) (q := 40) C dX11_bribes_37 (by decide) rfl (fun c4 => ?_) (fun c4 => ?_)
        · have hF := (if_neg c4).symm.trans hF
          refine z_iload_n (q := 43) C dX11_bribes_42 3 rfl rfl rfl ?_
          refine z_iload_n (q := 44) C dX11_bribes_43 2 rfl rfl rfl ?_
          refine z_icmp_lt (tgt := 59) (q := 47) C dX11_bribes_44 (by decide) rfl (fun c5 => ?_) (fun c5 => ?_)
          · have hF := (if_pos c5).symm.trans hF
            refine z_iload (q := 61) C dX11_bribes_59 4 rfl rfl ?_
            refine z_iconst (q := 62) C dX11_bribes_61 rfl ?_
            refine z_icmp_ge (tgt := 73) (q := 65) C dX11_bribes_62 (by decide) rfl (fun c6 => ?_) (fun c6 => ?_)
            · have hF := (if_pos c6).symm.trans hF
              refine z_iload_n (q := 74) C dX11_bribes_73 1 rfl rfl rfl ?_
              refine z_iload_n (q := 75) C dX11_bribes_74 1 rfl rfl rfl ?_
              refine z_iload_n (q := 76) C dX11_bribes_75 2 rfl rfl rfl ?_
              refine z_iadd (q := 77) C dX11_bribes_76 rfl ?_
              obtain ⟨v7, ev7, hF⟩ := zb_e hF
              refine z_callS (q := 80) (av := [.int (zi a1), .int (zi (a1 + a2))]) (rest := []) (stk2 := [.int (zi v7)]) C hR (M_fX11_divisor (zlv hd rfl) ev7) mY_X11_divisor q_1694 (Nat.le_of_ble_eq_true rfl) dX11_bribes_77 rfl rfl rfl ?_
              exact z_sub (J_fX11_bribes_c80 C hR hd e1 e2 _ _ _ _ _ hF) [1, 2, 3, 4] rfl
            · have hF := (if_neg c6).symm.trans hF
              refine z_iload_n (q := 66) C dX11_bribes_65 3 rfl rfl rfl ?_
              refine z_iload_n (q := 67) C dX11_bribes_66 2 rfl rfl rfl ?_
              obtain ⟨v8, ev8, hF⟩ := zb_e hF
              refine z_callS (q := 70) (av := [.int (zi a3), .int (zi a2)]) (rest := []) (stk2 := [.int (zi v8)]) C hR (M_fX11_divisor (zlv hd rfl) ev8) mY_X11_divisor q_1694 (Nat.le_of_ble_eq_true rfl) dX11_bribes_67 rfl rfl rfl ?_
              refine z_goto (q := 80) C dX11_bribes_70 (by decide) ?_
              exact z_sub (J_fX11_bribes_c80 C hR hd e1 e2 _ _ _ _ _ hF) [1, 2, 3, 4] rfl
          · have hF := (if_neg c5).symm.trans hF
            refine z_iload (q := 49) C dX11_bribes_47 4 rfl rfl ?_
            refine z_iconst (q := 50) C dX11_bribes_49 rfl ?_
            refine z_icmp_ne (tgt := 57) (q := 53) C dX11_bribes_50 (by decide) rfl (fun c9 => ?_) (fun c9 => ?_)
            · have hF := (if_neg c9).symm.trans hF
              refine z_iconst (q := 58) C dX11_bribes_57 rfl ?_
              have hF := Option.some.inj hF
              subst hF
              exact z_iret C e1 e2 dX11_bribes_58
            · have hF := (if_pos c9).symm.trans hF
              refine z_iconst (q := 54) C dX11_bribes_53 rfl ?_
              refine z_goto (q := 58) C dX11_bribes_54 (by decide) ?_
              have hF := Option.some.inj hF
              subst hF
              exact z_iret C e1 e2 dX11_bribes_58
        · have hF := (if_pos c4).symm.trans hF
          refine z_iconst (q := 41) C dX11_bribes_40 rfl ?_
          have hF := Option.some.inj hF
          subst hF
          exact z_iret C e1 e2 dX11_bribes_41
set_option maxRecDepth 20000 in
set_option maxHeartbeats 4000000 in
theorem M_fX11_bribes {l : Launch} {D : va_G} {cy : ClassId} {α : Nat → Nat} {n : Nat} {σ : zSg} {d : Nat} (hd : 61 ≤ d) {a1 : Int} {a2 : Int} {a3 : Int} {a4 : Int} {h : zH} {r : Int} (hF : fX11_bribes a1 a2 a3 a4 = some r) : zMet l yX11_bribes cX11_bribes 6 (some .int) (zrm d) D cy α n σ [.ref (α 14), .int (zi a1), .int (zi a2), .int (zi a3), .int (zi a4)] h (some (.int (zi r))) h := by
  obtain ⟨d, rfl⟩ : ∃ e, d = e + 1 := ⟨d - 1, by omega⟩
  refine z_met (by decide +kernel) (Nat.le_of_ble_eq_true rfl) (fun κ k1 k2 k3 k4 k5 k6 k7 k8 k9 C => ?_)
  subst k1 k3 k4 k5 k6 k7
  exact J_fX11_bribes C k2 hd k8 k9 hF
set_option maxRecDepth 20000 in
set_option maxHeartbeats 4000000 in
theorem J_fX11_see {κ : zT} (C : zC κ RX11 cX11_see 3 (some .int)) {d : Nat} (hR : zR κ = zrm (d + 1)) (hd : 3 ≤ d + 1) {r : Int × zH} (e1 : zrv κ = some (.int (zi r.1))) (e2 : zhf κ = r.2) {a1 : Int} {a2 : Int} {h : zH} (hF : fX11_see a1 a2 h = some r) : Z κ h 0 [(0, .ref (zα κ 14)), (1, .int (zi a1)), (2, .int (zi a2))] [] := by
  unfold fX11_see at hF
  refine z_aload_n (q := 1) C dX11_see_0 0 rfl rfl rfl ?_
  refine z_iload_n (q := 2) C dX11_see_1 1 rfl rfl rfl ?_
  refine z_callV (q := 5) (o := 14) (av := [.int (zi a1)]) (rest := []) (stk2 := [.int (zi (fX11_isParish a1 h))]) C hR clX11 (zon C zo_14) kd_14 (M_fX11_isParish (zlv hd rfl) rfl) mY_X11_isParish q_1426 (Nat.le_of_ble_eq_true rfl) dX11_see_2 rfl rfl rfl ?_
  refine z_if_eq (tgt := 27) (q := 8) C dX11_see_5 (by decide) rfl (fun c1 => ?_) (fun c1 => ?_)
  · have hF := (if_pos c1).symm.trans hF
    refine z_iconst (q := 28) C dX11_see_27 rfl ?_
    have hF := Option.some.inj hF
    subst hF
    exact z_iret C e1 e2 dX11_see_28
  · have hF := (if_neg c1).symm.trans hF
    refine z_iload_n (q := 9) C dX11_see_8 2 rfl rfl rfl ?_
    refine z_iconst (q := 10) C dX11_see_9 rfl ?_
    refine z_bipush (q := 12) C dX11_see_10 bp_24 rfl ?_
    refine z_callS (q := 15) (av := [.int (zi a2), .int (zi 0), .int (zi 24)]) (rest := []) (stk2 := [.int (zi (fX11_in a2 0 24))]) C hR (M_fX11_in (zlv hd rfl) rfl) mY_X11_in q_1314 (Nat.le_of_ble_eq_true rfl) dX11_see_12 rfl rfl rfl ?_
    refine z_if_eq (tgt := 27) (q := 18) C dX11_see_15 (by decide) rfl (fun c2 => ?_) (fun c2 => ?_)
    · have hF := (if_pos c2).symm.trans hF
      refine z_iconst (q := 28) C dX11_see_27 rfl ?_
      have hF := Option.some.inj hF
      subst hF
      exact z_iret C e1 e2 dX11_see_28
    · have hF := (if_neg c2).symm.trans hF
      refine z_aload_n (q := 19) C dX11_see_18 0 rfl rfl rfl ?_
      refine z_getf (q := 22) C clX11 (zon C zo_14) kd_14 (k := 46) (by decide) q_1148 rfl (zfv_i kd_14 rfl) dX11_see_19 rfl ?_
      refine z_bipush (q := 24) C dX11_see_22 bp_12 rfl ?_
      refine z_icmp_ne (tgt := 29) (q := 27) C dX11_see_24 (by decide) rfl (fun c3 => ?_) (fun c3 => ?_)
      · have hF := (if_neg c3).symm.trans hF
        refine z_aload_n (q := 30) C dX11_see_29 0 rfl rfl rfl ?_
        refine z_getf (q := 33) C clX11 (zon C zo_14) kd_14 (k := 44) (by decide) q_1146 rfl (zfv_r kd_14 rfl fr_14_44) dX11_see_30 rfl ?_
        refine z_aload_n (q := 34) C dX11_see_33 0 rfl rfl rfl ?_
        refine z_getf (q := 37) C clX11 (zon C zo_14) kd_14 (k := 46) (by decide) q_1148 rfl (zfv_i kd_14 rfl) dX11_see_34 rfl ?_
        refine z_iload_n (q := 38) C dX11_see_37 1 rfl rfl rfl ?_
        obtain ⟨g4, hF⟩ := zif_none hF
        obtain ⟨h5, eh5, hF⟩ := zlet_e hF
        refine z_iast (q := 39) C (zon C zo_73) kd_73 g4.1 (by rw [ln_73]; exact g4.2) dX11_see_38 rfl eh5 ?_
        refine z_aload_n (q := 40) C dX11_see_39 0 rfl rfl rfl ?_
        refine z_getf (q := 43) C clX11 (zon C zo_14) kd_14 (k := 45) (by decide) q_1147 rfl (zfv_r kd_14 rfl fr_14_45) dX11_see_40 rfl ?_
        refine z_aload_n (q := 44) C dX11_see_43 0 rfl rfl rfl ?_
        refine z_getf (q := 47) C clX11 (zon C zo_14) kd_14 (k := 46) (by decide) q_1148 rfl (zfv_i kd_14 rfl) dX11_see_44 rfl ?_
        refine z_iload_n (q := 48) C dX11_see_47 2 rfl rfl rfl ?_
        obtain ⟨g6, hF⟩ := zif_none hF
        obtain ⟨h7, eh7, hF⟩ := zlet_e hF
        refine z_iast (q := 49) C (zon C zo_74) kd_74 g6.1 (by rw [ln_74]; exact g6.2) dX11_see_48 rfl eh7 ?_
        refine z_aload_n (q := 50) C dX11_see_49 0 rfl rfl rfl ?_
        refine z_dup (q := 51) C dX11_see_50 rfl rfl ?_
        refine z_getf (q := 54) C clX11 (zon C zo_14) kd_14 (k := 46) (by decide) q_1148 rfl (zfv_i kd_14 rfl) dX11_see_51 rfl ?_
        refine z_iconst (q := 55) C dX11_see_54 rfl ?_
        refine z_iadd (q := 56) C dX11_see_55 rfl ?_
        obtain ⟨h8, eh8, hF⟩ := zlet_e hF
        refine z_putf (q := 59) C clX11 (zon C zo_14) kd_14 (k := 46) (x := (h7 14 46) + 1) (by decide) q_1148 rfl rfl rfl rfl (((zfv_i kd_14 rfl)).trans (by rw [if_pos rfl])) dX11_see_56 rfl eh8 ?_
        refine z_aload_n (q := 60) C dX11_see_59 0 rfl rfl rfl ?_
        refine z_getf (q := 63) C clX11 (zon C zo_14) kd_14 (k := 46) (by decide) q_1148 rfl (zfv_i kd_14 rfl) dX11_see_60 rfl ?_
        have hF := Option.some.inj hF
        subst hF
        exact z_iret C e1 e2 dX11_see_63
      · have hF := (if_pos c3).symm.trans hF
        refine z_iconst (q := 28) C dX11_see_27 rfl ?_
        have hF := Option.some.inj hF
        subst hF
        exact z_iret C e1 e2 dX11_see_28
set_option maxRecDepth 20000 in
set_option maxHeartbeats 4000000 in
theorem M_fX11_see {l : Launch} {D : va_G} {cy : ClassId} {α : Nat → Nat} {n : Nat} {σ : zSg} {d : Nat} (hd : 3 ≤ d) {a1 : Int} {a2 : Int} {h : zH} {r : Int} {g : zH} (hF : fX11_see a1 a2 h = some (r, g)) : zMet l yX11_see cX11_see 3 (some .int) (zrm d) D cy α n σ [.ref (α 14), .int (zi a1), .int (zi a2)] h (some (.int (zi r))) g := by
  obtain ⟨d, rfl⟩ : ∃ e, d = e + 1 := ⟨d - 1, by omega⟩
  refine z_met (by decide +kernel) (Nat.le_of_ble_eq_true rfl) (fun κ k1 k2 k3 k4 k5 k6 k7 k8 k9 C => ?_)
  subst k1 k3 k4 k5 k6 k7
  exact J_fX11_see C k2 hd k8 k9 hF
set_option maxRecDepth 20000 in
set_option maxHeartbeats 4000000 in
theorem J_fX11_falseBy_c4b {κ : zT} (C : zC κ RX11 cX11_falseBy 4 (some .int)) {d : Nat} (hR : zR κ = zrm (d + 1)) (hd : 4 ≤ d + 1) {N : Nat} {h : zH} {r : Int} (e1 : zrv κ = some (.int (zi r))) (e2 : zhf κ = h) {K4 : Int → Int → Int → Option Int} (hK4 : ∀ (l1 : Int) (l2 : Int) (l3 : Int), K4 l1 l2 l3 = some r → Z κ h 4 [(0, .ref (zα κ 14)), (1, .int (zi l1)), (2, .int (zi l2)), (3, .int (zi l3))] []) (l1 : Int) (l2 : Int) (l3 : Int) (hF : fX11_falseBy_c4b N h K4 l1 l2 l3 = some r) : Z κ h 4 [(0, .ref (zα κ 14)), (1, .int (zi l1)), (2, .int (zi l2)), (3, .int (zi l3))] [] := by
  unfold fX11_falseBy_c4b at hF
  refine z_iload_n (q := 5) C dX11_falseBy_4 3 rfl rfl rfl ?_
  refine z_aload_n (q := 6) C dX11_falseBy_5 0 rfl rfl rfl ?_
  refine z_getf (q := 9) C clX11 (zon C zo_14) kd_14 (k := 46) (by decide) q_1148 rfl (zfv_i kd_14 rfl) dX11_falseBy_6 rfl ?_
  refine z_icmp_ge (tgt := 46) (q := 12) C dX11_falseBy_9 (by decide) rfl (fun c1 => ?_) (fun c1 => ?_)
  · have hF := (if_pos c1).symm.trans hF
    refine z_iload_n (q := 47) C dX11_falseBy_46 2 rfl rfl rfl ?_
    have hF := Option.some.inj hF
    subst hF
    exact z_iret C e1 e2 dX11_falseBy_47
  · have hF := (if_neg c1).symm.trans hF
    refine z_iload_n (q := 13) C dX11_falseBy_12 2 rfl rfl rfl ?_
    refine z_aload_n (q := 14) C dX11_falseBy_13 0 rfl rfl rfl ?_
    refine z_aload_n (q := 15) C dX11_falseBy_14 0 rfl rfl rfl ?_
    refine z_getf (q := 18) C clX11 (zon C zo_14) kd_14 (k := 44) (by decide) q_1146 rfl (zfv_r kd_14 rfl fr_14_44) dX11_falseBy_15 rfl ?_
    refine z_iload_n (q := 19) C dX11_falseBy_18 3 rfl rfl rfl ?_
    obtain ⟨g2, hF⟩ := zif_none hF
    refine z_iald (q := 20) C (zon C zo_73) kd_73 g2.1 (by rw [ln_73]; exact g2.2) dX11_falseBy_19 rfl ?_
    refine z_iload_n (q := 21) C dX11_falseBy_20 1 rfl rfl rfl ?_
    obtain ⟨v3, ev3, hF⟩ := zb_e hF
    refine z_callV (q := 24) (o := 14) (av := [.int (zi (h 73 (zw l3).toNat)), .int (zi l1)]) (rest := [.int (zi l2)]) (stk2 := [.int (zi v3), .int (zi l2)]) C hR clX11 (zon C zo_14) kd_14 (M_fX11_hoursBy (zlv hd rfl) ev3) mY_X11_hoursBy q_1534 (Nat.le_of_ble_eq_true rfl) dX11_falseBy_21 rfl rfl rfl ?_
    refine z_aload_n (q := 25) C dX11_falseBy_24 0 rfl rfl rfl ?_
    refine z_getf (q := 28) C clX11 (zon C zo_14) kd_14 (k := 45) (by decide) q_1147 rfl (zfv_r kd_14 rfl fr_14_45) dX11_falseBy_25 rfl ?_
    refine z_iload_n (q := 29) C dX11_falseBy_28 3 rfl rfl rfl ?_
    obtain ⟨g4, hF⟩ := zif_none hF
    refine z_iald (q := 30) C (zon C zo_74) kd_74 g4.1 (by rw [ln_74]; exact g4.2) dX11_falseBy_29 rfl ?_
    refine z_icmp_ne (tgt := 37) (q := 33) C dX11_falseBy_30 (by decide) rfl (fun c5 => ?_) (fun c5 => ?_)
    · have hF := (if_neg c5).symm.trans hF
      refine z_iconst (q := 38) C dX11_falseBy_37 rfl ?_
      refine z_iadd (q := 39) C dX11_falseBy_38 rfl ?_
      refine z_istore_n (q := 40) C dX11_falseBy_39 (by decide) rfl rfl rfl ?_
      refine z_iinc (q := 43) (x := l3) C dX11_falseBy_40 (j := 3) rfl (by decide) rfl rfl ?_
      refine z_goto (q := 4) C dX11_falseBy_43 (by decide) ?_
      exact z_sub (hK4 _ _ _ hF) [2, 3, 1, 0] rfl
    · have hF := (if_pos c5).symm.trans hF
      refine z_iconst (q := 34) C dX11_falseBy_33 rfl ?_
      refine z_goto (q := 38) C dX11_falseBy_34 (by decide) ?_
      refine z_iadd (q := 39) C dX11_falseBy_38 rfl ?_
      refine z_istore_n (q := 40) C dX11_falseBy_39 (by decide) rfl rfl rfl ?_
      refine z_iinc (q := 43) (x := l3) C dX11_falseBy_40 (j := 3) rfl (by decide) rfl rfl ?_
      refine z_goto (q := 4) C dX11_falseBy_43 (by decide) ?_
      exact z_sub (hK4 _ _ _ hF) [2, 3, 1, 0] rfl
set_option maxRecDepth 20000 in
set_option maxHeartbeats 4000000 in
theorem J_fX11_falseBy_c4 {κ : zT} (C : zC κ RX11 cX11_falseBy 4 (some .int)) {d : Nat} (hR : zR κ = zrm (d + 1)) (hd : 4 ≤ d + 1) {N : Nat} {h : zH} {r : Int} (e1 : zrv κ = some (.int (zi r))) (e2 : zhf κ = h) : ∀ (k : Nat) (l1 : Int) (l2 : Int) (l3 : Int), fX11_falseBy_c4 N h k l1 l2 l3 = some r → Z κ h 4 [(0, .ref (zα κ 14)), (1, .int (zi l1)), (2, .int (zi l2)), (3, .int (zi l3))] [] := by
  intro k
  induction k with
  | zero => intro l1 l2 l3 hF; cases hF
  | succ k ih => intro l1 l2 l3 hF; exact J_fX11_falseBy_c4b C hR hd e1 e2 ih l1 l2 l3 hF
set_option maxRecDepth 20000 in
set_option maxHeartbeats 4000000 in
theorem J_fX11_falseBy {κ : zT} (C : zC κ RX11 cX11_falseBy 4 (some .int)) {d : Nat} (hR : zR κ = zrm (d + 1)) (hd : 4 ≤ d + 1) {N : Nat} {h : zH} {r : Int} (e1 : zrv κ = some (.int (zi r))) (e2 : zhf κ = h) {a1 : Int} (hF : fX11_falseBy N a1 h = some r) : Z κ h 0 [(0, .ref (zα κ 14)), (1, .int (zi a1))] [] := by
  unfold fX11_falseBy at hF
  refine z_iconst (q := 1) C dX11_falseBy_0 rfl ?_
  refine z_istore_n (q := 2) C dX11_falseBy_1 (by decide) rfl rfl rfl ?_
  refine z_iconst (q := 3) C dX11_falseBy_2 rfl ?_
  refine z_istore_n (q := 4) C dX11_falseBy_3 (by decide) rfl rfl rfl ?_
  exact z_sub (J_fX11_falseBy_c4 C hR hd e1 e2 N _ _ _ hF) [2, 3, 1, 0] rfl
set_option maxRecDepth 20000 in
set_option maxHeartbeats 4000000 in
theorem M_fX11_falseBy {l : Launch} {D : va_G} {cy : ClassId} {α : Nat → Nat} {n : Nat} {σ : zSg} {d : Nat} (hd : 4 ≤ d) {N : Nat} {a1 : Int} {h : zH} {r : Int} (hF : fX11_falseBy N a1 h = some r) : zMet l yX11_falseBy cX11_falseBy 4 (some .int) (zrm d) D cy α n σ [.ref (α 14), .int (zi a1)] h (some (.int (zi r))) h := by
  obtain ⟨d, rfl⟩ : ∃ e, d = e + 1 := ⟨d - 1, by omega⟩
  refine z_met (by decide +kernel) (Nat.le_of_ble_eq_true rfl) (fun κ k1 k2 k3 k4 k5 k6 k7 k8 k9 C => ?_)
  subst k1 k3 k4 k5 k6 k7
  exact J_fX11_falseBy C k2 hd k8 k9 hF
set_option maxRecDepth 20000 in
set_option maxHeartbeats 4000000 in
theorem J_fX11_could_c18b {κ : zT} (C : zC κ RX11 cX11_could 4 (some .int)) {d : Nat} (hR : zR κ = zrm (d + 1)) (hd : 5 ≤ d + 1) {N : Nat} {h : zH} {r : Int} (e1 : zrv κ = some (.int (zi r))) (e2 : zhf κ = h) {K18 : Int → Int → Int → Option Int} (hK18 : ∀ (l1 : Int) (l2 : Int) (l3 : Int), K18 l1 l2 l3 = some r → Z κ h 18 [(0, .ref (zα κ 14)), (1, .int (zi l1)), (2, .int (zi l2)), (3, .int (zi l3))] []) (l1 : Int) (l2 : Int) (l3 : Int) (hF : fX11_could_c18b N h K18 l1 l2 l3 = some r) : Z κ h 18 [(0, .ref (zα κ 14)), (1, .int (zi l1)), (2, .int (zi l2)), (3, .int (zi l3))] [] := by
  unfold fX11_could_c18b at hF
  refine z_iload_n (q := 19) C dX11_could_18 3 rfl rfl rfl ?_
  refine z_iconst (q := 20) C dX11_could_19 rfl ?_
  refine z_aload_n (q := 21) C dX11_could_20 0 rfl rfl rfl ?_
  refine z_getf (q := 24) C clX11 (zon C zo_14) kd_14 (k := 28) (by decide) q_1130 rfl (zfv_i kd_14 rfl) dX11_could_21 rfl ?_
  refine z_ishl (q := 25) C dX11_could_24 rfl ?_
  refine z_icmp_ge (tgt := 52) (q := 28) C dX11_could_25 (by decide) rfl (fun c1 => ?_) (fun c1 => ?_)
  · have hF := (if_pos c1).symm.trans hF
    refine z_iload_n (q := 53) C dX11_could_52 1 rfl rfl rfl ?_
    refine z_iconst (q := 54) C dX11_could_53 rfl ?_
    refine z_icmp_ne (tgt := 61) (q := 57) C dX11_could_54 (by decide) rfl (fun c2 => ?_) (fun c2 => ?_)
    · have hF := (if_neg c2).symm.trans hF
      refine z_iconst (q := 62) C dX11_could_61 rfl ?_
      have hF := Option.some.inj hF
      subst hF
      exact z_iret C e1 e2 dX11_could_62
    · have hF := (if_pos c2).symm.trans hF
      refine z_iload_n (q := 58) C dX11_could_57 2 rfl rfl rfl ?_
      refine z_goto (q := 62) C dX11_could_58 (by decide) ?_
      have hF := Option.some.inj hF
      subst hF
      exact z_iret C e1 e2 dX11_could_62
  · have hF := (if_neg c1).symm.trans hF
    refine z_aload_n (q := 29) C dX11_could_28 0 rfl rfl rfl ?_
    refine z_iload_n (q := 30) C dX11_could_29 3 rfl rfl rfl ?_
    obtain ⟨v3, ev3, hF⟩ := zb_e hF
    refine z_callV (q := 33) (o := 14) (av := [.int (zi l3)]) (rest := []) (stk2 := [.int (zi v3)]) C hR clX11 (zon C zo_14) kd_14 (M_fX11_falseBy (zlv hd rfl) ev3) mY_X11_falseBy q_1705 (Nat.le_of_ble_eq_true rfl) dX11_could_30 rfl rfl rfl ?_
    refine z_if_ne (tgt := 46) (q := 36) C dX11_could_33 (by decide) rfl (fun c4 => ?_) (fun c4 => ?_)
    · have hF := (if_neg c4).symm.trans hF
      refine z_iinc (q := 49) (x := l3) C dX11_could_46 (j := 3) rfl (by decide) rfl rfl ?_
      refine z_goto (q := 18) C dX11_could_49 (by decide) ?_
      exact z_sub (hK18 _ _ _ hF) [1, 2, 3, 0] rfl
    · have hF := (if_pos c4).symm.trans hF
      refine z_iload_n (q := 37) C dX11_could_36 2 rfl rfl rfl ?_
      refine z_iload_n (q := 38) C dX11_could_37 1 rfl rfl rfl ?_
      refine z_icmp_ne (tgt := 43) (q := 41) C dX11_could_38 (by decide) rfl (fun c5 => ?_) (fun c5 => ?_)
      · have hF := (if_neg c5).symm.trans hF
        refine z_iinc (q := 46) (x := l2) C dX11_could_43 (j := 2) rfl (by decide) rfl rfl ?_
        refine z_iinc (q := 49) (x := l3) C dX11_could_46 (j := 3) rfl (by decide) rfl rfl ?_
        refine z_goto (q := 18) C dX11_could_49 (by decide) ?_
        exact z_sub (hK18 _ _ _ hF) [2, 3, 1, 0] rfl
      · have hF := (if_pos c5).symm.trans hF
        refine z_iload_n (q := 42) C dX11_could_41 3 rfl rfl rfl ?_
        have hF := Option.some.inj hF
        subst hF
        exact z_iret C e1 e2 dX11_could_42
set_option maxRecDepth 20000 in
set_option maxHeartbeats 4000000 in
theorem J_fX11_could_c18 {κ : zT} (C : zC κ RX11 cX11_could 4 (some .int)) {d : Nat} (hR : zR κ = zrm (d + 1)) (hd : 5 ≤ d + 1) {N : Nat} {h : zH} {r : Int} (e1 : zrv κ = some (.int (zi r))) (e2 : zhf κ = h) : ∀ (k : Nat) (l1 : Int) (l2 : Int) (l3 : Int), fX11_could_c18 N h k l1 l2 l3 = some r → Z κ h 18 [(0, .ref (zα κ 14)), (1, .int (zi l1)), (2, .int (zi l2)), (3, .int (zi l3))] [] := by
  intro k
  induction k with
  | zero => intro l1 l2 l3 hF; cases hF
  | succ k ih => intro l1 l2 l3 hF; exact J_fX11_could_c18b C hR hd e1 e2 ih l1 l2 l3 hF
set_option maxRecDepth 20000 in
set_option maxHeartbeats 4000000 in
theorem J_fX11_could {κ : zT} (C : zC κ RX11 cX11_could 4 (some .int)) {d : Nat} (hR : zR κ = zrm (d + 1)) (hd : 5 ≤ d + 1) {N : Nat} {h : zH} {r : Int} (e1 : zrv κ = some (.int (zi r))) (e2 : zhf κ = h) {a1 : Int} (hF : fX11_could N a1 h = some r) : Z κ h 0 [(0, .ref (zα κ 14)), (1, .int (zi a1))] [] := by
  unfold fX11_could at hF
  refine z_aload_n (q := 1) C dX11_could_0 0 rfl rfl rfl ?_
  refine z_getf (q := 4) C clX11 (zon C zo_14) kd_14 (k := 28) (by decide) q_1130 rfl (zfv_i kd_14 rfl) dX11_could_1 rfl ?_
  refine z_if_eq (tgt := 12) (q := 7) C dX11_could_4 (by decide) rfl (fun c1 => ?_) (fun c1 => ?_)
  · have hF := (if_pos c1).symm.trans hF
    refine z_iconst (q := 13) C dX11_could_12 rfl ?_
    have hF := Option.some.inj hF
    subst hF
    exact z_iret C e1 e2 dX11_could_13
  · have hF := (if_neg c1).symm.trans hF
    refine z_iload_n (q := 8) C dX11_could_7 1 rfl rfl rfl ?_
    refine z_iconst (q := 9) C dX11_could_8 rfl ?_
    refine z_icmp_ge (tgt := 14) (q := 12) C dX11_could_9 (by decide) rfl (fun c2 => ?_) (fun c2 => ?_)
    · have hF := (if_pos c2).symm.trans hF
      refine z_iconst (q := 15) C dX11_could_14 rfl ?_
      refine z_istore_n (q := 16) C dX11_could_15 (by decide) rfl rfl rfl ?_
      refine z_iconst (q := 17) C dX11_could_16 rfl ?_
      refine z_istore_n (q := 18) C dX11_could_17 (by decide) rfl rfl rfl ?_
      exact z_sub (J_fX11_could_c18 C hR hd e1 e2 N _ _ _ hF) [2, 3, 1, 0] rfl
    · have hF := (if_neg c2).symm.trans hF
      refine z_iconst (q := 13) C dX11_could_12 rfl ?_
      have hF := Option.some.inj hF
      subst hF
      exact z_iret C e1 e2 dX11_could_13
set_option maxRecDepth 20000 in
set_option maxHeartbeats 4000000 in
theorem M_fX11_could {l : Launch} {D : va_G} {cy : ClassId} {α : Nat → Nat} {n : Nat} {σ : zSg} {d : Nat} (hd : 5 ≤ d) {N : Nat} {a1 : Int} {h : zH} {r : Int} (hF : fX11_could N a1 h = some r) : zMet l yX11_could cX11_could 4 (some .int) (zrm d) D cy α n σ [.ref (α 14), .int (zi a1)] h (some (.int (zi r))) h := by
  obtain ⟨d, rfl⟩ : ∃ e, d = e + 1 := ⟨d - 1, by omega⟩
  refine z_met (by decide +kernel) (Nat.le_of_ble_eq_true rfl) (fun κ k1 k2 k3 k4 k5 k6 k7 k8 k9 C => ?_)
  subst k1 k3 k4 k5 k6 k7
  exact J_fX11_could C k2 hd k8 k9 hF
set_option maxRecDepth 20000 in
set_option maxHeartbeats 4000000 in
theorem J_fX11_sure_c4b {κ : zT} (C : zC κ RX11 cX11_sure 3 (some .int)) {d : Nat} (hR : zR κ = zrm (d + 1)) (hd : 5 ≤ d + 1) {N : Nat} {h : zH} {r : Int} (e1 : zrv κ = some (.int (zi r))) (e2 : zhf κ = h) {K4 : Int → Int → Option Int} (hK4 : ∀ (l1 : Int) (l2 : Int), K4 l1 l2 = some r → Z κ h 4 [(0, .ref (zα κ 14)), (1, .int (zi l1)), (2, .int (zi l2))] []) (l1 : Int) (l2 : Int) (hF : fX11_sure_c4b N h K4 l1 l2 = some r) : Z κ h 4 [(0, .ref (zα κ 14)), (1, .int (zi l1)), (2, .int (zi l2))] [] := by
  unfold fX11_sure_c4b at hF
  refine z_aload_n (q := 5) C dX11_sure_4 0 rfl rfl rfl ?_
  refine z_getf (q := 8) C clX11 (zon C zo_14) kd_14 (k := 28) (by decide) q_1130 rfl (zfv_i kd_14 rfl) dX11_sure_5 rfl ?_
  refine z_if_le (tgt := 52) (q := 11) C dX11_sure_8 (by decide) rfl (fun c1 => ?_) (fun c1 => ?_)
  · have hF := (if_pos c1).symm.trans hF
    refine z_iload_n (q := 53) C dX11_sure_52 1 rfl rfl rfl ?_
    have hF := Option.some.inj hF
    subst hF
    exact z_iret C e1 e2 dX11_sure_53
  · have hF := (if_neg c1).symm.trans hF
    refine z_iload_n (q := 12) C dX11_sure_11 2 rfl rfl rfl ?_
    refine z_iconst (q := 13) C dX11_sure_12 rfl ?_
    refine z_aload_n (q := 14) C dX11_sure_13 0 rfl rfl rfl ?_
    refine z_getf (q := 17) C clX11 (zon C zo_14) kd_14 (k := 28) (by decide) q_1130 rfl (zfv_i kd_14 rfl) dX11_sure_14 rfl ?_
    refine z_ishl (q := 18) C dX11_sure_17 rfl ?_
    refine z_icmp_ge (tgt := 52) (q := 21) C dX11_sure_18 (by decide) rfl (fun c2 => ?_) (fun c2 => ?_)
    · have hF := (if_pos c2).symm.trans hF
      refine z_iload_n (q := 53) C dX11_sure_52 1 rfl rfl rfl ?_
      have hF := Option.some.inj hF
      subst hF
      exact z_iret C e1 e2 dX11_sure_53
    · have hF := (if_neg c2).symm.trans hF
      refine z_aload_n (q := 22) C dX11_sure_21 0 rfl rfl rfl ?_
      refine z_iload_n (q := 23) C dX11_sure_22 2 rfl rfl rfl ?_
      obtain ⟨v3, ev3, hF⟩ := zb_e hF
      refine z_callV (q := 26) (o := 14) (av := [.int (zi l2)]) (rest := []) (stk2 := [.int (zi v3)]) C hR clX11 (zon C zo_14) kd_14 (M_fX11_falseBy (zlv hd rfl) ev3) mY_X11_falseBy q_1705 (Nat.le_of_ble_eq_true rfl) dX11_sure_23 rfl rfl rfl ?_
      refine z_if_le (tgt := 33) (q := 29) C dX11_sure_26 (by decide) rfl (fun c4 => ?_) (fun c4 => ?_)
      · have hF := (if_pos c4).symm.trans hF
        refine z_iload_n (q := 34) C dX11_sure_33 1 rfl rfl rfl ?_
        refine z_iconst (q := 35) C dX11_sure_34 rfl ?_
        refine z_icmp_ne (tgt := 42) (q := 38) C dX11_sure_35 (by decide) rfl (fun c5 => ?_) (fun c5 => ?_)
        · have hF := (if_neg c5).symm.trans hF
          refine z_iload_n (q := 43) C dX11_sure_42 1 rfl rfl rfl ?_
          refine z_iload_n (q := 44) C dX11_sure_43 2 rfl rfl rfl ?_
          refine z_iand (q := 45) C dX11_sure_44 rfl ?_
          refine z_istore_n (q := 46) C dX11_sure_45 (by decide) rfl rfl rfl ?_
          refine z_iinc (q := 49) (x := l2) C dX11_sure_46 (j := 2) rfl (by decide) rfl rfl ?_
          refine z_goto (q := 4) C dX11_sure_49 (by decide) ?_
          exact z_sub (hK4 _ _ hF) [2, 1, 0] rfl
        · have hF := (if_pos c5).symm.trans hF
          refine z_iload_n (q := 39) C dX11_sure_38 2 rfl rfl rfl ?_
          refine z_goto (q := 45) C dX11_sure_39 (by decide) ?_
          refine z_istore_n (q := 46) C dX11_sure_45 (by decide) rfl rfl rfl ?_
          refine z_iinc (q := 49) (x := l2) C dX11_sure_46 (j := 2) rfl (by decide) rfl rfl ?_
          refine z_goto (q := 4) C dX11_sure_49 (by decide) ?_
          exact z_sub (hK4 _ _ hF) [2, 1, 0] rfl
      · have hF := (if_neg c4).symm.trans hF
        refine z_iload_n (q := 30) C dX11_sure_29 1 rfl rfl rfl ?_
        refine z_goto (q := 45) C dX11_sure_30 (by decide) ?_
        refine z_istore_n (q := 46) C dX11_sure_45 (by decide) rfl rfl rfl ?_
        refine z_iinc (q := 49) (x := l2) C dX11_sure_46 (j := 2) rfl (by decide) rfl rfl ?_
        refine z_goto (q := 4) C dX11_sure_49 (by decide) ?_
        exact z_sub (hK4 _ _ hF) [2, 1, 0] rfl
set_option maxRecDepth 20000 in
set_option maxHeartbeats 4000000 in
theorem J_fX11_sure_c4 {κ : zT} (C : zC κ RX11 cX11_sure 3 (some .int)) {d : Nat} (hR : zR κ = zrm (d + 1)) (hd : 5 ≤ d + 1) {N : Nat} {h : zH} {r : Int} (e1 : zrv κ = some (.int (zi r))) (e2 : zhf κ = h) : ∀ (k : Nat) (l1 : Int) (l2 : Int), fX11_sure_c4 N h k l1 l2 = some r → Z κ h 4 [(0, .ref (zα κ 14)), (1, .int (zi l1)), (2, .int (zi l2))] [] := by
  intro k
  induction k with
  | zero => intro l1 l2 hF; cases hF
  | succ k ih => intro l1 l2 hF; exact J_fX11_sure_c4b C hR hd e1 e2 ih l1 l2 hF
set_option maxRecDepth 20000 in
set_option maxHeartbeats 4000000 in
theorem J_fX11_sure {κ : zT} (C : zC κ RX11 cX11_sure 3 (some .int)) {d : Nat} (hR : zR κ = zrm (d + 1)) (hd : 5 ≤ d + 1) {N : Nat} {h : zH} {r : Int} (e1 : zrv κ = some (.int (zi r))) (e2 : zhf κ = h) (hF : fX11_sure N h = some r) : Z κ h 0 [(0, .ref (zα κ 14))] [] := by
  unfold fX11_sure at hF
  refine z_iconst (q := 1) C dX11_sure_0 rfl ?_
  refine z_istore_n (q := 2) C dX11_sure_1 (by decide) rfl rfl rfl ?_
  refine z_iconst (q := 3) C dX11_sure_2 rfl ?_
  refine z_istore_n (q := 4) C dX11_sure_3 (by decide) rfl rfl rfl ?_
  exact z_sub (J_fX11_sure_c4 C hR hd e1 e2 N _ _ hF) [2, 1, 0] rfl
set_option maxRecDepth 20000 in
set_option maxHeartbeats 4000000 in
theorem M_fX11_sure {l : Launch} {D : va_G} {cy : ClassId} {α : Nat → Nat} {n : Nat} {σ : zSg} {d : Nat} (hd : 5 ≤ d) {N : Nat} {h : zH} {r : Int} (hF : fX11_sure N h = some r) : zMet l yX11_sure cX11_sure 3 (some .int) (zrm d) D cy α n σ [.ref (α 14)] h (some (.int (zi r))) h := by
  obtain ⟨d, rfl⟩ : ∃ e, d = e + 1 := ⟨d - 1, by omega⟩
  refine z_met (by decide +kernel) (Nat.le_of_ble_eq_true rfl) (fun κ k1 k2 k3 k4 k5 k6 k7 k8 k9 C => ?_)
  subst k1 k3 k4 k5 k6 k7
  exact J_fX11_sure C k2 hd k8 k9 hF
set_option maxRecDepth 20000 in
set_option maxHeartbeats 4000000 in
theorem J_fX11_wrong_c16b {κ : zT} (C : zC κ RX11 cX11_wrong 3 (some .int)) {d : Nat} (hR : zR κ = zrm (d + 1)) (hd : 5 ≤ d + 1) {N : Nat} {h : zH} {r : Int} (e1 : zrv κ = some (.int (zi r))) (e2 : zhf κ = h) {K16 : Int → Int → Option Int} (hK16 : ∀ (l1 : Int) (l2 : Int), K16 l1 l2 = some r → Z κ h 16 [(0, .ref (zα κ 14)), (1, .int (zi l1)), (2, .int (zi l2))] []) (l1 : Int) (l2 : Int) (hF : fX11_wrong_c16b N h K16 l1 l2 = some r) : Z κ h 16 [(0, .ref (zα κ 14)), (1, .int (zi l1)), (2, .int (zi l2))] [] := by
  unfold fX11_wrong_c16b at hF
  refine z_iload_n (q := 17) C dX11_wrong_16 2 rfl rfl rfl ?_
  refine z_iconst (q := 18) C dX11_wrong_17 rfl ?_
  refine z_aload_n (q := 19) C dX11_wrong_18 0 rfl rfl rfl ?_
  refine z_getf (q := 22) C clX11 (zon C zo_14) kd_14 (k := 28) (by decide) q_1130 rfl (zfv_i kd_14 rfl) dX11_wrong_19 rfl ?_
  refine z_ishl (q := 23) C dX11_wrong_22 rfl ?_
  refine z_icmp_ge (tgt := 42) (q := 26) C dX11_wrong_23 (by decide) rfl (fun c1 => ?_) (fun c1 => ?_)
  · have hF := (if_pos c1).symm.trans hF
    refine z_iload_n (q := 43) C dX11_wrong_42 1 rfl rfl rfl ?_
    have hF := Option.some.inj hF
    subst hF
    exact z_iret C e1 e2 dX11_wrong_43
  · have hF := (if_neg c1).symm.trans hF
    refine z_iload_n (q := 27) C dX11_wrong_26 1 rfl rfl rfl ?_
    refine z_aload_n (q := 28) C dX11_wrong_27 0 rfl rfl rfl ?_
    refine z_iload_n (q := 29) C dX11_wrong_28 2 rfl rfl rfl ?_
    obtain ⟨v2, ev2, hF⟩ := zb_e hF
    refine z_callV (q := 32) (o := 14) (av := [.int (zi l2)]) (rest := [.int (zi l1)]) (stk2 := [.int (zi v2), .int (zi l1)]) C hR clX11 (zon C zo_14) kd_14 (M_fX11_falseBy (zlv hd rfl) ev2) mY_X11_falseBy q_1705 (Nat.le_of_ble_eq_true rfl) dX11_wrong_29 rfl rfl rfl ?_
    refine z_callS (q := 35) (av := [.int (zi l1), .int (zi v2)]) (rest := []) (stk2 := [.int (zi (fJ9_min_7cf53 l1 v2))]) C hR (M_fJ9_min_7cf53 (zlv hd rfl) rfl) mY_J9_min_7cf53 q_1542 (Nat.le_of_ble_eq_true rfl) dX11_wrong_32 rfl rfl rfl ?_
    obtain ⟨v3, ev3, hF⟩ := zlet_e hF
    refine z_istoreE_n (q := 36) C ev3 dX11_wrong_35 (by decide) rfl rfl rfl ?_
    refine z_iinc (q := 39) (x := l2) C dX11_wrong_36 (j := 2) rfl (by decide) rfl rfl ?_
    refine z_goto (q := 16) C dX11_wrong_39 (by decide) ?_
    exact z_sub (hK16 _ _ hF) [2, 1, 0] rfl
set_option maxRecDepth 20000 in
set_option maxHeartbeats 4000000 in
theorem J_fX11_wrong_c16 {κ : zT} (C : zC κ RX11 cX11_wrong 3 (some .int)) {d : Nat} (hR : zR κ = zrm (d + 1)) (hd : 5 ≤ d + 1) {N : Nat} {h : zH} {r : Int} (e1 : zrv κ = some (.int (zi r))) (e2 : zhf κ = h) : ∀ (k : Nat) (l1 : Int) (l2 : Int), fX11_wrong_c16 N h k l1 l2 = some r → Z κ h 16 [(0, .ref (zα κ 14)), (1, .int (zi l1)), (2, .int (zi l2))] [] := by
  intro k
  induction k with
  | zero => intro l1 l2 hF; cases hF
  | succ k ih => intro l1 l2 hF; exact J_fX11_wrong_c16b C hR hd e1 e2 ih l1 l2 hF
set_option maxRecDepth 20000 in
set_option maxHeartbeats 4000000 in
theorem J_fX11_wrong {κ : zT} (C : zC κ RX11 cX11_wrong 3 (some .int)) {d : Nat} (hR : zR κ = zrm (d + 1)) (hd : 5 ≤ d + 1) {N : Nat} {h : zH} {r : Int} (e1 : zrv κ = some (.int (zi r))) (e2 : zhf κ = h) (hF : fX11_wrong N h = some r) : Z κ h 0 [(0, .ref (zα κ 14))] [] := by
  unfold fX11_wrong at hF
  refine z_aload_n (q := 1) C dX11_wrong_0 0 rfl rfl rfl ?_
  refine z_getf (q := 4) C clX11 (zon C zo_14) kd_14 (k := 28) (by decide) q_1130 rfl (zfv_i kd_14 rfl) dX11_wrong_1 rfl ?_
  refine z_if_ne (tgt := 9) (q := 7) C dX11_wrong_4 (by decide) rfl (fun c1 => ?_) (fun c1 => ?_)
  · have hF := (if_neg c1).symm.trans hF
    refine z_aload_n (q := 10) C dX11_wrong_9 0 rfl rfl rfl ?_
    refine z_getf (q := 13) C clX11 (zon C zo_14) kd_14 (k := 46) (by decide) q_1148 rfl (zfv_i kd_14 rfl) dX11_wrong_10 rfl ?_
    obtain ⟨v2, ev2, hF⟩ := zlet_e hF
    refine z_istoreE_n (q := 14) C ev2 dX11_wrong_13 (by decide) rfl rfl rfl ?_
    refine z_iconst (q := 15) C dX11_wrong_14 rfl ?_
    refine z_istore_n (q := 16) C dX11_wrong_15 (by decide) rfl rfl rfl ?_
    exact z_sub (J_fX11_wrong_c16 C hR hd e1 e2 N _ _ hF) [2, 1, 0] rfl
  · have hF := (if_pos c1).symm.trans hF
    refine z_iconst (q := 8) C dX11_wrong_7 rfl ?_
    have hF := Option.some.inj hF
    subst hF
    exact z_iret C e1 e2 dX11_wrong_8
set_option maxRecDepth 20000 in
set_option maxHeartbeats 4000000 in
theorem M_fX11_wrong {l : Launch} {D : va_G} {cy : ClassId} {α : Nat → Nat} {n : Nat} {σ : zSg} {d : Nat} (hd : 5 ≤ d) {N : Nat} {h : zH} {r : Int} (hF : fX11_wrong N h = some r) : zMet l yX11_wrong cX11_wrong 3 (some .int) (zrm d) D cy α n σ [.ref (α 14)] h (some (.int (zi r))) h := by
  obtain ⟨d, rfl⟩ : ∃ e, d = e + 1 := ⟨d - 1, by omega⟩
  refine z_met (by decide +kernel) (Nat.le_of_ble_eq_true rfl) (fun κ k1 k2 k3 k4 k5 k6 k7 k8 k9 C => ?_)
  subst k1 k3 k4 k5 k6 k7
  exact J_fX11_wrong C k2 hd k8 k9 hF
