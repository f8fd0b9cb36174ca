set_option maxRecDepth 20000 in
set_option maxHeartbeats 4000000 in
theorem J_fJ9_max_7cf53 {κ : zT} (C : zC κ RJ9 cJ9_max_7cf53 2 (some .int)) {d : Nat} (hR : zR κ = zrm (d + 1)) (hd : 1 ≤ d + 1) {h : zH} {r : Int} (e1 : zrv κ = some (.int (zi r))) (e2 : zhf κ = h) {a0 : Int} {a1 : Int} (hF : fJ9_max_7cf53 a0 a1 = r) : Z κ h 0 [(0, .int (zi a0)), (1, .int (zi a1))] [] := by
  unfold fJ9_max_7cf53 at hF
  refine z_iload_n (q := 1) C dJ9_max_7cf53_0 0 rfl rfl rfl ?_
  refine z_iload_n (q := 2) C dJ9_max_7cf53_1 1 rfl rfl rfl ?_
  refine z_icmp_lt (tgt := 9) (q := 5) C dJ9_max_7cf53_2 (by decide) rfl (fun c1 => ?_) (fun c1 => ?_)
  · have hF := (if_pos c1).symm.trans hF
    refine z_iload_n (q := 10) C dJ9_max_7cf53_9 1 rfl rfl rfl ?_
    subst hF
    exact z_iret C e1 e2 dJ9_max_7cf53_10
  · have hF := (if_neg c1).symm.trans hF
    refine z_iload_n (q := 6) C dJ9_max_7cf53_5 0 rfl rfl rfl ?_
    refine z_goto (q := 10) C dJ9_max_7cf53_6 (by decide) ?_
    subst hF
    exact z_iret C e1 e2 dJ9_max_7cf53_10
set_option maxRecDepth 20000 in
set_option maxHeartbeats 4000000 in
theorem M_fJ9_max_7cf53 {l : Launch} {D : va_G} {cy : ClassId} {α : Nat → Nat} {n : Nat} {σ : zSg} {d : Nat} (hd : 1 ≤ d) {a0 : Int} {a1 : Int} {h : zH} {r : Int} (hF : fJ9_max_7cf53 a0 a1 = r) : zMet l yJ9_max_7cf53 cJ9_max_7cf53 2 (some .int) (zrm d) D cy α n σ [.int (zi a0), .int (zi a1)] h (some (.int (zi r))) h := by
  obtain ⟨d, rfl⟩ : ∃ e, d = e + 1 := ⟨d - 1, by omega⟩
  refine z_met (by decide +kernel) (Nat.le_of_ble_eq_true rfl) (fun κ k1 k2 k3 k4 k5 k6 k7 k8 k9 C => ?_)
  subst k1 k3 k4 k5 k6 k7
  exact J_fJ9_max_7cf53 C k2 hd k8 k9 hF
set_option maxRecDepth 20000 in
set_option maxHeartbeats 4000000 in
theorem J_fX9_bytesIn_c5b {κ : zT} (C : zC κ RX9 cX9_bytesIn 3 (some .int)) {d : Nat} (hR : zR κ = zrm (d + 1)) (hd : 1 ≤ d + 1) {N : Nat} {h : zH} {r : Int} (e1 : zrv κ = some (.int (zi r))) (e2 : zhf κ = h) {K5 : Int → Int → Int → Option Int} (hK5 : ∀ (l0 : Int) (l1 : Int) (l2 : Int), K5 l0 l1 l2 = some r → Z κ h 5 [(0, .int (zi l0)), (1, .int (zi l1)), (2, .int (zi l2))] []) (l0 : Int) (l1 : Int) (l2 : Int) (hF : fX9_bytesIn_c5b N K5 l0 l1 l2 = some r) : Z κ h 5 [(0, .int (zi l0)), (1, .int (zi l1)), (2, .int (zi l2))] [] := by
  unfold fX9_bytesIn_c5b at hF
  refine z_iload_n (q := 6) C dX9_bytesIn_5 2 rfl rfl rfl ?_
  refine z_if_lt (tgt := 33) (q := 9) C dX9_bytesIn_6 (by decide) rfl (fun c1 => ?_) (fun c1 => ?_)
  · have hF := (if_pos c1).symm.trans hF
    refine z_iload_n (q := 34) C dX9_bytesIn_33 1 rfl rfl rfl ?_
    have hF := Option.some.inj hF
    subst hF
    exact z_iret C e1 e2 dX9_bytesIn_34
  · have hF := (if_neg c1).symm.trans hF
    refine z_iload_n (q := 10) C dX9_bytesIn_9 1 rfl rfl rfl ?_
    refine z_iload_n (q := 11) C dX9_bytesIn_10 0 rfl rfl rfl ?_
    refine z_iload_n (q := 12) C dX9_bytesIn_11 2 rfl rfl rfl ?_
    refine z_iushr (q := 13) C dX9_bytesIn_12 rfl ?_
    refine z_sipush (q := 16) C dX9_bytesIn_13 sp_255 rfl ?_
    refine z_iand (q := 17) C dX9_bytesIn_16 rfl ?_
    refine z_if_eq (tgt := 24) (q := 20) C dX9_bytesIn_17 (by decide) rfl (fun c2 => ?_) (fun c2 => ?_)
    · have hF := (if_pos c2).symm.trans hF
      refine z_iconst (q := 25) C dX9_bytesIn_24 rfl ?_
      refine z_iadd (q := 26) C dX9_bytesIn_25 rfl ?_
      refine z_istore_n (q := 27) C dX9_bytesIn_26 (by decide) rfl rfl rfl ?_
      refine z_iinc (q := 30) (x := l2) C dX9_bytesIn_27 (j := 2) rfl (by decide) rfl rfl ?_
      refine z_goto (q := 5) C dX9_bytesIn_30 (by decide) ?_
      exact z_sub (hK5 _ _ _ hF) [2, 1, 0] rfl
    · have hF := (if_neg c2).symm.trans hF
      refine z_iconst (q := 21) C dX9_bytesIn_20 rfl ?_
      refine z_goto (q := 25) C dX9_bytesIn_21 (by decide) ?_
      refine z_iadd (q := 26) C dX9_bytesIn_25 rfl ?_
      refine z_istore_n (q := 27) C dX9_bytesIn_26 (by decide) rfl rfl rfl ?_
      refine z_iinc (q := 30) (x := l2) C dX9_bytesIn_27 (j := 2) rfl (by decide) rfl rfl ?_
      refine z_goto (q := 5) C dX9_bytesIn_30 (by decide) ?_
      exact z_sub (hK5 _ _ _ hF) [2, 1, 0] rfl
set_option maxRecDepth 20000 in
set_option maxHeartbeats 4000000 in
theorem J_fX9_bytesIn_c5 {κ : zT} (C : zC κ RX9 cX9_bytesIn 3 (some .int)) {d : Nat} (hR : zR κ = zrm (d + 1)) (hd : 1 ≤ d + 1) {N : Nat} {h : zH} {r : Int} (e1 : zrv κ = some (.int (zi r))) (e2 : zhf κ = h) : ∀ (k : Nat) (l0 : Int) (l1 : Int) (l2 : Int), fX9_bytesIn_c5 N k l0 l1 l2 = some r → Z κ h 5 [(0, .int (zi l0)), (1, .int (zi l1)), (2, .int (zi l2))] [] := by
  intro k
  induction k with
  | zero => intro l0 l1 l2 hF; cases hF
  | succ k ih => intro l0 l1 l2 hF; exact J_fX9_bytesIn_c5b C hR hd e1 e2 ih l0 l1 l2 hF
set_option maxRecDepth 20000 in
set_option maxHeartbeats 4000000 in
theorem J_fX9_bytesIn {κ : zT} (C : zC κ RX9 cX9_bytesIn 3 (some .int)) {d : Nat} (hR : zR κ = zrm (d + 1)) (hd : 1 ≤ d + 1) {N : Nat} {h : zH} {r : Int} (e1 : zrv κ = some (.int (zi r))) (e2 : zhf κ = h) {a0 : Int} (hF : fX9_bytesIn N a0 = some r) : Z κ h 0 [(0, .int (zi a0))] [] := by
  unfold fX9_bytesIn at hF
  refine z_iconst (q := 1) C dX9_bytesIn_0 rfl ?_
  refine z_istore_n (q := 2) C dX9_bytesIn_1 (by decide) rfl rfl rfl ?_
  refine z_bipush (q := 4) C dX9_bytesIn_2 bp_24 rfl ?_
  refine z_istore_n (q := 5) C dX9_bytesIn_4 (by decide) rfl rfl rfl ?_
  exact z_sub (J_fX9_bytesIn_c5 C hR hd e1 e2 N _ _ _ hF) [2, 1, 0] rfl
set_option maxRecDepth 20000 in
set_option maxHeartbeats 4000000 in
theorem M_fX9_bytesIn {l : Launch} {D : va_G} {cy : ClassId} {α : Nat → Nat} {n : Nat} {σ : zSg} {d : Nat} (hd : 1 ≤ d) {N : Nat} {a0 : Int} {h : zH} {r : Int} (hF : fX9_bytesIn N a0 = some r) : zMet l yX9_bytesIn cX9_bytesIn 3 (some .int) (zrm d) D cy α n σ [.int (zi a0)] h (some (.int (zi r))) h := by
  obtain ⟨d, rfl⟩ : ∃ e, d = e + 1 := ⟨d - 1, by omega⟩
  refine z_met (by decide +kernel) (Nat.le_of_ble_eq_true rfl) (fun κ k1 k2 k3 k4 k5 k6 k7 k8 k9 C => ?_)
  subst k1 k3 k4 k5 k6 k7
  exact J_fX9_bytesIn C k2 hd k8 k9 hF
set_option maxRecDepth 20000 in
set_option maxHeartbeats 4000000 in
theorem J_fX10_put {κ : zT} (C : zC κ RX10 cX10_put 3 none) {d : Nat} (hR : zR κ = zrm (d + 1)) (hd : 1 ≤ d + 1) {o0 : Nat} (ho0 : o0 < zN) (hd0 : zkd o0 = 100) {r : zH} (e1 : zrv κ = none) (e2 : zhf κ = r) {a1 : Int} {a2 : Int} {h : zH} (hF : fX10_put o0 a1 a2 h = r) : Z κ h 0 [(0, .ref (zα κ o0)), (1, .int (zi a1)), (2, .int (zi a2))] [] := by
  unfold fX10_put at hF
  refine z_iload_n (q := 1) C dX10_put_0 1 rfl rfl rfl ?_
  refine z_if_lt (tgt := 14) (q := 4) C dX10_put_1 (by decide) rfl (fun c1 => ?_) (fun c1 => ?_)
  · have hF := (if_pos c1).symm.trans hF
    subst hF
    exact z_vret C e1 e2 dX10_put_14
  · have hF := (if_neg c1).symm.trans hF
    refine z_iload_n (q := 5) C dX10_put_4 1 rfl rfl rfl ?_
    refine z_aload_n (q := 6) C dX10_put_5 0 rfl rfl rfl ?_
    refine z_alen (q := 7) C (zon C ho0) hd0 dX10_put_6 rfl ?_
    refine z_icmp_ge (tgt := 14) (q := 10) C dX10_put_7 (by decide) rfl (fun c2 => ?_) (fun c2 => ?_)
    · have hF := (if_pos c2).symm.trans hF
      subst hF
      exact z_vret C e1 e2 dX10_put_14
    · have hF := (if_neg c2).symm.trans hF
      refine z_aload_n (q := 11) C dX10_put_10 0 rfl rfl rfl ?_
      refine z_iload_n (q := 12) C dX10_put_11 1 rfl rfl rfl ?_
      refine z_iload_n (q := 13) C dX10_put_12 2 rfl rfl rfl ?_
      obtain ⟨h3, eh3, hF⟩ := zlet_e hF
      refine z_iast (q := 14) C (zon C ho0) hd0 (by omega) (by have := zlnw o0; omega) dX10_put_13 rfl eh3 ?_
      subst hF
      exact z_vret C e1 e2 dX10_put_14
set_option maxRecDepth 20000 in
set_option maxHeartbeats 4000000 in
theorem M_fX10_put {l : Launch} {D : va_G} {cy : ClassId} {α : Nat → Nat} {n : Nat} {σ : zSg} {d : Nat} (hd : 1 ≤ d) {o0 : Nat} (ho0 : o0 < zN) (hd0 : zkd o0 = 100) {a1 : Int} {a2 : Int} {h : zH} {g : zH} (hF : fX10_put o0 a1 a2 h = g) : zMet l yX10_put cX10_put 3 none (zrm d) D cy α n σ [.ref (α o0), .int (zi a1), .int (zi a2)] h (none) g := by
  obtain ⟨d, rfl⟩ : ∃ e, d = e + 1 := ⟨d - 1, by omega⟩
  refine z_met (by decide +kernel) (Nat.le_of_ble_eq_true rfl) (fun κ k1 k2 k3 k4 k5 k6 k7 k8 k9 C => ?_)
  subst k1 k3 k4 k5 k6 k7
  exact J_fX10_put C k2 hd ho0 hd0 k8 k9 hF
set_option maxRecDepth 20000 in
set_option maxHeartbeats 4000000 in
theorem J_fX9_append_c3b {κ : zT} (C : zC κ RX9 cX9_append 4 none) {d : Nat} (hR : zR κ = zrm (d + 1)) (hd : 2 ≤ d + 1) {N : Nat} {r : zH} (e1 : zrv κ = none) (e2 : zhf κ = r) {K3 : Int → Int → zH → Option zH} (hK3 : ∀ (l1 : Int) (l2 : Int) (h : zH), K3 l1 l2 h = some r → Z κ h 3 [(0, .ref (zα κ 1)), (1, .int (zi l1)), (2, .int (zi l2))] []) (l1 : Int) (l2 : Int) (h : zH) (hF : fX9_append_c3b N K3 l1 l2 h = some r) : Z κ h 3 [(0, .ref (zα κ 1)), (1, .int (zi l1)), (2, .int (zi l2))] [] := by
  unfold fX9_append_c3b at hF
  refine z_iload_n (q := 4) C dX9_append_3 2 rfl rfl rfl ?_
  refine z_if_lt (tgt := 57) (q := 7) C dX9_append_4 (by decide) rfl (fun c1 => ?_) (fun c1 => ?_)
  · have hF := (if_pos c1).symm.trans hF
    have hF := Option.some.inj hF
    subst hF
    exact z_vret C e1 e2 dX9_append_57
  · have hF := (if_neg c1).symm.trans hF
    refine z_iload_n (q := 8) C dX9_append_7 1 rfl rfl rfl ?_
    refine z_iload_n (q := 9) C dX9_append_8 2 rfl rfl rfl ?_
    refine z_iushr (q := 10) C dX9_append_9 rfl ?_
    refine z_sipush (q := 13) C dX9_append_10 sp_255 rfl ?_
    refine z_iand (q := 14) C dX9_append_13 rfl ?_
    obtain ⟨v2, ev2, hF⟩ := zlet_e hF
    refine z_istoreE_n (q := 15) C ev2 dX9_append_14 (by decide) rfl rfl rfl ?_
    refine z_iload_n (q := 16) C dX9_append_15 0 rfl rfl rfl ?_
    refine z_if_eq (tgt := 51) (q := 19) C dX9_append_16 (by decide) rfl (fun c3 => ?_) (fun c3 => ?_)
    · have hF := (if_pos c3).symm.trans hF
      refine z_iinc (q := 54) (x := l2) C dX9_append_51 (j := 3) rfl (by decide) rfl rfl ?_
      refine z_goto (q := 3) C dX9_append_54 (by decide) ?_
      exact z_sub (hK3 _ _ _ hF) [2, 3, 0] rfl
    · have hF := (if_neg c3).symm.trans hF
      refine z_aload_n (q := 20) C dX9_append_19 1 rfl rfl rfl ?_
      refine z_getf (q := 23) C clX9 (zon C zo_1) kd_1 (k := 1) (by decide) q_41 rfl (zfv_i kd_1 rfl) dX9_append_20 rfl ?_
      refine z_sipush (q := 26) C dX9_append_23 sp_240 rfl ?_
      refine z_icmp_ge (tgt := 51) (q := 29) C dX9_append_26 (by decide) rfl (fun c4 => ?_) (fun c4 => ?_)
      · have hF := (if_pos c4).symm.trans hF
        refine z_iinc (q := 54) (x := l2) C dX9_append_51 (j := 3) rfl (by decide) rfl rfl ?_
        refine z_goto (q := 3) C dX9_append_54 (by decide) ?_
        exact z_sub (hK3 _ _ _ hF) [2, 3, 0] rfl
      · have hF := (if_neg c4).symm.trans hF
        refine z_aload_n (q := 30) C dX9_append_29 1 rfl rfl rfl ?_
        refine z_getf (q := 33) C clX9 (zon C zo_1) kd_1 (k := 0) (by decide) q_39 rfl (zfv_r kd_1 rfl fr_1_0) dX9_append_30 rfl ?_
        refine z_aload_n (q := 34) C dX9_append_33 1 rfl rfl rfl ?_
        refine z_getf (q := 37) C clX9 (zon C zo_1) kd_1 (k := 1) (by decide) q_41 rfl (zfv_i kd_1 rfl) dX9_append_34 rfl ?_
        refine z_iload_n (q := 38) C dX9_append_37 0 rfl rfl rfl ?_
        obtain ⟨h5, eh5, hF⟩ := zlet_e hF
        refine z_callSN (q := 41) (av := [.ref (zα κ 15), .int (zi (h 1 1)), .int (zi v2)]) (rest := []) (stk2 := []) C hR (M_fX10_put (zlv hd rfl) zo_15 kd_15 eh5.symm) mY_X10_put q_331 (Nat.le_of_ble_eq_true rfl) dX9_append_38 rfl rfl rfl ?_
        refine z_aload_n (q := 42) C dX9_append_41 1 rfl rfl rfl ?_
        refine z_dup (q := 43) C dX9_append_42 rfl rfl ?_
        refine z_getf (q := 46) C clX9 (zon C zo_1) kd_1 (k := 1) (by decide) q_41 rfl (zfv_i kd_1 rfl) dX9_append_43 rfl ?_
        refine z_iconst (q := 47) C dX9_append_46 rfl ?_
        refine z_iadd (q := 48) C dX9_append_47 rfl ?_
        obtain ⟨h6, eh6, hF⟩ := zlet_e hF
        refine z_putf (q := 51) C clX9 (zon C zo_1) kd_1 (k := 1) (x := (h5 1 1) + 1) (by decide) q_41 rfl rfl rfl rfl (((zfv_i kd_1 rfl)).trans (by rw [if_pos rfl])) dX9_append_48 rfl eh6 ?_
        refine z_iinc (q := 54) (x := l2) C dX9_append_51 (j := 3) rfl (by decide) rfl rfl ?_
        refine z_goto (q := 3) C dX9_append_54 (by decide) ?_
        exact z_sub (hK3 _ _ _ hF) [2, 3, 0] rfl
set_option maxRecDepth 20000 in
set_option maxHeartbeats 4000000 in
theorem J_fX9_append_c3 {κ : zT} (C : zC κ RX9 cX9_append 4 none) {d : Nat} (hR : zR κ = zrm (d + 1)) (hd : 2 ≤ d + 1) {N : Nat} {r : zH} (e1 : zrv κ = none) (e2 : zhf κ = r) : ∀ (k : Nat) (l1 : Int) (l2 : Int) (h : zH), fX9_append_c3 N k l1 l2 h = some r → Z κ h 3 [(0, .ref (zα κ 1)), (1, .int (zi l1)), (2, .int (zi l2))] [] := by
  intro k
  induction k with
  | zero => intro l1 l2 h hF; cases hF
  | succ k ih => intro l1 l2 h hF; exact J_fX9_append_c3b C hR hd e1 e2 ih l1 l2 h hF
set_option maxRecDepth 20000 in
set_option maxHeartbeats 4000000 in
theorem J_fX9_append {κ : zT} (C : zC κ RX9 cX9_append 4 none) {d : Nat} (hR : zR κ = zrm (d + 1)) (hd : 2 ≤ d + 1) {N : Nat} {r : zH} (e1 : zrv κ = none) (e2 : zhf κ = r) {a1 : Int} {h : zH} (hF : fX9_append N a1 h = some r) : Z κ h 0 [(0, .ref (zα κ 1)), (1, .int (zi a1))] [] := by
  unfold fX9_append at hF
  refine z_bipush (q := 2) C dX9_append_0 bp_24 rfl ?_
  refine z_istore_n (q := 3) C dX9_append_2 (by decide) rfl rfl rfl ?_
  exact z_sub (J_fX9_append_c3 C hR hd e1 e2 N _ _ _ hF) [1, 2, 0] rfl
set_option maxRecDepth 20000 in
set_option maxHeartbeats 4000000 in
theorem M_fX9_append {l : Launch} {D : va_G} {cy : ClassId} {α : Nat → Nat} {n : Nat} {σ : zSg} {d : Nat} (hd : 2 ≤ d) {N : Nat} {a1 : Int} {h : zH} {g : zH} (hF : fX9_append N a1 h = some g) : zMet l yX9_append cX9_append 4 none (zrm d) D cy α n σ [.ref (α 1), .int (zi a1)] h (none) g := by
  obtain ⟨d, rfl⟩ : ∃ e, d = e + 1 := ⟨d - 1, by omega⟩
  refine z_met (by decide +kernel) (Nat.le_of_ble_eq_true rfl) (fun κ k1 k2 k3 k4 k5 k6 k7 k8 k9 C => ?_)
  subst k1 k3 k4 k5 k6 k7
  exact J_fX9_append C k2 hd k8 k9 hF
set_option maxRecDepth 20000 in
set_option maxHeartbeats 4000000 in
theorem J_fX10_feed {κ : zT} (C : zC κ RX10 cX10_feed 7 (some .int)) {d : Nat} (hR : zR κ = zrm (d + 1)) (hd : 3 ≤ d + 1) {N : Nat} {r : Int × zH} (e1 : zrv κ = some (.int (zi r.1))) (e2 : zhf κ = r.2) {a1 : Int} {a2 : Int} {a3 : Int} {a4 : Int} {a5 : Int} {h : zH} (hF : fX10_feed N a1 a2 a3 a4 a5 h = some r) : Z κ h 0 [(0, .ref (zα κ 0)), (1, .int (zi a1)), (2, .int (zi a2)), (3, .int (zi a3)), (4, .int (zi a4)), (5, .int (zi a5))] [] := by
  unfold fX10_feed at hF
  refine z_iload_n (q := 1) C dX10_feed_0 1 rfl rfl rfl ?_
  obtain ⟨v1, ev1, hF⟩ := zb_e hF
  refine z_callS (q := 4) (av := [.int (zi a1)]) (rest := []) (stk2 := [.int (zi v1)]) C hR (M_fX9_bytesIn (zlv hd rfl) ev1) mY_X9_bytesIn q_324 (Nat.le_of_ble_eq_true rfl) dX10_feed_1 rfl rfl rfl ?_
  refine z_iload_n (q := 5) C dX10_feed_4 2 rfl rfl rfl ?_
  obtain ⟨v2, ev2, hF⟩ := zb_e hF
  refine z_callS (q := 8) (av := [.int (zi a2)]) (rest := [.int (zi v1)]) (stk2 := [.int (zi v2), .int (zi v1)]) C hR (M_fX9_bytesIn (zlv hd rfl) ev2) mY_X9_bytesIn q_324 (Nat.le_of_ble_eq_true rfl) dX10_feed_5 rfl rfl rfl ?_
  refine z_iadd (q := 9) C dX10_feed_8 rfl ?_
  refine z_iload_n (q := 10) C dX10_feed_9 3 rfl rfl rfl ?_
  obtain ⟨v3, ev3, hF⟩ := zb_e hF
  refine z_callS (q := 13) (av := [.int (zi a3)]) (rest := [.int (zi (v1 + v2))]) (stk2 := [.int (zi v3), .int (zi (v1 + v2))]) C hR (M_fX9_bytesIn (zlv hd rfl) ev3) mY_X9_bytesIn q_324 (Nat.le_of_ble_eq_true rfl) dX10_feed_10 rfl rfl rfl ?_
  refine z_iadd (q := 14) C dX10_feed_13 rfl ?_
  refine z_iload (q := 16) C dX10_feed_14 4 rfl rfl ?_
  obtain ⟨v4, ev4, hF⟩ := zb_e hF
  refine z_callS (q := 19) (av := [.int (zi a4)]) (rest := [.int (zi ((v1 + v2) + v3))]) (stk2 := [.int (zi v4), .int (zi ((v1 + v2) + v3))]) C hR (M_fX9_bytesIn (zlv hd rfl) ev4) mY_X9_bytesIn q_324 (Nat.le_of_ble_eq_true rfl) dX10_feed_16 rfl rfl rfl ?_
  refine z_iadd (q := 20) C dX10_feed_19 rfl ?_
  refine z_iload (q := 22) C dX10_feed_20 5 rfl rfl ?_
  obtain ⟨v5, ev5, hF⟩ := zb_e hF
  refine z_callS (q := 25) (av := [.int (zi a5)]) (rest := [.int (zi (((v1 + v2) + v3) + v4))]) (stk2 := [.int (zi v5), .int (zi (((v1 + v2) + v3) + v4))]) C hR (M_fX9_bytesIn (zlv hd rfl) ev5) mY_X9_bytesIn q_324 (Nat.le_of_ble_eq_true rfl) dX10_feed_22 rfl rfl rfl ?_
  refine z_iadd (q := 26) C dX10_feed_25 rfl ?_
  obtain ⟨v6, ev6, hF⟩ := zlet_e hF
  refine z_istoreE (q := 28) C ev6 dX10_feed_26 (by decide) rfl rfl ?_
  refine z_aload_n (q := 29) C dX10_feed_28 1 rfl rfl rfl ?_
  refine z_getf (q := 32) C clX10 (zon C zo_0) kd_0 (k := 0) (by decide) q_271 rfl (zfv_r kd_0 rfl fr_0_0) dX10_feed_29 rfl ?_
  refine z_getf (q := 35) C clX9 (zon C zo_1) kd_1 (k := 1) (by decide) q_40 rfl (zfv_i kd_1 rfl) dX10_feed_32 rfl ?_
  refine z_iload (q := 37) C dX10_feed_35 0 rfl rfl ?_
  refine z_iadd (q := 38) C dX10_feed_37 rfl ?_
  refine z_sipush (q := 41) C dX10_feed_38 sp_240 rfl ?_
  refine z_icmp_le (tgt := 46) (q := 44) C dX10_feed_41 (by decide) rfl (fun c7 => ?_) (fun c7 => ?_)
  · have hF := (if_pos c7).symm.trans hF
    refine z_aload_n (q := 47) C dX10_feed_46 1 rfl rfl rfl ?_
    refine z_getf (q := 50) C clX10 (zon C zo_0) kd_0 (k := 0) (by decide) q_271 rfl (zfv_r kd_0 rfl fr_0_0) dX10_feed_47 rfl ?_
    refine z_iload_n (q := 51) C dX10_feed_50 2 rfl rfl rfl ?_
    obtain ⟨h8, eh8, hF⟩ := zb_e hF
    refine z_callV (q := 54) (o := 1) (av := [.int (zi a1)]) (rest := []) (stk2 := []) C hR clX9 (zon C zo_1) kd_1 (M_fX9_append (zlv hd rfl) eh8) mY_X9_append q_327 (Nat.le_of_ble_eq_true rfl) dX10_feed_51 rfl rfl rfl ?_
    refine z_aload_n (q := 55) C dX10_feed_54 1 rfl rfl rfl ?_
    refine z_getf (q := 58) C clX10 (zon C zo_0) kd_0 (k := 0) (by decide) q_271 rfl (zfv_r kd_0 rfl fr_0_0) dX10_feed_55 rfl ?_
    refine z_iload_n (q := 59) C dX10_feed_58 3 rfl rfl rfl ?_
    obtain ⟨h9, eh9, hF⟩ := zb_e hF
    refine z_callV (q := 62) (o := 1) (av := [.int (zi a2)]) (rest := []) (stk2 := []) C hR clX9 (zon C zo_1) kd_1 (M_fX9_append (zlv hd rfl) eh9) mY_X9_append q_327 (Nat.le_of_ble_eq_true rfl) dX10_feed_59 rfl rfl rfl ?_
    refine z_aload_n (q := 63) C dX10_feed_62 1 rfl rfl rfl ?_
    refine z_getf (q := 66) C clX10 (zon C zo_0) kd_0 (k := 0) (by decide) q_271 rfl (zfv_r kd_0 rfl fr_0_0) dX10_feed_63 rfl ?_
    refine z_iload_n (q := 67) C dX10_feed_66 4 rfl rfl rfl ?_
    obtain ⟨h10, eh10, hF⟩ := zb_e hF
    refine z_callV (q := 70) (o := 1) (av := [.int (zi a3)]) (rest := []) (stk2 := []) C hR clX9 (zon C zo_1) kd_1 (M_fX9_append (zlv hd rfl) eh10) mY_X9_append q_327 (Nat.le_of_ble_eq_true rfl) dX10_feed_67 rfl rfl rfl ?_
    refine z_aload_n (q := 71) C dX10_feed_70 1 rfl rfl rfl ?_
    refine z_getf (q := 74) C clX10 (zon C zo_0) kd_0 (k := 0) (by decide) q_271 rfl (zfv_r kd_0 rfl fr_0_0) dX10_feed_71 rfl ?_
    refine z_iload (q := 76) C dX10_feed_74 5 rfl rfl ?_
    obtain ⟨h11, eh11, hF⟩ := zb_e hF
    refine z_callV (q := 79) (o := 1) (av := [.int (zi a4)]) (rest := []) (stk2 := []) C hR clX9 (zon C zo_1) kd_1 (M_fX9_append (zlv hd rfl) eh11) mY_X9_append q_327 (Nat.le_of_ble_eq_true rfl) dX10_feed_76 rfl rfl rfl ?_
    refine z_aload_n (q := 80) C dX10_feed_79 1 rfl rfl rfl ?_
    refine z_getf (q := 83) C clX10 (zon C zo_0) kd_0 (k := 0) (by decide) q_271 rfl (zfv_r kd_0 rfl fr_0_0) dX10_feed_80 rfl ?_
    refine z_iload (q := 85) C dX10_feed_83 6 rfl rfl ?_
    obtain ⟨h12, eh12, hF⟩ := zb_e hF
    refine z_callV (q := 88) (o := 1) (av := [.int (zi a5)]) (rest := []) (stk2 := []) C hR clX9 (zon C zo_1) kd_1 (M_fX9_append (zlv hd rfl) eh12) mY_X9_append q_327 (Nat.le_of_ble_eq_true rfl) dX10_feed_85 rfl rfl rfl ?_
    refine z_aload_n (q := 89) C dX10_feed_88 1 rfl rfl rfl ?_
    refine z_getf (q := 92) C clX10 (zon C zo_0) kd_0 (k := 0) (by decide) q_271 rfl (zfv_r kd_0 rfl fr_0_0) dX10_feed_89 rfl ?_
    refine z_getf (q := 95) C clX9 (zon C zo_1) kd_1 (k := 1) (by decide) q_40 rfl (zfv_i kd_1 rfl) dX10_feed_92 rfl ?_
    have hF := Option.some.inj hF
    subst hF
    exact z_iret C e1 e2 dX10_feed_95
  · have hF := (if_neg c7).symm.trans hF
    refine z_iconst (q := 45) C dX10_feed_44 rfl ?_
    have hF := Option.some.inj hF
    subst hF
    exact z_iret C e1 e2 dX10_feed_45
set_option maxRecDepth 20000 in
set_option maxHeartbeats 4000000 in
theorem M_fX10_feed {l : Launch} {D : va_G} {cy : ClassId} {α : Nat → Nat} {n : Nat} {σ : zSg} {d : Nat} (hd : 3 ≤ d) {N : Nat} {a1 : Int} {a2 : Int} {a3 : Int} {a4 : Int} {a5 : Int} {h : zH} {r : Int} {g : zH} (hF : fX10_feed N a1 a2 a3 a4 a5 h = some (r, g)) : zMet l yX10_feed cX10_feed 7 (some .int) (zrm d) D cy α n σ [.ref (α 0), .int (zi a1), .int (zi a2), .int (zi a3), .int (zi a4), .int (zi a5)] h (some (.int (zi r))) g := by
  obtain ⟨d, rfl⟩ : ∃ e, d = e + 1 := ⟨d - 1, by omega⟩
  refine z_met (by decide +kernel) (Nat.le_of_ble_eq_true rfl) (fun κ k1 k2 k3 k4 k5 k6 k7 k8 k9 C => ?_)
  subst k1 k3 k4 k5 k6 k7
  exact J_fX10_feed C k2 hd k8 k9 hF
set_option maxRecDepth 20000 in
set_option maxHeartbeats 4000000 in
theorem J_fX10_end {κ : zT} (C : zC κ RX10 cX10_end 2 (some .boolean)) {d : Nat} (hR : zR κ = zrm (d + 1)) (hd : 1 ≤ d + 1) {r : Int × zH} (e1 : zrv κ = some (.int (zi r.1))) (e2 : zhf κ = r.2) {a1 : Int} {h : zH} (hF : fX10_end a1 h = r) : Z κ h 0 [(0, .ref (zα κ 0)), (1, .int (zi a1))] [] := by
  unfold fX10_end at hF
  refine z_iload_n (q := 1) C dX10_end_0 1 rfl rfl rfl ?_
  refine z_if_lt (tgt := 15) (q := 4) C dX10_end_1 (by decide) rfl (fun c1 => ?_) (fun c1 => ?_)
  · have hF := (if_pos c1).symm.trans hF
    refine z_iconst (q := 16) C dX10_end_15 rfl ?_
    subst hF
    exact z_zret C (zb01 (Or.inl rfl)) e1 e2 dX10_end_16
  · have hF := (if_neg c1).symm.trans hF
    refine z_iload_n (q := 5) C dX10_end_4 1 rfl rfl rfl ?_
    refine z_aload_n (q := 6) C dX10_end_5 0 rfl rfl rfl ?_
    refine z_getf (q := 9) C clX10 (zon C zo_0) kd_0 (k := 0) (by decide) q_271 rfl (zfv_r kd_0 rfl fr_0_0) dX10_end_6 rfl ?_
    refine z_getf (q := 12) C clX9 (zon C zo_1) kd_1 (k := 1) (by decide) q_40 rfl (zfv_i kd_1 rfl) dX10_end_9 rfl ?_
    refine z_icmp_le (tgt := 17) (q := 15) C dX10_end_12 (by decide) rfl (fun c2 => ?_) (fun c2 => ?_)
    · have hF := (if_pos c2).symm.trans hF
      refine z_aload_n (q := 18) C dX10_end_17 0 rfl rfl rfl ?_
      refine z_getf (q := 21) C clX10 (zon C zo_0) kd_0 (k := 0) (by decide) q_271 rfl (zfv_r kd_0 rfl fr_0_0) dX10_end_18 rfl ?_
      refine z_iload_n (q := 22) C dX10_end_21 1 rfl rfl rfl ?_
      obtain ⟨h3, eh3, hF⟩ := zlet_e hF
      refine z_putf (q := 25) C clX9 (zon C zo_1) kd_1 (k := 1) (x := a1) (by decide) q_40 rfl rfl rfl rfl (((zfv_i kd_1 rfl)).trans (by rw [if_pos rfl])) dX10_end_22 rfl eh3 ?_
      refine z_iconst (q := 26) C dX10_end_25 rfl ?_
      subst hF
      exact z_zret C (zb01 (Or.inr rfl)) e1 e2 dX10_end_26
    · have hF := (if_neg c2).symm.trans hF
      refine z_iconst (q := 16) C dX10_end_15 rfl ?_
      subst hF
      exact z_zret C (zb01 (Or.inl rfl)) e1 e2 dX10_end_16
set_option maxRecDepth 20000 in
set_option maxHeartbeats 4000000 in
theorem M_fX10_end {l : Launch} {D : va_G} {cy : ClassId} {α : Nat → Nat} {n : Nat} {σ : zSg} {d : Nat} (hd : 1 ≤ d) {a1 : Int} {h : zH} {r : Int} {g : zH} (hF : fX10_end a1 h = (r, g)) : zMet l yX10_end cX10_end 2 (some .boolean) (zrm d) D cy α n σ [.ref (α 0), .int (zi a1)] h (some (.int (zi r))) g := by
  obtain ⟨d, rfl⟩ : ∃ e, d = e + 1 := ⟨d - 1, by omega⟩
  refine z_met (by decide +kernel) (Nat.le_of_ble_eq_true rfl) (fun κ k1 k2 k3 k4 k5 k6 k7 k8 k9 C => ?_)
  subst k1 k3 k4 k5 k6 k7
  exact J_fX10_end C k2 hd k8 k9 hF
set_option maxRecDepth 20000 in
set_option maxHeartbeats 4000000 in
theorem J_fX9_rewind {κ : zT} (C : zC κ RX9 cX9_rewind 1 none) {d : Nat} (hR : zR κ = zrm (d + 1)) (hd : 1 ≤ d + 1) {r : zH} (e1 : zrv κ = none) (e2 : zhf κ = r) {h : zH} (hF : fX9_rewind h = r) : Z κ h 0 [(0, .ref (zα κ 1))] [] := by
  unfold fX9_rewind at hF
  refine z_aload_n (q := 1) C dX9_rewind_0 0 rfl rfl rfl ?_
  refine z_iconst (q := 2) C dX9_rewind_1 rfl ?_
  obtain ⟨h1, eh1, hF⟩ := zlet_e hF
  refine z_putf (q := 5) C clX9 (zon C zo_1) kd_1 (k := 2) (x := 0) (by decide) q_45 rfl rfl rfl rfl (((zfv_i kd_1 rfl)).trans (by rw [if_pos rfl])) dX9_rewind_2 rfl eh1 ?_
  refine z_aload_n (q := 6) C dX9_rewind_5 0 rfl rfl rfl ?_
  refine z_iconst (q := 7) C dX9_rewind_6 rfl ?_
  obtain ⟨h2, eh2, hF⟩ := zlet_e hF
  refine z_putf (q := 10) C clX9 (zon C zo_1) kd_1 (k := 3) (x := (-1)) (by decide) q_47 rfl rfl rfl rfl (((zfv_i kd_1 rfl)).trans (by rw [if_pos rfl])) dX9_rewind_7 rfl eh2 ?_
  subst hF
  exact z_vret C e1 e2 dX9_rewind_10
set_option maxRecDepth 20000 in
set_option maxHeartbeats 4000000 in
theorem M_fX9_rewind {l : Launch} {D : va_G} {cy : ClassId} {α : Nat → Nat} {n : Nat} {σ : zSg} {d : Nat} (hd : 1 ≤ d) {h : zH} {g : zH} (hF : fX9_rewind h = g) : zMet l yX9_rewind cX9_rewind 1 none (zrm d) D cy α n σ [.ref (α 1)] h (none) g := by
  obtain ⟨d, rfl⟩ : ∃ e, d = e + 1 := ⟨d - 1, by omega⟩
  refine z_met (by decide +kernel) (Nat.le_of_ble_eq_true rfl) (fun κ k1 k2 k3 k4 k5 k6 k7 k8 k9 C => ?_)
  subst k1 k3 k4 k5 k6 k7
  exact J_fX9_rewind C k2 hd k8 k9 hF
set_option maxRecDepth 20000 in
set_option maxHeartbeats 4000000 in
theorem J_fJ7_fill_53178_c5b {κ : zT} (C : zC κ RJ7 cJ7_fill_53178 4 none) {d : Nat} (hR : zR κ = zrm (d + 1)) (hd : 1 ≤ d + 1) {N : Nat} {o0 : Nat} (ho0 : o0 < zN) (hd0 : zkd o0 = 100) {r : zH} (e1 : zrv κ = none) (e2 : zhf κ = r) {K5 : Int → Int → Int → zH → Option zH} (hK5 : ∀ (l1 : Int) (l2 : Int) (l3 : Int) (h : zH), K5 l1 l2 l3 h = some r → Z κ h 5 [(0, .ref (zα κ o0)), (1, .int (zi l1)), (2, .int (zi l2)), (3, .int (zi l3))] []) (l1 : Int) (l2 : Int) (l3 : Int) (h : zH) (hF : fJ7_fill_53178_c5b N o0 K5 l1 l2 l3 h = some r) : Z κ h 5 [(0, .ref (zα κ o0)), (1, .int (zi l1)), (2, .int (zi l2)), (3, .int (zi l3))] [] := by
  unfold fJ7_fill_53178_c5b at hF
  refine z_iload_n (q := 6) C dJ7_fill_53178_5 2 rfl rfl rfl ?_
  refine z_iload_n (q := 7) C dJ7_fill_53178_6 3 rfl rfl rfl ?_
  refine z_icmp_ge (tgt := 20) (q := 10) C dJ7_fill_53178_7 (by decide) rfl (fun c1 => ?_) (fun c1 => ?_)
  · have hF := (if_pos c1).symm.trans hF
    have hF := Option.some.inj hF
    subst hF
    exact z_vret C e1 e2 dJ7_fill_53178_20
  · have hF := (if_neg c1).symm.trans hF
    refine z_aload_n (q := 11) C dJ7_fill_53178_10 0 rfl rfl rfl ?_
    refine z_iload_n (q := 12) C dJ7_fill_53178_11 2 rfl rfl rfl ?_
    refine z_iload_n (q := 13) C dJ7_fill_53178_12 1 rfl rfl rfl ?_
    obtain ⟨g2, hF⟩ := zif_none hF
    obtain ⟨h3, eh3, hF⟩ := zlet_e hF
    refine z_iast (q := 14) C (zon C ho0) hd0 g2.1 g2.2 dJ7_fill_53178_13 rfl eh3 ?_
    refine z_iinc (q := 17) (x := l2) C dJ7_fill_53178_14 (j := 2) rfl (by decide) rfl rfl ?_
    refine z_goto (q := 5) C dJ7_fill_53178_17 (by decide) ?_
    exact z_sub (hK5 _ _ _ _ hF) [1, 2, 0, 3] rfl
set_option maxRecDepth 20000 in
set_option maxHeartbeats 4000000 in
theorem J_fJ7_fill_53178_c5 {κ : zT} (C : zC κ RJ7 cJ7_fill_53178 4 none) {d : Nat} (hR : zR κ = zrm (d + 1)) (hd : 1 ≤ d + 1) {N : Nat} {o0 : Nat} (ho0 : o0 < zN) (hd0 : zkd o0 = 100) {r : zH} (e1 : zrv κ = none) (e2 : zhf κ = r) : ∀ (k : Nat) (l1 : Int) (l2 : Int) (l3 : Int) (h : zH), fJ7_fill_53178_c5 N o0 k l1 l2 l3 h = some r → Z κ h 5 [(0, .ref (zα κ o0)), (1, .int (zi l1)), (2, .int (zi l2)), (3, .int (zi l3))] [] := by
  intro k
  induction k with
  | zero => intro l1 l2 l3 h hF; cases hF
  | succ k ih => intro l1 l2 l3 h hF; exact J_fJ7_fill_53178_c5b C hR hd ho0 hd0 e1 e2 ih l1 l2 l3 h hF
set_option maxRecDepth 20000 in
set_option maxHeartbeats 4000000 in
theorem J_fJ7_fill_53178 {κ : zT} (C : zC κ RJ7 cJ7_fill_53178 4 none) {d : Nat} (hR : zR κ = zrm (d + 1)) (hd : 1 ≤ d + 1) {N : Nat} {o0 : Nat} (ho0 : o0 < zN) (hd0 : zkd o0 = 100) {r : zH} (e1 : zrv κ = none) (e2 : zhf κ = r) {a1 : Int} {h : zH} (hF : fJ7_fill_53178 N o0 a1 h = some r) : Z κ h 0 [(0, .ref (zα κ o0)), (1, .int (zi a1))] [] := by
  unfold fJ7_fill_53178 at hF
  refine z_iconst (q := 1) C dJ7_fill_53178_0 rfl ?_
  refine z_istore_n (q := 2) C dJ7_fill_53178_1 (by decide) rfl rfl rfl ?_
  refine z_aload_n (q := 3) C dJ7_fill_53178_2 1 rfl rfl rfl ?_
  refine z_alen (q := 4) C (zon C ho0) hd0 dJ7_fill_53178_3 rfl ?_
  refine z_istore_n (q := 5) C dJ7_fill_53178_4 (by decide) rfl rfl rfl ?_
  exact z_sub (J_fJ7_fill_53178_c5 C hR hd ho0 hd0 e1 e2 N _ _ _ _ hF) [2, 3, 1, 0] rfl
set_option maxRecDepth 20000 in
set_option maxHeartbeats 4000000 in
theorem M_fJ7_fill_53178 {l : Launch} {D : va_G} {cy : ClassId} {α : Nat → Nat} {n : Nat} {σ : zSg} {d : Nat} (hd : 1 ≤ d) {N : Nat} {o0 : Nat} (ho0 : o0 < zN) (hd0 : zkd o0 = 100) {a1 : Int} {h : zH} {g : zH} (hF : fJ7_fill_53178 N o0 a1 h = some g) : zMet l yJ7_fill_53178 cJ7_fill_53178 4 none (zrm d) D cy α n σ [.ref (α o0), .int (zi a1)] h (none) g := by
  obtain ⟨d, rfl⟩ : ∃ e, d = e + 1 := ⟨d - 1, by omega⟩
  refine z_met (by decide +kernel) (Nat.le_of_ble_eq_true rfl) (fun κ k1 k2 k3 k4 k5 k6 k7 k8 k9 C => ?_)
  subst k1 k3 k4 k5 k6 k7
  exact J_fJ7_fill_53178 C k2 hd ho0 hd0 k8 k9 hF
set_option maxRecDepth 20000 in
set_option maxHeartbeats 4000000 in
theorem J_fX1_cellOf {κ : zT} (C : zC κ RX1 cX1_cellOf 3 (some .int)) {d : Nat} (hR : zR κ = zrm (d + 1)) (hd : 1 ≤ d + 1) {h : zH} {r : Int} (e1 : zrv κ = some (.int (zi r))) (e2 : zhf κ = h) {a0 : Int} {a1 : Int} {a2 : Int} (hF : fX1_cellOf a0 a1 a2 = r) : Z κ h 0 [(0, .int (zi a0)), (1, .int (zi a1)), (2, .int (zi a2))] [] := by
  unfold fX1_cellOf at hF
  refine z_iload_n (q := 1) C dX1_cellOf_0 0 rfl rfl rfl ?_
  refine z_bipush (q := 3) C dX1_cellOf_1 bp_8 rfl ?_
  refine z_imul (q := 4) C dX1_cellOf_3 rfl ?_
  refine z_iload_n (q := 5) C dX1_cellOf_4 1 rfl rfl rfl ?_
  refine z_iadd (q := 6) C dX1_cellOf_5 rfl ?_
  refine z_iconst (q := 7) C dX1_cellOf_6 rfl ?_
  refine z_imul (q := 8) C dX1_cellOf_7 rfl ?_
  refine z_iload_n (q := 9) C dX1_cellOf_8 2 rfl rfl rfl ?_
  refine z_iadd (q := 10) C dX1_cellOf_9 rfl ?_
  subst hF
  exact z_iret C e1 e2 dX1_cellOf_10
set_option maxRecDepth 20000 in
set_option maxHeartbeats 4000000 in
theorem M_fX1_cellOf {l : Launch} {D : va_G} {cy : ClassId} {α : Nat → Nat} {n : Nat} {σ : zSg} {d : Nat} (hd : 1 ≤ d) {a0 : Int} {a1 : Int} {a2 : Int} {h : zH} {r : Int} (hF : fX1_cellOf a0 a1 a2 = r) : zMet l yX1_cellOf cX1_cellOf 3 (some .int) (zrm d) D cy α n σ [.int (zi a0), .int (zi a1), .int (zi a2)] h (some (.int (zi r))) h := by
  obtain ⟨d, rfl⟩ : ∃ e, d = e + 1 := ⟨d - 1, by omega⟩
  refine z_met (by decide +kernel) (Nat.le_of_ble_eq_true rfl) (fun κ k1 k2 k3 k4 k5 k6 k7 k8 k9 C => ?_)
  subst k1 k3 k4 k5 k6 k7
  exact J_fX1_cellOf C k2 hd k8 k9 hF
set_option maxRecDepth 20000 in
set_option maxHeartbeats 4000000 in
theorem J_fX10_at {κ : zT} (C : zC κ RX10 cX10_at 2 (some .int)) {d : Nat} (hR : zR κ = zrm (d + 1)) (hd : 1 ≤ d + 1) {o0 : Nat} (ho0 : o0 < zN) (hd0 : zkd o0 = 100) {h : zH} {r : Int} (e1 : zrv κ = some (.int (zi r))) (e2 : zhf κ = h) {a1 : Int} (hF : fX10_at o0 a1 h = r) : Z κ h 0 [(0, .ref (zα κ o0)), (1, .int (zi a1))] [] := by
  unfold fX10_at at hF
  refine z_iload_n (q := 1) C dX10_at_0 1 rfl rfl rfl ?_
  refine z_if_lt (tgt := 16) (q := 4) C dX10_at_1 (by decide) rfl (fun c1 => ?_) (fun c1 => ?_)
  · have hF := (if_pos c1).symm.trans hF
    refine z_iconst (q := 17) C dX10_at_16 rfl ?_
    subst hF
    exact z_iret C e1 e2 dX10_at_17
  · have hF := (if_neg c1).symm.trans hF
    refine z_iload_n (q := 5) C dX10_at_4 1 rfl rfl rfl ?_
    refine z_aload_n (q := 6) C dX10_at_5 0 rfl rfl rfl ?_
    refine z_alen (q := 7) C (zon C ho0) hd0 dX10_at_6 rfl ?_
    refine z_icmp_ge (tgt := 16) (q := 10) C dX10_at_7 (by decide) rfl (fun c2 => ?_) (fun c2 => ?_)
    · have hF := (if_pos c2).symm.trans hF
      refine z_iconst (q := 17) C dX10_at_16 rfl ?_
      subst hF
      exact z_iret C e1 e2 dX10_at_17
    · have hF := (if_neg c2).symm.trans hF
      refine z_aload_n (q := 11) C dX10_at_10 0 rfl rfl rfl ?_
      refine z_iload_n (q := 12) C dX10_at_11 1 rfl rfl rfl ?_
      refine z_iald (q := 13) C (zon C ho0) hd0 (by omega) (by have := zlnw o0; omega) dX10_at_12 rfl ?_
      refine z_goto (q := 17) C dX10_at_13 (by decide) ?_
      subst hF
      exact z_iret C e1 e2 dX10_at_17
set_option maxRecDepth 20000 in
set_option maxHeartbeats 4000000 in
theorem M_fX10_at {l : Launch} {D : va_G} {cy : ClassId} {α : Nat → Nat} {n : Nat} {σ : zSg} {d : Nat} (hd : 1 ≤ d) {o0 : Nat} (ho0 : o0 < zN) (hd0 : zkd o0 = 100) {a1 : Int} {h : zH} {r : Int} (hF : fX10_at o0 a1 h = r) : zMet l yX10_at cX10_at 2 (some .int) (zrm d) D cy α n σ [.ref (α o0), .int (zi a1)] h (some (.int (zi r))) h := by
  obtain ⟨d, rfl⟩ : ∃ e, d = e + 1 := ⟨d - 1, by omega⟩
  refine z_met (by decide +kernel) (Nat.le_of_ble_eq_true rfl) (fun κ k1 k2 k3 k4 k5 k6 k7 k8 k9 C => ?_)
  subst k1 k3 k4 k5 k6 k7
  exact J_fX10_at C k2 hd ho0 hd0 k8 k9 hF
set_option maxRecDepth 20000 in
set_option maxHeartbeats 4000000 in
theorem J_fX1_useUntold_c2b {κ : zT} (C : zC κ RX1 cX1_useUntold 4 none) {d : Nat} (hR : zR κ = zrm (d + 1)) (hd : 2 ≤ d + 1) {N : Nat} {o0 : Nat} (ho0 : o0 < zN) (hd0 : zkd o0 = 1) {r : zH} (e1 : zrv κ = none) (e2 : zhf κ = r) {K2 : Int → Int → Int → zH → Option zH} (hK2 : ∀ (l1 : Int) (l2 : Int) (l3 : Int) (h : zH), K2 l1 l2 l3 h = some r → Z κ h 2 [(0, .ref (zα κ o0)), (1, .int (zi l1)), (2, .int (zi l2)), (3, .int (zi l3))] []) (l1 : Int) (l2 : Int) (l3 : Int) (h : zH) (hF : fX1_useUntold_c2b N o0 K2 l1 l2 l3 h = some r) : Z κ h 2 [(0, .ref (zα κ o0)), (1, .int (zi l1)), (2, .int (zi l2)), (3, .int (zi l3))] [] := by
  unfold fX1_useUntold_c2b at hF
  refine z_iload_n (q := 3) C dX1_useUntold_2 3 rfl rfl rfl ?_
  refine z_iconst (q := 4) C dX1_useUntold_3 rfl ?_
  refine z_icmp_ge (tgt := 37) (q := 7) C dX1_useUntold_4 (by decide) rfl (fun c1 => ?_) (fun c1 => ?_)
  · have hF := (if_pos c1).symm.trans hF
    have hF := Option.some.inj hF
    subst hF
    exact z_vret C e1 e2 dX1_useUntold_37
  · have hF := (if_neg c1).symm.trans hF
    refine z_aload_n (q := 8) C dX1_useUntold_7 0 rfl rfl rfl ?_
    refine z_getf (q := 11) C clX1 (zon C ho0) hd0 (k := 0) (by decide) q_66 rfl (zfv_r hd0 rfl rfl) dX1_useUntold_8 rfl ?_
    refine z_iload_n (q := 12) C dX1_useUntold_11 1 rfl rfl rfl ?_
    refine z_iload_n (q := 13) C dX1_useUntold_12 2 rfl rfl rfl ?_
    refine z_iload_n (q := 14) C dX1_useUntold_13 3 rfl rfl rfl ?_
    refine z_callS (q := 17) (av := [.int (zi l1), .int (zi l2), .int (zi l3)]) (rest := [.ref (zα κ (zfr o0 0))]) (stk2 := [.int (zi (fX1_cellOf l1 l2 l3)), .ref (zα κ (zfr o0 0))]) C hR (M_fX1_cellOf (zlv hd rfl) rfl) mY_X1_cellOf q_357 (Nat.le_of_ble_eq_true rfl) dX1_useUntold_14 rfl rfl rfl ?_
    refine z_gets (q := 20) (i := 0) C (by decide) q_360 dX1_useUntold_17 rfl ?_
    refine z_iload_n (q := 21) C dX1_useUntold_20 1 rfl rfl rfl ?_
    refine z_iconst (q := 22) C dX1_useUntold_21 rfl ?_
    refine z_imul (q := 23) C dX1_useUntold_22 rfl ?_
    refine z_iload_n (q := 24) C dX1_useUntold_23 3 rfl rfl rfl ?_
    refine z_iadd (q := 25) C dX1_useUntold_24 rfl ?_
    refine z_callSN (q := 28) (av := [.ref ((zσ κ).1 0), .int (zi ((l1 * 4) + l3))]) (rest := [.int (zi (fX1_cellOf l1 l2 l3)), .ref (zα κ (zfr o0 0))]) (stk2 := [.int (zi (zats 0 ((l1 * 4) + l3))), .int (zi (fX1_cellOf l1 l2 l3)), .ref (zα κ (zfr o0 0))]) C hR (M_zats (zlv hd rfl) (by decide)) mY_X10_at q_362 (Nat.le_of_ble_eq_true rfl) dX1_useUntold_25 rfl rfl rfl ?_
    obtain ⟨h2, eh2, hF⟩ := zlet_e hF
    refine z_callSN (q := 31) (av := [.ref (zα κ (zfr o0 0)), .int (zi (fX1_cellOf l1 l2 l3)), .int (zi (zats 0 ((l1 * 4) + l3)))]) (rest := []) (stk2 := []) C hR (M_fX10_put (zlv hd rfl) (frl_1_0 ho0 hd0) (frk_1_0 ho0 hd0) eh2.symm) mY_X10_put q_365 (Nat.le_of_ble_eq_true rfl) dX1_useUntold_28 rfl rfl rfl ?_
    refine z_iinc (q := 34) (x := l3) C dX1_useUntold_31 (j := 3) rfl (by decide) rfl rfl ?_
    refine z_goto (q := 2) C dX1_useUntold_34 (by decide) ?_
    exact z_sub (hK2 _ _ _ _ hF) [1, 2, 3, 0] rfl
set_option maxRecDepth 20000 in
set_option maxHeartbeats 4000000 in
theorem J_fX1_useUntold_c2 {κ : zT} (C : zC κ RX1 cX1_useUntold 4 none) {d : Nat} (hR : zR κ = zrm (d + 1)) (hd : 2 ≤ d + 1) {N : Nat} {o0 : Nat} (ho0 : o0 < zN) (hd0 : zkd o0 = 1) {r : zH} (e1 : zrv κ = none) (e2 : zhf κ = r) : ∀ (k : Nat) (l1 : Int) (l2 : Int) (l3 : Int) (h : zH), fX1_useUntold_c2 N o0 k l1 l2 l3 h = some r → Z κ h 2 [(0, .ref (zα κ o0)), (1, .int (zi l1)), (2, .int (zi l2)), (3, .int (zi l3))] [] := by
  intro k
  induction k with
  | zero => intro l1 l2 l3 h hF; cases hF
  | succ k ih => intro l1 l2 l3 h hF; exact J_fX1_useUntold_c2b C hR hd ho0 hd0 e1 e2 ih l1 l2 l3 h hF
set_option maxRecDepth 20000 in
set_option maxHeartbeats 4000000 in
theorem J_fX1_useUntold {κ : zT} (C : zC κ RX1 cX1_useUntold 4 none) {d : Nat} (hR : zR κ = zrm (d + 1)) (hd : 2 ≤ d + 1) {N : Nat} {o0 : Nat} (ho0 : o0 < zN) (hd0 : zkd o0 = 1) {r : zH} (e1 : zrv κ = none) (e2 : zhf κ = r) {a1 : Int} {a2 : Int} {h : zH} (hF : fX1_useUntold N o0 a1 a2 h = some r) : Z κ h 0 [(0, .ref (zα κ o0)), (1, .int (zi a1)), (2, .int (zi a2))] [] := by
  unfold fX1_useUntold at hF
  refine z_iconst (q := 1) C dX1_useUntold_0 rfl ?_
  refine z_istore_n (q := 2) C dX1_useUntold_1 (by decide) rfl rfl rfl ?_
  exact z_sub (J_fX1_useUntold_c2 C hR hd ho0 hd0 e1 e2 N _ _ _ _ hF) [1, 2, 3, 0] rfl
set_option maxRecDepth 20000 in
set_option maxHeartbeats 4000000 in
theorem M_fX1_useUntold {l : Launch} {D : va_G} {cy : ClassId} {α : Nat → Nat} {n : Nat} {σ : zSg} {d : Nat} (hd : 2 ≤ d) {N : Nat} {o0 : Nat} (ho0 : o0 < zN) (hd0 : zkd o0 = 1) {a1 : Int} {a2 : Int} {h : zH} {g : zH} (hF : fX1_useUntold N o0 a1 a2 h = some g) : zMet l yX1_useUntold cX1_useUntold 4 none (zrm d) D cy α n σ [.ref (α o0), .int (zi a1), .int (zi a2)] h (none) g := by
  obtain ⟨d, rfl⟩ : ∃ e, d = e + 1 := ⟨d - 1, by omega⟩
  refine z_met (by decide +kernel) (Nat.le_of_ble_eq_true rfl) (fun κ k1 k2 k3 k4 k5 k6 k7 k8 k9 C => ?_)
  subst k1 k3 k4 k5 k6 k7
  exact J_fX1_useUntold C k2 hd ho0 hd0 k8 k9 hF
set_option maxRecDepth 20000 in
set_option maxHeartbeats 4000000 in
theorem J_fX9_next_c0b {κ : zT} (C : zC κ RX9 cX9_next 1 (some .int)) {d : Nat} (hR : zR κ = zrm (d + 1)) (hd : 2 ≤ d + 1) {N : Nat} {r : Int × zH} (e1 : zrv κ = some (.int (zi r.1))) (e2 : zhf κ = r.2) {K0 : zH → Option (Int × zH)} (hK0 : ∀ (h : zH), K0 h = some r → Z κ h 0 [(0, .ref (zα κ 1))] []) (h : zH) (hF : fX9_next_c0b N K0 h = some r) : Z κ h 0 [(0, .ref (zα κ 1))] [] := by
  unfold fX9_next_c0b at hF
  refine z_aload_n (q := 1) C dX9_next_0 0 rfl rfl rfl ?_
  refine z_getf (q := 4) C clX9 (zon C zo_1) kd_1 (k := 2) (by decide) q_45 rfl (zfv_i kd_1 rfl) dX9_next_1 rfl ?_
  refine z_aload_n (q := 5) C dX9_next_4 0 rfl rfl rfl ?_
  refine z_getf (q := 8) C clX9 (zon C zo_1) kd_1 (k := 1) (by decide) q_41 rfl (zfv_i kd_1 rfl) dX9_next_5 rfl ?_
  refine z_icmp_ge (tgt := 40) (q := 11) C dX9_next_8 (by decide) rfl (fun c1 => ?_) (fun c1 => ?_)
  · have hF := (if_pos c1).symm.trans hF
    refine z_aload_n (q := 41) C dX9_next_40 0 rfl rfl rfl ?_
    refine z_getf (q := 44) C clX9 (zon C zo_1) kd_1 (k := 3) (by decide) q_47 rfl (zfv_i kd_1 rfl) dX9_next_41 rfl ?_
    refine z_iconst (q := 45) C dX9_next_44 rfl ?_
    refine z_icmp_ne (tgt := 59) (q := 48) C dX9_next_45 (by decide) rfl (fun c2 => ?_) (fun c2 => ?_)
    · have hF := (if_neg c2).symm.trans hF
      refine z_iconst (q := 60) C dX9_next_59 rfl ?_
      refine z_goto (q := 74) C dX9_next_60 (by decide) ?_
      have hF := Option.some.inj hF
      subst hF
      exact z_iret C e1 e2 dX9_next_74
    · have hF := (if_pos c2).symm.trans hF
      refine z_aload_n (q := 49) C dX9_next_48 0 rfl rfl rfl ?_
      refine z_getf (q := 52) C clX9 (zon C zo_1) kd_1 (k := 2) (by decide) q_45 rfl (zfv_i kd_1 rfl) dX9_next_49 rfl ?_
      refine z_aload_n (q := 53) C dX9_next_52 0 rfl rfl rfl ?_
      refine z_getf (q := 56) C clX9 (zon C zo_1) kd_1 (k := 1) (by decide) q_41 rfl (zfv_i kd_1 rfl) dX9_next_53 rfl ?_
      refine z_icmp_lt (tgt := 63) (q := 59) C dX9_next_56 (by decide) rfl (fun c3 => ?_) (fun c3 => ?_)
      · have hF := (if_pos c3).symm.trans hF
        refine z_aload_n (q := 64) C dX9_next_63 0 rfl rfl rfl ?_
        refine z_getf (q := 67) C clX9 (zon C zo_1) kd_1 (k := 0) (by decide) q_39 rfl (zfv_r kd_1 rfl fr_1_0) dX9_next_64 rfl ?_
        refine z_aload_n (q := 68) C dX9_next_67 0 rfl rfl rfl ?_
        refine z_getf (q := 71) C clX9 (zon C zo_1) kd_1 (k := 2) (by decide) q_45 rfl (zfv_i kd_1 rfl) dX9_next_68 rfl ?_
        refine z_callSN (q := 74) (av := [.ref (zα κ 15), .int (zi (h 1 2))]) (rest := []) (stk2 := [.int (zi (fX10_at 15 (h 1 2) h))]) C hR (M_fX10_at (zlv hd rfl) zo_15 kd_15 rfl) mY_X10_at q_375 (Nat.le_of_ble_eq_true rfl) dX9_next_71 rfl rfl rfl ?_
        have hF := Option.some.inj hF
        subst hF
        exact z_iret C e1 e2 dX9_next_74
      · have hF := (if_neg c3).symm.trans hF
        refine z_iconst (q := 60) C dX9_next_59 rfl ?_
        refine z_goto (q := 74) C dX9_next_60 (by decide) ?_
        have hF := Option.some.inj hF
        subst hF
        exact z_iret C e1 e2 dX9_next_74
  · have hF := (if_neg c1).symm.trans hF
    refine z_aload_n (q := 12) C dX9_next_11 0 rfl rfl rfl ?_
    refine z_getf (q := 15) C clX9 (zon C zo_1) kd_1 (k := 0) (by decide) q_39 rfl (zfv_r kd_1 rfl fr_1_0) dX9_next_12 rfl ?_
    refine z_aload_n (q := 16) C dX9_next_15 0 rfl rfl rfl ?_
    refine z_getf (q := 19) C clX9 (zon C zo_1) kd_1 (k := 2) (by decide) q_45 rfl (zfv_i kd_1 rfl) dX9_next_16 rfl ?_
    refine z_callSN (q := 22) (av := [.ref (zα κ 15), .int (zi (h 1 2))]) (rest := []) (stk2 := [.int (zi (fX10_at 15 (h 1 2) h))]) C hR (M_fX10_at (zlv hd rfl) zo_15 kd_15 rfl) mY_X10_at q_375 (Nat.le_of_ble_eq_true rfl) dX9_next_19 rfl rfl rfl ?_
    refine z_bipush (q := 24) C dX9_next_22 bp_32 rfl ?_
    refine z_icmp_ne (tgt := 40) (q := 27) C dX9_next_24 (by decide) rfl (fun c4 => ?_) (fun c4 => ?_)
    · have hF := (if_neg c4).symm.trans hF
      refine z_aload_n (q := 41) C dX9_next_40 0 rfl rfl rfl ?_
      refine z_getf (q := 44) C clX9 (zon C zo_1) kd_1 (k := 3) (by decide) q_47 rfl (zfv_i kd_1 rfl) dX9_next_41 rfl ?_
      refine z_iconst (q := 45) C dX9_next_44 rfl ?_
      refine z_icmp_ne (tgt := 59) (q := 48) C dX9_next_45 (by decide) rfl (fun c6 => ?_) (fun c6 => ?_)
      · have hF := (if_neg c6).symm.trans hF
        refine z_iconst (q := 60) C dX9_next_59 rfl ?_
        refine z_goto (q := 74) C dX9_next_60 (by decide) ?_
        have hF := Option.some.inj hF
        subst hF
        exact z_iret C e1 e2 dX9_next_74
      · have hF := (if_pos c6).symm.trans hF
        refine z_aload_n (q := 49) C dX9_next_48 0 rfl rfl rfl ?_
        refine z_getf (q := 52) C clX9 (zon C zo_1) kd_1 (k := 2) (by decide) q_45 rfl (zfv_i kd_1 rfl) dX9_next_49 rfl ?_
        refine z_aload_n (q := 53) C dX9_next_52 0 rfl rfl rfl ?_
        refine z_getf (q := 56) C clX9 (zon C zo_1) kd_1 (k := 1) (by decide) q_41 rfl (zfv_i kd_1 rfl) dX9_next_53 rfl ?_
        refine z_icmp_lt (tgt := 63) (q := 59) C dX9_next_56 (by decide) rfl (fun c7 => ?_) (fun c7 => ?_)
        · have hF := (if_pos c7).symm.trans hF
          refine z_aload_n (q := 64) C dX9_next_63 0 rfl rfl rfl ?_
          refine z_getf (q := 67) C clX9 (zon C zo_1) kd_1 (k := 0) (by decide) q_39 rfl (zfv_r kd_1 rfl fr_1_0) dX9_next_64 rfl ?_
          refine z_aload_n (q := 68) C dX9_next_67 0 rfl rfl rfl ?_
          refine z_getf (q := 71) C clX9 (zon C zo_1) kd_1 (k := 2) (by decide) q_45 rfl (zfv_i kd_1 rfl) dX9_next_68 rfl ?_
          refine z_callSN (q := 74) (av := [.ref (zα κ 15), .int (zi (h 1 2))]) (rest := []) (stk2 := [.int (zi (fX10_at 15 (h 1 2) h))]) C hR (M_fX10_at (zlv hd rfl) zo_15 kd_15 rfl) mY_X10_at q_375 (Nat.le_of_ble_eq_true rfl) dX9_next_71 rfl rfl rfl ?_
          have hF := Option.some.inj hF
          subst hF
          exact z_iret C e1 e2 dX9_next_74
        · have hF := (if_neg c7).symm.trans hF
          refine z_iconst (q := 60) C dX9_next_59 rfl ?_
          refine z_goto (q := 74) C dX9_next_60 (by decide) ?_
          have hF := Option.some.inj hF
          subst hF
          exact z_iret C e1 e2 dX9_next_74
    · have hF := (if_pos c4).symm.trans hF
      refine z_aload_n (q := 28) C dX9_next_27 0 rfl rfl rfl ?_
      refine z_dup (q := 29) C dX9_next_28 rfl rfl ?_
      refine z_getf (q := 32) C clX9 (zon C zo_1) kd_1 (k := 2) (by decide) q_45 rfl (zfv_i kd_1 rfl) dX9_next_29 rfl ?_
      refine z_iconst (q := 33) C dX9_next_32 rfl ?_
      refine z_iadd (q := 34) C dX9_next_33 rfl ?_
      obtain ⟨h5, eh5, hF⟩ := zlet_e hF
      refine z_putf (q := 37) C clX9 (zon C zo_1) kd_1 (k := 2) (x := (h 1 2) + 1) (by decide) q_45 rfl rfl rfl rfl (((zfv_i kd_1 rfl)).trans (by rw [if_pos rfl])) dX9_next_34 rfl eh5 ?_
      refine z_goto (q := 0) C dX9_next_37 (by decide) ?_
      exact z_sub (hK0 _ hF) [0] rfl
set_option maxRecDepth 20000 in
set_option maxHeartbeats 4000000 in
theorem J_fX9_next_c0 {κ : zT} (C : zC κ RX9 cX9_next 1 (some .int)) {d : Nat} (hR : zR κ = zrm (d + 1)) (hd : 2 ≤ d + 1) {N : Nat} {r : Int × zH} (e1 : zrv κ = some (.int (zi r.1))) (e2 : zhf κ = r.2) : ∀ (k : Nat) (h : zH), fX9_next_c0 N k h = some r → Z κ h 0 [(0, .ref (zα κ 1))] [] := by
  intro k
  induction k with
  | zero => intro h hF; cases hF
  | succ k ih => intro h hF; exact J_fX9_next_c0b C hR hd e1 e2 ih h hF
set_option maxRecDepth 20000 in
set_option maxHeartbeats 4000000 in
theorem J_fX9_next {κ : zT} (C : zC κ RX9 cX9_next 1 (some .int)) {d : Nat} (hR : zR κ = zrm (d + 1)) (hd : 2 ≤ d + 1) {N : Nat} {r : Int × zH} (e1 : zrv κ = some (.int (zi r.1))) (e2 : zhf κ = r.2) {h : zH} (hF : fX9_next N h = some r) : Z κ h 0 [(0, .ref (zα κ 1))] [] := by
  unfold fX9_next at hF
  exact z_sub (J_fX9_next_c0 C hR hd e1 e2 N _ hF) [0] rfl
set_option maxRecDepth 20000 in
set_option maxHeartbeats 4000000 in
theorem M_fX9_next {l : Launch} {D : va_G} {cy : ClassId} {α : Nat → Nat} {n : Nat} {σ : zSg} {d : Nat} (hd : 2 ≤ d) {N : Nat} {h : zH} {r : Int} {g : zH} (hF : fX9_next N h = some (r, g)) : zMet l yX9_next cX9_next 1 (some .int) (zrm d) D cy α n σ [.ref (α 1)] h (some (.int (zi r))) g := by
  obtain ⟨d, rfl⟩ : ∃ e, d = e + 1 := ⟨d - 1, by omega⟩
  refine z_met (by decide +kernel) (Nat.le_of_ble_eq_true rfl) (fun κ k1 k2 k3 k4 k5 k6 k7 k8 k9 C => ?_)
  subst k1 k3 k4 k5 k6 k7
  exact J_fX9_next C k2 hd k8 k9 hF
set_option maxRecDepth 20000 in
set_option maxHeartbeats 4000000 in
theorem J_fX10_placeIn_c2b {κ : zT} (C : zC κ RX10 cX10_placeIn 3 (some .int)) {d : Nat} (hR : zR κ = zrm (d + 1)) (hd : 7 ≤ d + 1) {N : Nat} {t0 : Nat} (ht0 : t0 < 4) {h : zH} {r : Int} (e1 : zrv κ = some (.int (zi r))) (e2 : zhf κ = h) {K2 : Int → Int → Option Int} (hK2 : ∀ (l1 : Int) (l2 : Int), K2 l1 l2 = some r → Z κ h 2 [(0, .ref ((zσ κ).2.1 t0)), (1, .int (zi l1)), (2, .int (zi l2))] []) (l1 : Int) (l2 : Int) (hF : fX10_placeIn_c2b N t0 K2 l1 l2 = some r) : Z κ h 2 [(0, .ref ((zσ κ).2.1 t0)), (1, .int (zi l1)), (2, .int (zi l2))] [] := by
  unfold fX10_placeIn_c2b at hF
  refine z_iload_n (q := 3) C dX10_placeIn_2 2 rfl rfl rfl ?_
  refine z_aload_n (q := 4) C dX10_placeIn_3 0 rfl rfl rfl ?_
  refine z_strlen (q := 7) (stk2 := [.int (zi (zTn t0)), .int (zi l2)]) C hR ht0 (zlv hd rfl) q_379 (Nat.le_of_ble_eq_true rfl) dX10_placeIn_4 rfl rfl ?_
  refine z_icmp_ge (tgt := 27) (q := 10) C dX10_placeIn_7 (by decide) rfl (fun c1 => ?_) (fun c1 => ?_)
  · have hF := (if_pos c1).symm.trans hF
    refine z_iconst (q := 28) C dX10_placeIn_27 rfl ?_
    have hF := Option.some.inj hF
    subst hF
    exact z_iret C e1 e2 dX10_placeIn_28
  · have hF := (if_neg c1).symm.trans hF
    refine z_aload_n (q := 11) C dX10_placeIn_10 0 rfl rfl rfl ?_
    refine z_iload_n (q := 12) C dX10_placeIn_11 2 rfl rfl rfl ?_
    obtain ⟨g2, hF⟩ := zif_none hF
    refine z_strat (q := 15) (stk2 := [.int (zi (zTc t0 (zw l2).toNat))]) C hR ht0 g2.1 g2.2 (zlv hd rfl) q_389 (Nat.le_of_ble_eq_true rfl) dX10_placeIn_12 rfl rfl ?_
    refine z_iload_n (q := 16) C dX10_placeIn_15 1 rfl rfl rfl ?_
    refine z_icmp_ne (tgt := 21) (q := 19) C dX10_placeIn_16 (by decide) rfl (fun c3 => ?_) (fun c3 => ?_)
    · have hF := (if_neg c3).symm.trans hF
      refine z_iinc (q := 24) (x := l2) C dX10_placeIn_21 (j := 2) rfl (by decide) rfl rfl ?_
      refine z_goto (q := 2) C dX10_placeIn_24 (by decide) ?_
      exact z_sub (hK2 _ _ hF) [1, 2, 0] rfl
    · have hF := (if_pos c3).symm.trans hF
      refine z_iload_n (q := 20) C dX10_placeIn_19 2 rfl rfl rfl ?_
      have hF := Option.some.inj hF
      subst hF
      exact z_iret C e1 e2 dX10_placeIn_20
set_option maxRecDepth 20000 in
set_option maxHeartbeats 4000000 in
theorem J_fX10_placeIn_c2 {κ : zT} (C : zC κ RX10 cX10_placeIn 3 (some .int)) {d : Nat} (hR : zR κ = zrm (d + 1)) (hd : 7 ≤ d + 1) {N : Nat} {t0 : Nat} (ht0 : t0 < 4) {h : zH} {r : Int} (e1 : zrv κ = some (.int (zi r))) (e2 : zhf κ = h) : ∀ (k : Nat) (l1 : Int) (l2 : Int), fX10_placeIn_c2 N t0 k l1 l2 = some r → Z κ h 2 [(0, .ref ((zσ κ).2.1 t0)), (1, .int (zi l1)), (2, .int (zi l2))] [] := by
  intro k
  induction k with
  | zero => intro l1 l2 hF; cases hF
  | succ k ih => intro l1 l2 hF; exact J_fX10_placeIn_c2b C hR hd ht0 e1 e2 ih l1 l2 hF
set_option maxRecDepth 20000 in
set_option maxHeartbeats 4000000 in
theorem J_fX10_placeIn {κ : zT} (C : zC κ RX10 cX10_placeIn 3 (some .int)) {d : Nat} (hR : zR κ = zrm (d + 1)) (hd : 7 ≤ d + 1) {N : Nat} {t0 : Nat} (ht0 : t0 < 4) {h : zH} {r : Int} (e1 : zrv κ = some (.int (zi r))) (e2 : zhf κ = h) {a1 : Int} (hF : fX10_placeIn N t0 a1 = some r) : Z κ h 0 [(0, .ref ((zσ κ).2.1 t0)), (1, .int (zi a1))] [] := by
  unfold fX10_placeIn at hF
  refine z_iconst (q := 1) C dX10_placeIn_0 rfl ?_
  refine z_istore_n (q := 2) C dX10_placeIn_1 (by decide) rfl rfl rfl ?_
  exact z_sub (J_fX10_placeIn_c2 C hR hd ht0 e1 e2 N _ _ hF) [1, 2, 0] rfl
set_option maxRecDepth 20000 in
set_option maxHeartbeats 4000000 in
theorem M_fX10_placeIn {l : Launch} {D : va_G} {cy : ClassId} {α : Nat → Nat} {n : Nat} {σ : zSg} {d : Nat} (hd : 7 ≤ d) {N : Nat} {t0 : Nat} (ht0 : t0 < 4) {a1 : Int} {h : zH} {r : Int} (hF : fX10_placeIn N t0 a1 = some r) : zMet l yX10_placeIn cX10_placeIn 3 (some .int) (zrm d) D cy α n σ [.ref (σ.2.1 t0), .int (zi a1)] h (some (.int (zi r))) h := by
  obtain ⟨d, rfl⟩ : ∃ e, d = e + 1 := ⟨d - 1, by omega⟩
  refine z_met (by decide +kernel) (Nat.le_of_ble_eq_true rfl) (fun κ k1 k2 k3 k4 k5 k6 k7 k8 k9 C => ?_)
  subst k1 k3 k4 k5 k6 k7
  exact J_fX10_placeIn C k2 hd ht0 k8 k9 hF
set_option maxRecDepth 20000 in
set_option maxHeartbeats 4000000 in
theorem J_fX1_many {κ : zT} (C : zC κ RX1 cX1_many 2 (some .int)) {d : Nat} (hR : zR κ = zrm (d + 1)) (hd : 2 ≤ d + 1) {o0 : Nat} (ho0 : o0 < zN) (hd0 : zkd o0 = 1) {h : zH} {r : Int} (e1 : zrv κ = some (.int (zi r))) (e2 : zhf κ = h) {a1 : Int} (hF : fX1_many o0 a1 h = r) : Z κ h 0 [(0, .ref (zα κ o0)), (1, .int (zi a1))] [] := by
  unfold fX1_many at hF
  refine z_aload_n (q := 1) C dX1_many_0 0 rfl rfl rfl ?_
  refine z_getf (q := 4) C clX1 (zon C ho0) hd0 (k := 1) (by decide) q_67 rfl (zfv_r hd0 rfl rfl) dX1_many_1 rfl ?_
  refine z_iload_n (q := 5) C dX1_many_4 1 rfl rfl rfl ?_
  refine z_callSN (q := 8) (av := [.ref (zα κ (zfr o0 1)), .int (zi a1)]) (rest := []) (stk2 := [.int (zi (fX10_at (zfr o0 1) a1 h))]) C hR (M_fX10_at (zlv hd rfl) (frl_1_1 ho0 hd0) (frk_1_1 ho0 hd0) rfl) mY_X10_at q_362 (Nat.le_of_ble_eq_true rfl) dX1_many_5 rfl rfl rfl ?_
  subst hF
  exact z_iret C e1 e2 dX1_many_8
set_option maxRecDepth 20000 in
set_option maxHeartbeats 4000000 in
theorem M_fX1_many {l : Launch} {D : va_G} {cy : ClassId} {α : Nat → Nat} {n : Nat} {σ : zSg} {d : Nat} (hd : 2 ≤ d) {o0 : Nat} (ho0 : o0 < zN) (hd0 : zkd o0 = 1) {a1 : Int} {h : zH} {r : Int} (hF : fX1_many o0 a1 h = r) : zMet l yX1_many cX1_many 2 (some .int) (zrm d) D cy α n σ [.ref (α o0), .int (zi a1)] h (some (.int (zi r))) h := by
  obtain ⟨d, rfl⟩ : ∃ e, d = e + 1 := ⟨d - 1, by omega⟩
  refine z_met (by decide +kernel) (Nat.le_of_ble_eq_true rfl) (fun κ k1 k2 k3 k4 k5 k6 k7 k8 k9 C => ?_)
  subst k1 k3 k4 k5 k6 k7
  exact J_fX1_many C k2 hd ho0 hd0 k8 k9 hF
set_option maxRecDepth 20000 in
set_option maxHeartbeats 4000000 in
theorem J_fX9_blame {κ : zT} (C : zC κ RX9 cX9_blame 2 none) {d : Nat} (hR : zR κ = zrm (d + 1)) (hd : 1 ≤ d + 1) {r : zH} (e1 : zrv κ = none) (e2 : zhf κ = r) {a1 : Int} {h : zH} (hF : fX9_blame a1 h = r) : Z κ h 0 [(0, .ref (zα κ 1)), (1, .int (zi a1))] [] := by
  unfold fX9_blame at hF
  refine z_aload_n (q := 1) C dX9_blame_0 0 rfl rfl rfl ?_
  refine z_getf (q := 4) C clX9 (zon C zo_1) kd_1 (k := 3) (by decide) q_47 rfl (zfv_i kd_1 rfl) dX9_blame_1 rfl ?_
  refine z_iconst (q := 5) C dX9_blame_4 rfl ?_
  refine z_icmp_ne (tgt := 13) (q := 8) C dX9_blame_5 (by decide) rfl (fun c1 => ?_) (fun c1 => ?_)
  · have hF := (if_neg c1).symm.trans hF
    subst hF
    exact z_vret C e1 e2 dX9_blame_13
  · have hF := (if_pos c1).symm.trans hF
    refine z_aload_n (q := 9) C dX9_blame_8 0 rfl rfl rfl ?_
    refine z_iload_n (q := 10) C dX9_blame_9 1 rfl rfl rfl ?_
    obtain ⟨h2, eh2, hF⟩ := zlet_e hF
    refine z_putf (q := 13) C clX9 (zon C zo_1) kd_1 (k := 3) (x := a1) (by decide) q_47 rfl rfl rfl rfl (((zfv_i kd_1 rfl)).trans (by rw [if_pos rfl])) dX9_blame_10 rfl eh2 ?_
    subst hF
    exact z_vret C e1 e2 dX9_blame_13
set_option maxRecDepth 20000 in
set_option maxHeartbeats 4000000 in
theorem M_fX9_blame {l : Launch} {D : va_G} {cy : ClassId} {α : Nat → Nat} {n : Nat} {σ : zSg} {d : Nat} (hd : 1 ≤ d) {a1 : Int} {h : zH} {g : zH} (hF : fX9_blame a1 h = g) : zMet l yX9_blame cX9_blame 2 none (zrm d) D cy α n σ [.ref (α 1), .int (zi a1)] h (none) g := by
  obtain ⟨d, rfl⟩ : ∃ e, d = e + 1 := ⟨d - 1, by omega⟩
  refine z_met (by decide +kernel) (Nat.le_of_ble_eq_true rfl) (fun κ k1 k2 k3 k4 k5 k6 k7 k8 k9 C => ?_)
  subst k1 k3 k4 k5 k6 k7
  exact J_fX9_blame C k2 hd k8 k9 hF
set_option maxRecDepth 20000 in
set_option maxHeartbeats 4000000 in
theorem J_fX1_itemOf_c2b {κ : zT} (C : zC κ RX1 cX1_itemOf 4 (some .int)) {d : Nat} (hR : zR κ = zrm (d + 1)) (hd : 7 ≤ d + 1) {N : Nat} {h : zH} {r : Int} (e1 : zrv κ = some (.int (zi r))) (e2 : zhf κ = h) {K2 : Int → Int → Int → Option Int} (hK2 : ∀ (l0 : Int) (l1 : Int) (l2 : Int), K2 l0 l1 l2 = some r → Z κ h 2 [(0, .int (zi l0)), (1, .int (zi l1)), (2, .int (zi l2))] []) (l0 : Int) (l1 : Int) (l2 : Int) (hF : fX1_itemOf_c2b N K2 l0 l1 l2 = some r) : Z κ h 2 [(0, .int (zi l0)), (1, .int (zi l1)), (2, .int (zi l2))] [] := by
  unfold fX1_itemOf_c2b at hF
  refine z_iload_n (q := 3) C dX1_itemOf_2 2 rfl rfl rfl ?_
  refine z_iconst (q := 4) C dX1_itemOf_3 rfl ?_
  refine z_icmp_ge (tgt := 44) (q := 7) C dX1_itemOf_4 (by decide) rfl (fun c1 => ?_) (fun c1 => ?_)
  · have hF := (if_pos c1).symm.trans hF
    refine z_iconst (q := 45) C dX1_itemOf_44 rfl ?_
    have hF := Option.some.inj hF
    subst hF
    exact z_iret C e1 e2 dX1_itemOf_45
  · have hF := (if_neg c1).symm.trans hF
    refine z_iload_n (q := 8) C dX1_itemOf_7 0 rfl rfl rfl ?_
    refine z_iconst (q := 9) C dX1_itemOf_8 rfl ?_
    refine z_imul (q := 10) C dX1_itemOf_9 rfl ?_
    refine z_iload_n (q := 11) C dX1_itemOf_10 2 rfl rfl rfl ?_
    refine z_iadd (q := 12) C dX1_itemOf_11 rfl ?_
    refine z_istore_n (q := 13) C dX1_itemOf_12 (by decide) rfl rfl rfl ?_
    refine z_iload_n (q := 14) C dX1_itemOf_13 0 rfl rfl rfl ?_
    refine z_if_lt (tgt := 38) (q := 17) C dX1_itemOf_14 (by decide) rfl (fun c2 => ?_) (fun c2 => ?_)
    · have hF := (if_pos c2).symm.trans hF
      refine z_iinc (q := 41) (x := l2) C dX1_itemOf_38 (j := 3) rfl (by decide) rfl rfl ?_
      refine z_goto (q := 2) C dX1_itemOf_41 (by decide) ?_
      exact z_sub (hK2 _ _ _ hF) [2, 3, 0] rfl
    · have hF := (if_neg c2).symm.trans hF
      refine z_iload_n (q := 18) C dX1_itemOf_17 0 rfl rfl rfl ?_
      refine z_ldcS (q := 20) (i := 1) C (by decide) rfl rfl dX1_itemOf_18 rfl ?_
      refine z_strlen (q := 23) (stk2 := [.int (zi 16), .int (zi ((l0 * 4) + l2))]) C hR (by decide) (zlv hd rfl) q_445 (Nat.le_of_ble_eq_true rfl) dX1_itemOf_20 rfl rfl ?_
      refine z_icmp_ge (tgt := 38) (q := 26) C dX1_itemOf_23 (by decide) rfl (fun c3 => ?_) (fun c3 => ?_)
      · have hF := (if_pos c3).symm.trans hF
        refine z_iinc (q := 41) (x := l2) C dX1_itemOf_38 (j := 3) rfl (by decide) rfl rfl ?_
        refine z_goto (q := 2) C dX1_itemOf_41 (by decide) ?_
        exact z_sub (hK2 _ _ _ hF) [2, 3, 0] rfl
      · have hF := (if_neg c3).symm.trans hF
        refine z_ldcS (q := 28) (i := 1) C (by decide) rfl rfl dX1_itemOf_26 rfl ?_
        refine z_iload_n (q := 29) C dX1_itemOf_28 0 rfl rfl rfl ?_
        obtain ⟨g4, hF⟩ := zif_none hF
        refine z_strat (q := 32) (stk2 := [.int (zi (zTc 1 (zw ((l0 * 4) + l2)).toNat))]) C hR (by decide) g4.1 g4.2 (zlv hd rfl) q_446 (Nat.le_of_ble_eq_true rfl) dX1_itemOf_29 rfl rfl ?_
        refine z_iload_n (q := 33) C dX1_itemOf_32 2 rfl rfl rfl ?_
        refine z_icmp_ne (tgt := 38) (q := 36) C dX1_itemOf_33 (by decide) rfl (fun c5 => ?_) (fun c5 => ?_)
        · have hF := (if_neg c5).symm.trans hF
          refine z_iinc (q := 41) (x := l2) C dX1_itemOf_38 (j := 3) rfl (by decide) rfl rfl ?_
          refine z_goto (q := 2) C dX1_itemOf_41 (by decide) ?_
          exact z_sub (hK2 _ _ _ hF) [2, 3, 0] rfl
        · have hF := (if_pos c5).symm.trans hF
          refine z_iload_n (q := 37) C dX1_itemOf_36 3 rfl rfl rfl ?_
          have hF := Option.some.inj hF
          subst hF
          exact z_iret C e1 e2 dX1_itemOf_37
set_option maxRecDepth 20000 in
set_option maxHeartbeats 4000000 in
theorem J_fX1_itemOf_c2 {κ : zT} (C : zC κ RX1 cX1_itemOf 4 (some .int)) {d : Nat} (hR : zR κ = zrm (d + 1)) (hd : 7 ≤ d + 1) {N : Nat} {h : zH} {r : Int} (e1 : zrv κ = some (.int (zi r))) (e2 : zhf κ = h) : ∀ (k : Nat) (l0 : Int) (l1 : Int) (l2 : Int), fX1_itemOf_c2 N k l0 l1 l2 = some r → Z κ h 2 [(0, .int (zi l0)), (1, .int (zi l1)), (2, .int (zi l2))] [] := by
  intro k
  induction k with
  | zero => intro l0 l1 l2 hF; cases hF
  | succ k ih => intro l0 l1 l2 hF; exact J_fX1_itemOf_c2b C hR hd e1 e2 ih l0 l1 l2 hF
set_option maxRecDepth 20000 in
set_option maxHeartbeats 4000000 in
theorem J_fX1_itemOf {κ : zT} (C : zC κ RX1 cX1_itemOf 4 (some .int)) {d : Nat} (hR : zR κ = zrm (d + 1)) (hd : 7 ≤ d + 1) {N : Nat} {h : zH} {r : Int} (e1 : zrv κ = some (.int (zi r))) (e2 : zhf κ = h) {a0 : Int} {a1 : Int} (hF : fX1_itemOf N a0 a1 = some r) : Z κ h 0 [(0, .int (zi a0)), (1, .int (zi a1))] [] := by
  unfold fX1_itemOf at hF
  refine z_iconst (q := 1) C dX1_itemOf_0 rfl ?_
  refine z_istore_n (q := 2) C dX1_itemOf_1 (by decide) rfl rfl rfl ?_
  exact z_sub (J_fX1_itemOf_c2 C hR hd e1 e2 N _ _ _ hF) [1, 2, 0] rfl
set_option maxRecDepth 20000 in
set_option maxHeartbeats 4000000 in
theorem M_fX1_itemOf {l : Launch} {D : va_G} {cy : ClassId} {α : Nat → Nat} {n : Nat} {σ : zSg} {d : Nat} (hd : 7 ≤ d) {N : Nat} {a0 : Int} {a1 : Int} {h : zH} {r : Int} (hF : fX1_itemOf N a0 a1 = some r) : zMet l yX1_itemOf cX1_itemOf 4 (some .int) (zrm d) D cy α n σ [.int (zi a0), .int (zi a1)] h (some (.int (zi r))) h := by
  obtain ⟨d, rfl⟩ : ∃ e, d = e + 1 := ⟨d - 1, by omega⟩
  refine z_met (by decide +kernel) (Nat.le_of_ble_eq_true rfl) (fun κ k1 k2 k3 k4 k5 k6 k7 k8 k9 C => ?_)
  subst k1 k3 k4 k5 k6 k7
  exact J_fX1_itemOf C k2 hd k8 k9 hF
set_option maxRecDepth 20000 in
set_option maxHeartbeats 4000000 in
theorem J_fX10_isIn {κ : zT} (C : zC κ RX10 cX10_isIn 2 (some .boolean)) {d : Nat} (hR : zR κ = zrm (d + 1)) (hd : 1 ≤ d + 1) {h : zH} {r : Int} (e1 : zrv κ = some (.int (zi r))) (e2 : zhf κ = h) {a0 : Int} {a1 : Int} (hF : fX10_isIn a0 a1 = r) : Z κ h 0 [(0, .int (zi a0)), (1, .int (zi a1))] [] := by
  unfold fX10_isIn at hF
  refine z_iload_n (q := 1) C dX10_isIn_0 1 rfl rfl rfl ?_
  refine z_if_lt (tgt := 23) (q := 4) C dX10_isIn_1 (by decide) rfl (fun c1 => ?_) (fun c1 => ?_)
  · have hF := (if_pos c1).symm.trans hF
    refine z_iconst (q := 24) C dX10_isIn_23 rfl ?_
    subst hF
    exact z_zret C (zb01 (Or.inl rfl)) e1 e2 dX10_isIn_24
  · have hF := (if_neg c1).symm.trans hF
    refine z_iload_n (q := 5) C dX10_isIn_4 1 rfl rfl rfl ?_
    refine z_bipush (q := 7) C dX10_isIn_5 bp_8 rfl ?_
    refine z_icmp_ge (tgt := 23) (q := 10) C dX10_isIn_7 (by decide) rfl (fun c2 => ?_) (fun c2 => ?_)
    · have hF := (if_pos c2).symm.trans hF
      refine z_iconst (q := 24) C dX10_isIn_23 rfl ?_
      subst hF
      exact z_zret C (zb01 (Or.inl rfl)) e1 e2 dX10_isIn_24
    · have hF := (if_neg c2).symm.trans hF
      refine z_iload_n (q := 11) C dX10_isIn_10 0 rfl rfl rfl ?_
      refine z_iload_n (q := 12) C dX10_isIn_11 1 rfl rfl rfl ?_
      refine z_ishr (q := 13) C dX10_isIn_12 rfl ?_
      refine z_iconst (q := 14) C dX10_isIn_13 rfl ?_
      refine z_iand (q := 15) C dX10_isIn_14 rfl ?_
      refine z_iconst (q := 16) C dX10_isIn_15 rfl ?_
      refine z_icmp_ne (tgt := 23) (q := 19) C dX10_isIn_16 (by decide) rfl (fun c3 => ?_) (fun c3 => ?_)
      · have hF := (if_neg c3).symm.trans hF
        refine z_iconst (q := 24) C dX10_isIn_23 rfl ?_
        subst hF
        exact z_zret C (zb01 (Or.inl rfl)) e1 e2 dX10_isIn_24
      · have hF := (if_pos c3).symm.trans hF
        refine z_iconst (q := 20) C dX10_isIn_19 rfl ?_
        refine z_goto (q := 24) C dX10_isIn_20 (by decide) ?_
        subst hF
        exact z_zret C (zb01 (Or.inr rfl)) e1 e2 dX10_isIn_24
set_option maxRecDepth 20000 in
set_option maxHeartbeats 4000000 in
theorem M_fX10_isIn {l : Launch} {D : va_G} {cy : ClassId} {α : Nat → Nat} {n : Nat} {σ : zSg} {d : Nat} (hd : 1 ≤ d) {a0 : Int} {a1 : Int} {h : zH} {r : Int} (hF : fX10_isIn a0 a1 = r) : zMet l yX10_isIn cX10_isIn 2 (some .boolean) (zrm d) D cy α n σ [.int (zi a0), .int (zi a1)] h (some (.int (zi r))) h := by
  obtain ⟨d, rfl⟩ : ∃ e, d = e + 1 := ⟨d - 1, by omega⟩
  refine z_met (by decide +kernel) (Nat.le_of_ble_eq_true rfl) (fun κ k1 k2 k3 k4 k5 k6 k7 k8 k9 C => ?_)
  subst k1 k3 k4 k5 k6 k7
  exact J_fX10_isIn C k2 hd k8 k9 hF
theorem B_fX10_isIn {a0 : Int} {a1 : Int} : fX10_isIn a0 a1 = 0 ∨ fX10_isIn a0 a1 = 1 := by
  unfold fX10_isIn
  try simp only [zlet, zlet2]
  repeat' (first | exact Or.inl rfl | exact Or.inr rfl | apply zite01)
set_option maxRecDepth 20000 in
set_option maxHeartbeats 4000000 in
theorem J_fX9_isDigit {κ : zT} (C : zC κ RX9 cX9_isDigit 1 (some .boolean)) {d : Nat} (hR : zR κ = zrm (d + 1)) (hd : 1 ≤ d + 1) {h : zH} {r : Int} (e1 : zrv κ = some (.int (zi r))) (e2 : zhf κ = h) {a0 : Int} (hF : fX9_isDigit a0 = r) : Z κ h 0 [(0, .int (zi a0))] [] := by
  unfold fX9_isDigit at hF
  refine z_iload_n (q := 1) C dX9_isDigit_0 0 rfl rfl rfl ?_
  refine z_bipush (q := 3) C dX9_isDigit_1 bp_48 rfl ?_
  refine z_icmp_lt (tgt := 16) (q := 6) C dX9_isDigit_3 (by decide) rfl (fun c1 => ?_) (fun c1 => ?_)
  · have hF := (if_pos c1).symm.trans hF
    refine z_iconst (q := 17) C dX9_isDigit_16 rfl ?_
    subst hF
    exact z_zret C (zb01 (Or.inl rfl)) e1 e2 dX9_isDigit_17
  · have hF := (if_neg c1).symm.trans hF
    refine z_iload_n (q := 7) C dX9_isDigit_6 0 rfl rfl rfl ?_
    refine z_bipush (q := 9) C dX9_isDigit_7 bp_57 rfl ?_
    refine z_icmp_gt (tgt := 16) (q := 12) C dX9_isDigit_9 (by decide) rfl (fun c2 => ?_) (fun c2 => ?_)
    · have hF := (if_pos c2).symm.trans hF
      refine z_iconst (q := 17) C dX9_isDigit_16 rfl ?_
      subst hF
      exact z_zret C (zb01 (Or.inl rfl)) e1 e2 dX9_isDigit_17
    · have hF := (if_neg c2).symm.trans hF
      refine z_iconst (q := 13) C dX9_isDigit_12 rfl ?_
      refine z_goto (q := 17) C dX9_isDigit_13 (by decide) ?_
      subst hF
      exact z_zret C (zb01 (Or.inr rfl)) e1 e2 dX9_isDigit_17
set_option maxRecDepth 20000 in
set_option maxHeartbeats 4000000 in
theorem M_fX9_isDigit {l : Launch} {D : va_G} {cy : ClassId} {α : Nat → Nat} {n : Nat} {σ : zSg} {d : Nat} (hd : 1 ≤ d) {a0 : Int} {h : zH} {r : Int} (hF : fX9_isDigit a0 = r) : zMet l yX9_isDigit cX9_isDigit 1 (some .boolean) (zrm d) D cy α n σ [.int (zi a0)] h (some (.int (zi r))) h := by
  obtain ⟨d, rfl⟩ : ∃ e, d = e + 1 := ⟨d - 1, by omega⟩
  refine z_met (by decide +kernel) (Nat.le_of_ble_eq_true rfl) (fun κ k1 k2 k3 k4 k5 k6 k7 k8 k9 C => ?_)
  subst k1 k3 k4 k5 k6 k7
  exact J_fX9_isDigit C k2 hd k8 k9 hF
theorem B_fX9_isDigit {a0 : Int} : fX9_isDigit a0 = 0 ∨ fX9_isDigit a0 = 1 := by
  unfold fX9_isDigit
  try simp only [zlet, zlet2]
  repeat' (first | exact Or.inl rfl | exact Or.inr rfl | apply zite01)
set_option maxRecDepth 20000 in
set_option maxHeartbeats 4000000 in
theorem J_fX9_number_c10b {κ : zT} (C : zC κ RX9 cX9_number 5 (some .int)) {d : Nat} (hR : zR κ = zrm (d + 1)) (hd : 3 ≤ d + 1) {N : Nat} {r : Int × zH} (e1 : zrv κ = some (.int (zi r.1))) (e2 : zhf κ = r.2) {K10 : Int → Int → Int → Int → zH → Option (Int × zH)} (hK10 : ∀ (l1 : Int) (l2 : Int) (l3 : Int) (l4 : Int) (h : zH), K10 l1 l2 l3 l4 h = some r → Z κ h 10 [(0, .ref (zα κ 1)), (1, .int (zi l1)), (2, .int (zi l2)), (3, .int (zi l3)), (4, .int (zi l4))] []) (l1 : Int) (l2 : Int) (l3 : Int) (l4 : Int) (h : zH) (hF : fX9_number_c10b N K10 l1 l2 l3 l4 h = some r) : Z κ h 10 [(0, .ref (zα κ 1)), (1, .int (zi l1)), (2, .int (zi l2)), (3, .int (zi l3)), (4, .int (zi l4))] [] := by
  unfold fX9_number_c10b at hF
  refine z_iload (q := 12) C dX9_number_10 4 rfl rfl ?_
  refine z_iload_n (q := 13) C dX9_number_12 1 rfl rfl rfl ?_
  refine z_icmp_ge (tgt := 76) (q := 16) C dX9_number_13 (by decide) rfl (fun c1 => ?_) (fun c1 => ?_)
  · have hF := (if_pos c1).symm.trans hF
    refine z_iload (q := 78) C dX9_number_76 4 rfl rfl ?_
    refine z_if_eq (tgt := 88) (q := 81) C dX9_number_78 (by decide) rfl (fun c2 => ?_) (fun c2 => ?_)
    · have hF := (if_pos c2).symm.trans hF
      refine z_aload_n (q := 89) C dX9_number_88 0 rfl rfl rfl ?_
      refine z_aload_n (q := 90) C dX9_number_89 0 rfl rfl rfl ?_
      refine z_getf (q := 93) C clX9 (zon C zo_1) kd_1 (k := 2) (by decide) q_45 rfl (zfv_i kd_1 rfl) dX9_number_90 rfl ?_
      obtain ⟨h3, eh3, hF⟩ := zlet_e hF
      refine z_callV (q := 96) (o := 1) (av := [.int (zi (h 1 2))]) (rest := []) (stk2 := []) C hR clX9 (zon C zo_1) kd_1 (M_fX9_blame (zlv hd rfl) eh3.symm) mY_X9_blame q_458 (Nat.le_of_ble_eq_true rfl) dX9_number_93 rfl rfl rfl ?_
      refine z_iload_n (q := 97) C dX9_number_96 3 rfl rfl rfl ?_
      have hF := Option.some.inj hF
      subst hF
      exact z_iret C e1 e2 dX9_number_97
    · have hF := (if_neg c2).symm.trans hF
      refine z_iload_n (q := 82) C dX9_number_81 2 rfl rfl rfl ?_
      refine z_callS (q := 85) (av := [.int (zi l2)]) (rest := []) (stk2 := [.int (zi (fX9_isDigit l2))]) C hR (M_fX9_isDigit (zlv hd rfl) rfl) mY_X9_isDigit q_455 (Nat.le_of_ble_eq_true rfl) dX9_number_82 rfl rfl rfl ?_
      refine z_if_eq (tgt := 96) (q := 88) C dX9_number_85 (by decide) rfl (fun c4 => ?_) (fun c4 => ?_)
      · have hF := (if_pos c4).symm.trans hF
        refine z_iload_n (q := 97) C dX9_number_96 3 rfl rfl rfl ?_
        have hF := Option.some.inj hF
        subst hF
        exact z_iret C e1 e2 dX9_number_97
      · have hF := (if_neg c4).symm.trans hF
        refine z_aload_n (q := 89) C dX9_number_88 0 rfl rfl rfl ?_
        refine z_aload_n (q := 90) C dX9_number_89 0 rfl rfl rfl ?_
        refine z_getf (q := 93) C clX9 (zon C zo_1) kd_1 (k := 2) (by decide) q_45 rfl (zfv_i kd_1 rfl) dX9_number_90 rfl ?_
        obtain ⟨h5, eh5, hF⟩ := zlet_e hF
        refine z_callV (q := 96) (o := 1) (av := [.int (zi (h 1 2))]) (rest := []) (stk2 := []) C hR clX9 (zon C zo_1) kd_1 (M_fX9_blame (zlv hd rfl) eh5.symm) mY_X9_blame q_458 (Nat.le_of_ble_eq_true rfl) dX9_number_93 rfl rfl rfl ?_
        refine z_iload_n (q := 97) C dX9_number_96 3 rfl rfl rfl ?_
        have hF := Option.some.inj hF
        subst hF
        exact z_iret C e1 e2 dX9_number_97
  · have hF := (if_neg c1).symm.trans hF
    refine z_iload_n (q := 17) C dX9_number_16 2 rfl rfl rfl ?_
    refine z_callS (q := 20) (av := [.int (zi l2)]) (rest := []) (stk2 := [.int (zi (fX9_isDigit l2))]) C hR (M_fX9_isDigit (zlv hd rfl) rfl) mY_X9_isDigit q_455 (Nat.le_of_ble_eq_true rfl) dX9_number_17 rfl rfl rfl ?_
    refine z_if_eq (tgt := 76) (q := 23) C dX9_number_20 (by decide) rfl (fun c6 => ?_) (fun c6 => ?_)
    · have hF := (if_pos c6).symm.trans hF
      refine z_iload (q := 78) C dX9_number_76 4 rfl rfl ?_
      refine z_if_eq (tgt := 88) (q := 81) C dX9_number_78 (by decide) rfl (fun c7 => ?_) (fun c7 => ?_)
      · have hF := (if_pos c7).symm.trans hF
        refine z_aload_n (q := 89) C dX9_number_88 0 rfl rfl rfl ?_
        refine z_aload_n (q := 90) C dX9_number_89 0 rfl rfl rfl ?_
        refine z_getf (q := 93) C clX9 (zon C zo_1) kd_1 (k := 2) (by decide) q_45 rfl (zfv_i kd_1 rfl) dX9_number_90 rfl ?_
        obtain ⟨h8, eh8, hF⟩ := zlet_e hF
        refine z_callV (q := 96) (o := 1) (av := [.int (zi (h 1 2))]) (rest := []) (stk2 := []) C hR clX9 (zon C zo_1) kd_1 (M_fX9_blame (zlv hd rfl) eh8.symm) mY_X9_blame q_458 (Nat.le_of_ble_eq_true rfl) dX9_number_93 rfl rfl rfl ?_
        refine z_iload_n (q := 97) C dX9_number_96 3 rfl rfl rfl ?_
        have hF := Option.some.inj hF
        subst hF
        exact z_iret C e1 e2 dX9_number_97
      · have hF := (if_neg c7).symm.trans hF
        refine z_iload_n (q := 82) C dX9_number_81 2 rfl rfl rfl ?_
        refine z_callS (q := 85) (av := [.int (zi l2)]) (rest := []) (stk2 := [.int (zi (fX9_isDigit l2))]) C hR (M_fX9_isDigit (zlv hd rfl) rfl) mY_X9_isDigit q_455 (Nat.le_of_ble_eq_true rfl) dX9_number_82 rfl rfl rfl ?_
        refine z_if_eq (tgt := 96) (q := 88) C dX9_number_85 (by decide) rfl (fun c9 => ?_) (fun c9 => ?_)
        · have hF := (if_pos c9).symm.trans hF
          refine z_iload_n (q := 97) C dX9_number_96 3 rfl rfl rfl ?_
          have hF := Option.some.inj hF
          subst hF
          exact z_iret C e1 e2 dX9_number_97
        · have hF := (if_neg c9).symm.trans hF
          refine z_aload_n (q := 89) C dX9_number_88 0 rfl rfl rfl ?_
          refine z_aload_n (q := 90) C dX9_number_89 0 rfl rfl rfl ?_
          refine z_getf (q := 93) C clX9 (zon C zo_1) kd_1 (k := 2) (by decide) q_45 rfl (zfv_i kd_1 rfl) dX9_number_90 rfl ?_
          obtain ⟨h10, eh10, hF⟩ := zlet_e hF
          refine z_callV (q := 96) (o := 1) (av := [.int (zi (h 1 2))]) (rest := []) (stk2 := []) C hR clX9 (zon C zo_1) kd_1 (M_fX9_blame (zlv hd rfl) eh10.symm) mY_X9_blame q_458 (Nat.le_of_ble_eq_true rfl) dX9_number_93 rfl rfl rfl ?_
          refine z_iload_n (q := 97) C dX9_number_96 3 rfl rfl rfl ?_
          have hF := Option.some.inj hF
          subst hF
          exact z_iret C e1 e2 dX9_number_97
    · have hF := (if_neg c6).symm.trans hF
      refine z_iload_n (q := 24) C dX9_number_23 3 rfl rfl rfl ?_
      refine z_bipush (q := 26) C dX9_number_24 bp_10 rfl ?_
      refine z_imul (q := 27) C dX9_number_26 rfl ?_
      refine z_iload_n (q := 28) C dX9_number_27 2 rfl rfl rfl ?_
      refine z_iadd (q := 29) C dX9_number_28 rfl ?_
      refine z_bipush (q := 31) C dX9_number_29 bp_48 rfl ?_
      refine z_isub (q := 32) C dX9_number_31 rfl ?_
      obtain ⟨v11, ev11, hF⟩ := zlet_e hF
      refine z_istoreE_n (q := 33) C ev11 dX9_number_32 (by decide) rfl rfl rfl ?_
      refine z_aload_n (q := 34) C dX9_number_33 1 rfl rfl rfl ?_
      refine z_dup (q := 35) C dX9_number_34 rfl rfl ?_
      refine z_getf (q := 38) C clX9 (zon C zo_1) kd_1 (k := 2) (by decide) q_45 rfl (zfv_i kd_1 rfl) dX9_number_35 rfl ?_
      refine z_iconst (q := 39) C dX9_number_38 rfl ?_
      refine z_iadd (q := 40) C dX9_number_39 rfl ?_
      obtain ⟨h12, eh12, hF⟩ := zlet_e hF
      refine z_putf (q := 43) C clX9 (zon C zo_1) kd_1 (k := 2) (x := (h 1 2) + 1) (by decide) q_45 rfl rfl rfl rfl (((zfv_i kd_1 rfl)).trans (by rw [if_pos rfl])) dX9_number_40 rfl eh12 ?_
      refine z_aload_n (q := 44) C dX9_number_43 1 rfl rfl rfl ?_
      refine z_getf (q := 47) C clX9 (zon C zo_1) kd_1 (k := 2) (by decide) q_45 rfl (zfv_i kd_1 rfl) dX9_number_44 rfl ?_
      refine z_aload_n (q := 48) C dX9_number_47 1 rfl rfl rfl ?_
      refine z_getf (q := 51) C clX9 (zon C zo_1) kd_1 (k := 1) (by decide) q_41 rfl (zfv_i kd_1 rfl) dX9_number_48 rfl ?_
      refine z_icmp_ge (tgt := 68) (q := 54) C dX9_number_51 (by decide) rfl (fun c13 => ?_) (fun c13 => ?_)
      · have hF := (if_pos c13).symm.trans hF
        refine z_iconst (q := 69) C dX9_number_68 rfl ?_
        refine z_istore_n (q := 70) C dX9_number_69 (by decide) rfl rfl rfl ?_
        refine z_iinc (q := 73) (x := l4) C dX9_number_70 (j := 4) rfl (by decide) rfl rfl ?_
        refine z_goto (q := 10) C dX9_number_73 (by decide) ?_
        exact z_sub (hK10 _ _ _ _ _ hF) [3, 4, 1, 2, 0] rfl
      · have hF := (if_neg c13).symm.trans hF
        refine z_aload_n (q := 55) C dX9_number_54 1 rfl rfl rfl ?_
        refine z_getf (q := 58) C clX9 (zon C zo_1) kd_1 (k := 0) (by decide) q_39 rfl (zfv_r kd_1 rfl fr_1_0) dX9_number_55 rfl ?_
        refine z_aload_n (q := 59) C dX9_number_58 1 rfl rfl rfl ?_
        refine z_getf (q := 62) C clX9 (zon C zo_1) kd_1 (k := 2) (by decide) q_45 rfl (zfv_i kd_1 rfl) dX9_number_59 rfl ?_
        refine z_callSN (q := 65) (av := [.ref (zα κ 15), .int (zi (h12 1 2))]) (rest := []) (stk2 := [.int (zi (fX10_at 15 (h12 1 2) h12))]) C hR (M_fX10_at (zlv hd rfl) zo_15 kd_15 rfl) mY_X10_at q_375 (Nat.le_of_ble_eq_true rfl) dX9_number_62 rfl rfl rfl ?_
        refine z_goto (q := 69) C dX9_number_65 (by decide) ?_
        obtain ⟨v14, ev14, hF⟩ := zlet_e hF
        refine z_istoreE_n (q := 70) C ev14 dX9_number_69 (by decide) rfl rfl rfl ?_
        refine z_iinc (q := 73) (x := l4) C dX9_number_70 (j := 4) rfl (by decide) rfl rfl ?_
        refine z_goto (q := 10) C dX9_number_73 (by decide) ?_
        exact z_sub (hK10 _ _ _ _ _ hF) [3, 4, 1, 2, 0] rfl
set_option maxRecDepth 20000 in
set_option maxHeartbeats 4000000 in
theorem J_fX9_number_c10 {κ : zT} (C : zC κ RX9 cX9_number 5 (some .int)) {d : Nat} (hR : zR κ = zrm (d + 1)) (hd : 3 ≤ d + 1) {N : Nat} {r : Int × zH} (e1 : zrv κ = some (.int (zi r.1))) (e2 : zhf κ = r.2) : ∀ (k : Nat) (l1 : Int) (l2 : Int) (l3 : Int) (l4 : Int) (h : zH), fX9_number_c10 N k l1 l2 l3 l4 h = some r → Z κ h 10 [(0, .ref (zα κ 1)), (1, .int (zi l1)), (2, .int (zi l2)), (3, .int (zi l3)), (4, .int (zi l4))] [] := by
  intro k
  induction k with
  | zero => intro l1 l2 l3 l4 h hF; cases hF
  | succ k ih => intro l1 l2 l3 l4 h hF; exact J_fX9_number_c10b C hR hd e1 e2 ih l1 l2 l3 l4 h hF
set_option maxRecDepth 20000 in
set_option maxHeartbeats 4000000 in
theorem J_fX9_number {κ : zT} (C : zC κ RX9 cX9_number 5 (some .int)) {d : Nat} (hR : zR κ = zrm (d + 1)) (hd : 3 ≤ d + 1) {N : Nat} {r : Int × zH} (e1 : zrv κ = some (.int (zi r.1))) (e2 : zhf κ = r.2) {a1 : Int} {h : zH} (hF : fX9_number N a1 h = some r) : Z κ h 0 [(0, .ref (zα κ 1)), (1, .int (zi a1))] [] := by
  unfold fX9_number at hF
  refine z_aload_n (q := 1) C dX9_number_0 0 rfl rfl rfl ?_
  obtain ⟨v2, h1, ev2, hF⟩ := z2_e hF
  refine z_callV (q := 4) (o := 1) (av := []) (rest := []) (stk2 := [.int (zi v2)]) C hR clX9 (zon C zo_1) kd_1 (M_fX9_next (zlv hd rfl) ev2) mY_X9_next q_454 (Nat.le_of_ble_eq_true rfl) dX9_number_1 rfl rfl rfl ?_
  refine z_istore_n (q := 5) C dX9_number_4 (by decide) rfl rfl rfl ?_
  refine z_iconst (q := 6) C dX9_number_5 rfl ?_
  refine z_istore_n (q := 7) C dX9_number_6 (by decide) rfl rfl rfl ?_
  refine z_iconst (q := 8) C dX9_number_7 rfl ?_
  refine z_istore (q := 10) C dX9_number_8 (by decide) rfl rfl ?_
  exact z_sub (J_fX9_number_c10 C hR hd e1 e2 N _ _ _ _ _ hF) [3, 4, 2, 1, 0] rfl
set_option maxRecDepth 20000 in
set_option maxHeartbeats 4000000 in
theorem M_fX9_number {l : Launch} {D : va_G} {cy : ClassId} {α : Nat → Nat} {n : Nat} {σ : zSg} {d : Nat} (hd : 3 ≤ d) {N : Nat} {a1 : Int} {h : zH} {r : Int} {g : zH} (hF : fX9_number N a1 h = some (r, g)) : zMet l yX9_number cX9_number 5 (some .int) (zrm d) D cy α n σ [.ref (α 1), .int (zi a1)] h (some (.int (zi r))) g := by
  obtain ⟨d, rfl⟩ : ∃ e, d = e + 1 := ⟨d - 1, by omega⟩
  refine z_met (by decide +kernel) (Nat.le_of_ble_eq_true rfl) (fun κ k1 k2 k3 k4 k5 k6 k7 k8 k9 C => ?_)
  subst k1 k3 k4 k5 k6 k7
  exact J_fX9_number C k2 hd k8 k9 hF
set_option maxRecDepth 20000 in
set_option maxHeartbeats 4000000 in
theorem J_fX1_readItems_c16b {κ : zT} (C : zC κ RX1 cX1_readItems 8 none) {d : Nat} (hR : zR κ = zrm (d + 1)) (hd : 8 ≤ d + 1) {N : Nat} {o0 : Nat} (ho0 : o0 < zN) (hd0 : zkd o0 = 1) {r : zH} (e1 : zrv κ = none) (e2 : zhf κ = r) {K16 : Int → Int → Int → Int → Int → zH → Option zH} (hK16 : ∀ (l2 : Int) (l3 : Int) (l4 : Int) (l5 : Int) (l6 : Int) (h : zH), K16 l2 l3 l4 l5 l6 h = some r → Z κ h 16 [(0, .ref (zα κ o0)), (1, .ref (zα κ 1)), (2, .int (zi l2)), (3, .int (zi l3)), (4, .int (zi l4)), (5, .int (zi l5)), (6, .int (zi l6))] []) (l2 : Int) (l3 : Int) (l4 : Int) (l5 : Int) (l6 : Int) (h : zH) (hF : fX1_readItems_c16b N o0 K16 l2 l3 l4 l5 l6 h = some r) : Z κ h 16 [(0, .ref (zα κ o0)), (1, .ref (zα κ 1)), (2, .int (zi l2)), (3, .int (zi l3)), (4, .int (zi l4)), (5, .int (zi l5)), (6, .int (zi l6))] [] := by
  unfold fX1_readItems_c16b at hF
  refine z_iload (q := 18) C dX1_readItems_16 6 rfl rfl ?_
  refine z_iconst (q := 19) C dX1_readItems_18 rfl ?_
  refine z_icmp_ge (tgt := 140) (q := 22) C dX1_readItems_19 (by decide) rfl (fun c1 => ?_) (fun c1 => ?_)
  · have hF := (if_pos c1).symm.trans hF
    have hF := Option.some.inj hF
    subst hF
    exact z_vret C e1 e2 dX1_readItems_140
  · have hF := (if_neg c1).symm.trans hF
    refine z_iload (q := 24) C dX1_readItems_22 5 rfl rfl ?_
    refine z_iconst (q := 25) C dX1_readItems_24 rfl ?_
    refine z_icmp_eq (tgt := 140) (q := 28) C dX1_readItems_25 (by decide) rfl (fun c2 => ?_) (fun c2 => ?_)
    · have hF := (if_pos c2).symm.trans hF
      have hF := Option.some.inj hF
      subst hF
      exact z_vret C e1 e2 dX1_readItems_140
    · have hF := (if_neg c2).symm.trans hF
      refine z_iload (q := 30) C dX1_readItems_28 4 rfl rfl ?_
      refine z_iload (q := 32) C dX1_readItems_30 5 rfl rfl ?_
      refine z_callSN (q := 35) (av := [.int (zi l4), .int (zi l5)]) (rest := []) (stk2 := [.int (zi (fX10_isIn l4 l5))]) C hR (M_fX10_isIn (zlv hd rfl) rfl) mY_X10_isIn q_447 (Nat.le_of_ble_eq_true rfl) dX1_readItems_32 rfl rfl rfl ?_
      refine z_if_ne (tgt := 140) (q := 38) C dX1_readItems_35 (by decide) rfl (fun c3 => ?_) (fun c3 => ?_)
      · have hF := (if_neg c3).symm.trans hF
        have hF := Option.some.inj hF
        subst hF
        exact z_vret C e1 e2 dX1_readItems_140
      · have hF := (if_pos c3).symm.trans hF
        refine z_iload (q := 40) C dX1_readItems_38 4 rfl rfl ?_
        refine z_iconst (q := 41) C dX1_readItems_40 rfl ?_
        refine z_iload (q := 43) C dX1_readItems_41 5 rfl rfl ?_
        refine z_ishl (q := 44) C dX1_readItems_43 rfl ?_
        refine z_ior (q := 45) C dX1_readItems_44 rfl ?_
        obtain ⟨v4, ev4, hF⟩ := zlet_e hF
        refine z_istoreE (q := 47) C ev4 dX1_readItems_45 (by decide) rfl rfl ?_
        refine z_aload_n (q := 48) C dX1_readItems_47 2 rfl rfl rfl ?_
        refine z_dup (q := 49) C dX1_readItems_48 rfl rfl ?_
        refine z_getf (q := 52) C clX9 (zon C zo_1) kd_1 (k := 2) (by decide) q_46 rfl (zfv_i kd_1 rfl) dX1_readItems_49 rfl ?_
        refine z_iconst (q := 53) C dX1_readItems_52 rfl ?_
        refine z_iadd (q := 54) C dX1_readItems_53 rfl ?_
        obtain ⟨h5, eh5, hF⟩ := zlet_e hF
        refine z_putf (q := 57) C clX9 (zon C zo_1) kd_1 (k := 2) (x := (h 1 2) + 1) (by decide) q_46 rfl rfl rfl rfl (((zfv_i kd_1 rfl)).trans (by rw [if_pos rfl])) dX1_readItems_54 rfl eh5 ?_
        refine z_aload_n (q := 58) C dX1_readItems_57 2 rfl rfl rfl ?_
        refine z_iconst (q := 59) C dX1_readItems_58 rfl ?_
        obtain ⟨v7, h6, ev7, hF⟩ := z2_e hF
        refine z_callV (q := 62) (o := 1) (av := [.int (zi 2)]) (rest := []) (stk2 := [.int (zi v7)]) C hR clX9 (zon C zo_1) kd_1 (M_fX9_number (zlv hd rfl) ev7) mY_X9_number q_450 (Nat.le_of_ble_eq_true rfl) dX1_readItems_59 rfl rfl rfl ?_
        refine z_istore (q := 64) C dX1_readItems_62 (by decide) rfl rfl ?_
        refine z_iload (q := 66) C dX1_readItems_64 0 rfl rfl ?_
        refine z_gets (q := 69) (i := 2) C (by decide) q_459 dX1_readItems_66 rfl ?_
        refine z_iload_n (q := 70) C dX1_readItems_69 4 rfl rfl rfl ?_
        refine z_iconst (q := 71) C dX1_readItems_70 rfl ?_
        refine z_imul (q := 72) C dX1_readItems_71 rfl ?_
        refine z_iload (q := 74) C dX1_readItems_72 6 rfl rfl ?_
        refine z_iadd (q := 75) C dX1_readItems_74 rfl ?_
        refine z_callSN (q := 78) (av := [.ref ((zσ κ).1 2), .int (zi ((l2 * 4) + l5))]) (rest := [.int (zi v7)]) (stk2 := [.int (zi (zats 2 ((l2 * 4) + l5))), .int (zi v7)]) C hR (M_zats (zlv hd rfl) (by decide)) mY_X10_at q_362 (Nat.le_of_ble_eq_true rfl) dX1_readItems_75 rfl rfl rfl ?_
        refine z_icmp_lt (tgt := 98) (q := 81) C dX1_readItems_78 (by decide) rfl (fun c8 => ?_) (fun c8 => ?_)
        · have hF := (if_pos c8).symm.trans hF
          refine z_aload_n (q := 99) C dX1_readItems_98 3 rfl rfl rfl ?_
          refine z_aload_n (q := 100) C dX1_readItems_99 3 rfl rfl rfl ?_
          refine z_getf (q := 103) C clX9 (zon C zo_1) kd_1 (k := 2) (by decide) q_46 rfl (zfv_i kd_1 rfl) dX1_readItems_100 rfl ?_
          refine z_iconst (q := 104) C dX1_readItems_103 rfl ?_
          refine z_isub (q := 105) C dX1_readItems_104 rfl ?_
          obtain ⟨h9, eh9, hF⟩ := zlet_e hF
          refine z_callV (q := 108) (o := 1) (av := [.int (zi ((h6 1 2) - 1))]) (rest := []) (stk2 := []) C hR clX9 (zon C zo_1) kd_1 (M_fX9_blame (zlv hd rfl) eh9.symm) mY_X9_blame q_433 (Nat.le_of_ble_eq_true rfl) dX1_readItems_105 rfl rfl rfl ?_
          refine z_aload_n (q := 109) C dX1_readItems_108 2 rfl rfl rfl ?_
          refine z_getf (q := 112) C clX1 (zon C ho0) hd0 (k := 0) (by decide) q_66 rfl (zfv_r hd0 rfl rfl) dX1_readItems_109 rfl ?_
          refine z_iload_n (q := 113) C dX1_readItems_112 4 rfl rfl rfl ?_
          refine z_iload_n (q := 114) C dX1_readItems_113 5 rfl rfl rfl ?_
          refine z_iload (q := 116) C dX1_readItems_114 6 rfl rfl ?_
          refine z_callS (q := 119) (av := [.int (zi l2), .int (zi l3), .int (zi l5)]) (rest := [.ref (zα κ (zfr o0 0))]) (stk2 := [.int (zi (fX1_cellOf l2 l3 l5)), .ref (zα κ (zfr o0 0))]) C hR (M_fX1_cellOf (zlv hd rfl) rfl) mY_X1_cellOf q_357 (Nat.le_of_ble_eq_true rfl) dX1_readItems_116 rfl rfl rfl ?_
          refine z_iload (q := 121) C dX1_readItems_119 0 rfl rfl ?_
          obtain ⟨h10, eh10, hF⟩ := zlet_e hF
          refine z_callSN (q := 124) (av := [.ref (zα κ (zfr o0 0)), .int (zi (fX1_cellOf l2 l3 l5)), .int (zi v7)]) (rest := []) (stk2 := []) C hR (M_fX10_put (zlv hd rfl) (frl_1_0 ho0 hd0) (frk_1_0 ho0 hd0) eh10.symm) mY_X10_put q_365 (Nat.le_of_ble_eq_true rfl) dX1_readItems_121 rfl rfl rfl ?_
          refine z_iload_n (q := 125) C dX1_readItems_124 4 rfl rfl rfl ?_
          refine z_aload_n (q := 126) C dX1_readItems_125 3 rfl rfl rfl ?_
          obtain ⟨v12, h11, ev12, hF⟩ := z2_e hF
          refine z_callV (q := 129) (o := 1) (av := []) (rest := [.int (zi l2)]) (stk2 := [.int (zi v12), .int (zi l2)]) C hR clX9 (zon C zo_1) kd_1 (M_fX9_next (zlv hd rfl) ev12) mY_X9_next q_371 (Nat.le_of_ble_eq_true rfl) dX1_readItems_126 rfl rfl rfl ?_
          obtain ⟨v13, ev13, hF⟩ := zb_e hF
          refine z_callS (q := 132) (av := [.int (zi l2), .int (zi v12)]) (rest := []) (stk2 := [.int (zi v13)]) C hR (M_fX1_itemOf (zlv hd rfl) ev13) mY_X1_itemOf q_441 (Nat.le_of_ble_eq_true rfl) dX1_readItems_129 rfl rfl rfl ?_
          refine z_istore (q := 134) C dX1_readItems_132 (by decide) rfl rfl ?_
          refine z_iinc (q := 137) (x := l6) C dX1_readItems_134 (j := 7) rfl (by decide) rfl rfl ?_
          refine z_goto (q := 16) C dX1_readItems_137 (by decide) ?_
          exact z_sub (hK16 _ _ _ _ _ _ hF) [4, 5, 6, 7, 3, 1, 0] rfl
        · have hF := (if_neg c8).symm.trans hF
          refine z_iload (q := 83) C dX1_readItems_81 0 rfl rfl ?_
          refine z_gets (q := 86) (i := 3) C (by decide) q_461 dX1_readItems_83 rfl ?_
          refine z_iload_n (q := 87) C dX1_readItems_86 4 rfl rfl rfl ?_
          refine z_iconst (q := 88) C dX1_readItems_87 rfl ?_
          refine z_imul (q := 89) C dX1_readItems_88 rfl ?_
          refine z_iload (q := 91) C dX1_readItems_89 6 rfl rfl ?_
          refine z_iadd (q := 92) C dX1_readItems_91 rfl ?_
          refine z_callSN (q := 95) (av := [.ref ((zσ κ).1 3), .int (zi ((l2 * 4) + l5))]) (rest := [.int (zi v7)]) (stk2 := [.int (zi (zats 3 ((l2 * 4) + l5))), .int (zi v7)]) C hR (M_zats (zlv hd rfl) (by decide)) mY_X10_at q_362 (Nat.le_of_ble_eq_true rfl) dX1_readItems_92 rfl rfl rfl ?_
          refine z_icmp_le (tgt := 108) (q := 98) C dX1_readItems_95 (by decide) rfl (fun c14 => ?_) (fun c14 => ?_)
          · have hF := (if_pos c14).symm.trans hF
            refine z_aload_n (q := 109) C dX1_readItems_108 2 rfl rfl rfl ?_
            refine z_getf (q := 112) C clX1 (zon C ho0) hd0 (k := 0) (by decide) q_66 rfl (zfv_r hd0 rfl rfl) dX1_readItems_109 rfl ?_
            refine z_iload_n (q := 113) C dX1_readItems_112 4 rfl rfl rfl ?_
            refine z_iload_n (q := 114) C dX1_readItems_113 5 rfl rfl rfl ?_
            refine z_iload (q := 116) C dX1_readItems_114 6 rfl rfl ?_
            refine z_callS (q := 119) (av := [.int (zi l2), .int (zi l3), .int (zi l5)]) (rest := [.ref (zα κ (zfr o0 0))]) (stk2 := [.int (zi (fX1_cellOf l2 l3 l5)), .ref (zα κ (zfr o0 0))]) C hR (M_fX1_cellOf (zlv hd rfl) rfl) mY_X1_cellOf q_357 (Nat.le_of_ble_eq_true rfl) dX1_readItems_116 rfl rfl rfl ?_
            refine z_iload (q := 121) C dX1_readItems_119 0 rfl rfl ?_
            obtain ⟨h15, eh15, hF⟩ := zlet_e hF
            refine z_callSN (q := 124) (av := [.ref (zα κ (zfr o0 0)), .int (zi (fX1_cellOf l2 l3 l5)), .int (zi v7)]) (rest := []) (stk2 := []) C hR (M_fX10_put (zlv hd rfl) (frl_1_0 ho0 hd0) (frk_1_0 ho0 hd0) eh15.symm) mY_X10_put q_365 (Nat.le_of_ble_eq_true rfl) dX1_readItems_121 rfl rfl rfl ?_
            refine z_iload_n (q := 125) C dX1_readItems_124 4 rfl rfl rfl ?_
            refine z_aload_n (q := 126) C dX1_readItems_125 3 rfl rfl rfl ?_
            obtain ⟨v17, h16, ev17, hF⟩ := z2_e hF
            refine z_callV (q := 129) (o := 1) (av := []) (rest := [.int (zi l2)]) (stk2 := [.int (zi v17), .int (zi l2)]) C hR clX9 (zon C zo_1) kd_1 (M_fX9_next (zlv hd rfl) ev17) mY_X9_next q_371 (Nat.le_of_ble_eq_true rfl) dX1_readItems_126 rfl rfl rfl ?_
            obtain ⟨v18, ev18, hF⟩ := zb_e hF
            refine z_callS (q := 132) (av := [.int (zi l2), .int (zi v17)]) (rest := []) (stk2 := [.int (zi v18)]) C hR (M_fX1_itemOf (zlv hd rfl) ev18) mY_X1_itemOf q_441 (Nat.le_of_ble_eq_true rfl) dX1_readItems_129 rfl rfl rfl ?_
            refine z_istore (q := 134) C dX1_readItems_132 (by decide) rfl rfl ?_
            refine z_iinc (q := 137) (x := l6) C dX1_readItems_134 (j := 7) rfl (by decide) rfl rfl ?_
            refine z_goto (q := 16) C dX1_readItems_137 (by decide) ?_
            exact z_sub (hK16 _ _ _ _ _ _ hF) [4, 5, 6, 7, 3, 1, 0] rfl
          · have hF := (if_neg c14).symm.trans hF
            refine z_aload_n (q := 99) C dX1_readItems_98 3 rfl rfl rfl ?_
            refine z_aload_n (q := 100) C dX1_readItems_99 3 rfl rfl rfl ?_
            refine z_getf (q := 103) C clX9 (zon C zo_1) kd_1 (k := 2) (by decide) q_46 rfl (zfv_i kd_1 rfl) dX1_readItems_100 rfl ?_
            refine z_iconst (q := 104) C dX1_readItems_103 rfl ?_
            refine z_isub (q := 105) C dX1_readItems_104 rfl ?_
            obtain ⟨h19, eh19, hF⟩ := zlet_e hF
            refine z_callV (q := 108) (o := 1) (av := [.int (zi ((h6 1 2) - 1))]) (rest := []) (stk2 := []) C hR clX9 (zon C zo_1) kd_1 (M_fX9_blame (zlv hd rfl) eh19.symm) mY_X9_blame q_433 (Nat.le_of_ble_eq_true rfl) dX1_readItems_105 rfl rfl rfl ?_
            refine z_aload_n (q := 109) C dX1_readItems_108 2 rfl rfl rfl ?_
            refine z_getf (q := 112) C clX1 (zon C ho0) hd0 (k := 0) (by decide) q_66 rfl (zfv_r hd0 rfl rfl) dX1_readItems_109 rfl ?_
            refine z_iload_n (q := 113) C dX1_readItems_112 4 rfl rfl rfl ?_
            refine z_iload_n (q := 114) C dX1_readItems_113 5 rfl rfl rfl ?_
            refine z_iload (q := 116) C dX1_readItems_114 6 rfl rfl ?_
            refine z_callS (q := 119) (av := [.int (zi l2), .int (zi l3), .int (zi l5)]) (rest := [.ref (zα κ (zfr o0 0))]) (stk2 := [.int (zi (fX1_cellOf l2 l3 l5)), .ref (zα κ (zfr o0 0))]) C hR (M_fX1_cellOf (zlv hd rfl) rfl) mY_X1_cellOf q_357 (Nat.le_of_ble_eq_true rfl) dX1_readItems_116 rfl rfl rfl ?_
            refine z_iload (q := 121) C dX1_readItems_119 0 rfl rfl ?_
            obtain ⟨h20, eh20, hF⟩ := zlet_e hF
            refine z_callSN (q := 124) (av := [.ref (zα κ (zfr o0 0)), .int (zi (fX1_cellOf l2 l3 l5)), .int (zi v7)]) (rest := []) (stk2 := []) C hR (M_fX10_put (zlv hd rfl) (frl_1_0 ho0 hd0) (frk_1_0 ho0 hd0) eh20.symm) mY_X10_put q_365 (Nat.le_of_ble_eq_true rfl) dX1_readItems_121 rfl rfl rfl ?_
            refine z_iload_n (q := 125) C dX1_readItems_124 4 rfl rfl rfl ?_
            refine z_aload_n (q := 126) C dX1_readItems_125 3 rfl rfl rfl ?_
            obtain ⟨v22, h21, ev22, hF⟩ := z2_e hF
            refine z_callV (q := 129) (o := 1) (av := []) (rest := [.int (zi l2)]) (stk2 := [.int (zi v22), .int (zi l2)]) C hR clX9 (zon C zo_1) kd_1 (M_fX9_next (zlv hd rfl) ev22) mY_X9_next q_371 (Nat.le_of_ble_eq_true rfl) dX1_readItems_126 rfl rfl rfl ?_
            obtain ⟨v23, ev23, hF⟩ := zb_e hF
            refine z_callS (q := 132) (av := [.int (zi l2), .int (zi v22)]) (rest := []) (stk2 := [.int (zi v23)]) C hR (M_fX1_itemOf (zlv hd rfl) ev23) mY_X1_itemOf q_441 (Nat.le_of_ble_eq_true rfl) dX1_readItems_129 rfl rfl rfl ?_
            refine z_istore (q := 134) C dX1_readItems_132 (by decide) rfl rfl ?_
            refine z_iinc (q := 137) (x := l6) C dX1_readItems_134 (j := 7) rfl (by decide) rfl rfl ?_
            refine z_goto (q := 16) C dX1_readItems_137 (by decide) ?_
            exact z_sub (hK16 _ _ _ _ _ _ hF) [4, 5, 6, 7, 3, 1, 0] rfl
set_option maxRecDepth 20000 in
set_option maxHeartbeats 4000000 in
theorem J_fX1_readItems_c16 {κ : zT} (C : zC κ RX1 cX1_readItems 8 none) {d : Nat} (hR : zR κ = zrm (d + 1)) (hd : 8 ≤ d + 1) {N : Nat} {o0 : Nat} (ho0 : o0 < zN) (hd0 : zkd o0 = 1) {r : zH} (e1 : zrv κ = none) (e2 : zhf κ = r) : ∀ (k : Nat) (l2 : Int) (l3 : Int) (l4 : Int) (l5 : Int) (l6 : Int) (h : zH), fX1_readItems_c16 N o0 k l2 l3 l4 l5 l6 h = some r → Z κ h 16 [(0, .ref (zα κ o0)), (1, .ref (zα κ 1)), (2, .int (zi l2)), (3, .int (zi l3)), (4, .int (zi l4)), (5, .int (zi l5)), (6, .int (zi l6))] [] := by
  intro k
  induction k with
  | zero => intro l2 l3 l4 l5 l6 h hF; cases hF
  | succ k ih => intro l2 l3 l4 l5 l6 h hF; exact J_fX1_readItems_c16b C hR hd ho0 hd0 e1 e2 ih l2 l3 l4 l5 l6 h hF
set_option maxRecDepth 20000 in
set_option maxHeartbeats 4000000 in
theorem J_fX1_readItems {κ : zT} (C : zC κ RX1 cX1_readItems 8 none) {d : Nat} (hR : zR κ = zrm (d + 1)) (hd : 8 ≤ d + 1) {N : Nat} {o0 : Nat} (ho0 : o0 < zN) (hd0 : zkd o0 = 1) {r : zH} (e1 : zrv κ = none) (e2 : zhf κ = r) {a2 : Int} {a3 : Int} {h : zH} (hF : fX1_readItems N o0 a2 a3 h = some r) : Z κ h 0 [(0, .ref (zα κ o0)), (1, .ref (zα κ 1)), (2, .int (zi a2)), (3, .int (zi a3))] [] := by
  unfold fX1_readItems at hF
  refine z_iconst (q := 1) C dX1_readItems_0 rfl ?_
  refine z_istore (q := 3) C dX1_readItems_1 (by decide) rfl rfl ?_
  refine z_iload_n (q := 4) C dX1_readItems_3 3 rfl rfl rfl ?_
  refine z_aload_n (q := 5) C dX1_readItems_4 2 rfl rfl rfl ?_
  obtain ⟨v2, h1, ev2, hF⟩ := z2_e hF
  refine z_callV (q := 8) (o := 1) (av := []) (rest := [.int (zi a2)]) (stk2 := [.int (zi v2), .int (zi a2)]) C hR clX9 (zon C zo_1) kd_1 (M_fX9_next (zlv hd rfl) ev2) mY_X9_next q_371 (Nat.le_of_ble_eq_true rfl) dX1_readItems_5 rfl rfl rfl ?_
  obtain ⟨v3, ev3, hF⟩ := zb_e hF
  refine z_callS (q := 11) (av := [.int (zi a2), .int (zi v2)]) (rest := []) (stk2 := [.int (zi v3)]) C hR (M_fX1_itemOf (zlv hd rfl) ev3) mY_X1_itemOf q_441 (Nat.le_of_ble_eq_true rfl) dX1_readItems_8 rfl rfl rfl ?_
  refine z_istore (q := 13) C dX1_readItems_11 (by decide) rfl rfl ?_
  refine z_iconst (q := 14) C dX1_readItems_13 rfl ?_
  refine z_istore (q := 16) C dX1_readItems_14 (by decide) rfl rfl ?_
  exact z_sub (J_fX1_readItems_c16 C hR hd ho0 hd0 e1 e2 N _ _ _ _ _ _ hF) [3, 4, 5, 6, 2, 1, 0] rfl
set_option maxRecDepth 20000 in
set_option maxHeartbeats 4000000 in
theorem M_fX1_readItems {l : Launch} {D : va_G} {cy : ClassId} {α : Nat → Nat} {n : Nat} {σ : zSg} {d : Nat} (hd : 8 ≤ d) {N : Nat} {o0 : Nat} (ho0 : o0 < zN) (hd0 : zkd o0 = 1) {a2 : Int} {a3 : Int} {h : zH} {g : zH} (hF : fX1_readItems N o0 a2 a3 h = some g) : zMet l yX1_readItems cX1_readItems 8 none (zrm d) D cy α n σ [.ref (α o0), .ref (α 1), .int (zi a2), .int (zi a3)] h (none) g := by
  obtain ⟨d, rfl⟩ : ∃ e, d = e + 1 := ⟨d - 1, by omega⟩
  refine z_met (by decide +kernel) (Nat.le_of_ble_eq_true rfl) (fun κ k1 k2 k3 k4 k5 k6 k7 k8 k9 C => ?_)
  subst k1 k3 k4 k5 k6 k7
  exact J_fX1_readItems C k2 hd ho0 hd0 k8 k9 hF
set_option maxRecDepth 20000 in
set_option maxHeartbeats 4000000 in
theorem J_fX1_readClause {κ : zT} (C : zC κ RX1 cX1_readClause 4 none) {d : Nat} (hR : zR κ = zrm (d + 1)) (hd : 9 ≤ d + 1) {N : Nat} {o0 : Nat} (ho0 : o0 < zN) (hd0 : zkd o0 = 1) {r : zH} (e1 : zrv κ = none) (e2 : zhf κ = r) {h : zH} (hF : fX1_readClause N o0 h = some r) : Z κ h 0 [(0, .ref (zα κ o0)), (1, .ref (zα κ 1))] [] := by
  unfold fX1_readClause at hF
  refine z_ldcS (q := 2) (i := 0) C (by decide) rfl rfl dX1_readClause_0 rfl ?_
  refine z_aload_n (q := 3) C dX1_readClause_2 1 rfl rfl rfl ?_
  obtain ⟨v2, h1, ev2, hF⟩ := z2_e hF
  refine z_callV (q := 6) (o := 1) (av := []) (rest := [.ref ((zσ κ).2.1 0)]) (stk2 := [.int (zi v2), .ref ((zσ κ).2.1 0)]) C hR clX9 (zon C zo_1) kd_1 (M_fX9_next (zlv hd rfl) ev2) mY_X9_next q_371 (Nat.le_of_ble_eq_true rfl) dX1_readClause_3 rfl rfl rfl ?_
  obtain ⟨v3, ev3, hF⟩ := zb_e hF
  refine z_callSN (q := 9) (av := [.ref ((zσ κ).2.1 0), .int (zi v2)]) (rest := []) (stk2 := [.int (zi v3)]) C hR (M_fX10_placeIn (zlv hd rfl) (by decide) ev3) mY_X10_placeIn q_376 (Nat.le_of_ble_eq_true rfl) dX1_readClause_6 rfl rfl rfl ?_
  refine z_istore_n (q := 10) C dX1_readClause_9 (by decide) rfl rfl rfl ?_
  refine z_iload_n (q := 11) C dX1_readClause_10 0 rfl rfl rfl ?_
  refine z_if_lt (tgt := 29) (q := 14) C dX1_readClause_11 (by decide) rfl (fun c4 => ?_) (fun c4 => ?_)
  · have hF := (if_pos c4).symm.trans hF
    refine z_aload_n (q := 30) C dX1_readClause_29 2 rfl rfl rfl ?_
    refine z_aload_n (q := 31) C dX1_readClause_30 2 rfl rfl rfl ?_
    refine z_getf (q := 34) C clX9 (zon C zo_1) kd_1 (k := 2) (by decide) q_46 rfl (zfv_i kd_1 rfl) dX1_readClause_31 rfl ?_
    obtain ⟨h5, eh5, hF⟩ := zlet_e hF
    refine z_callV (q := 37) (o := 1) (av := [.int (zi (h1 1 2))]) (rest := []) (stk2 := []) C hR clX9 (zon C zo_1) kd_1 (M_fX9_blame (zlv hd rfl) eh5.symm) mY_X9_blame q_433 (Nat.le_of_ble_eq_true rfl) dX1_readClause_34 rfl rfl rfl ?_
    have hF := Option.some.inj hF
    subst hF
    exact z_vret C e1 e2 dX1_readClause_37
  · have hF := (if_neg c4).symm.trans hF
    refine z_aload_n (q := 15) C dX1_readClause_14 1 rfl rfl rfl ?_
    refine z_iload_n (q := 16) C dX1_readClause_15 0 rfl rfl rfl ?_
    refine z_callV (q := 19) (o := o0) (av := [.int (zi v3)]) (rest := []) (stk2 := [.int (zi (fX1_many o0 v3 h1))]) C hR clX1 (zon C ho0) hd0 (M_fX1_many (zlv hd rfl) ho0 hd0 rfl) mY_X1_many q_427 (Nat.le_of_ble_eq_true rfl) dX1_readClause_16 rfl rfl rfl ?_
    refine z_gets (q := 22) (i := 1) C (by decide) q_431 dX1_readClause_19 rfl ?_
    refine z_iload_n (q := 23) C dX1_readClause_22 0 rfl rfl rfl ?_
    refine z_callSN (q := 26) (av := [.ref ((zσ κ).1 1), .int (zi v3)]) (rest := [.int (zi (fX1_many o0 v3 h1))]) (stk2 := [.int (zi (zats 1 v3)), .int (zi (fX1_many o0 v3 h1))]) C hR (M_zats (zlv hd rfl) (by decide)) mY_X10_at q_362 (Nat.le_of_ble_eq_true rfl) dX1_readClause_23 rfl rfl rfl ?_
    refine z_icmp_lt (tgt := 38) (q := 29) C dX1_readClause_26 (by decide) rfl (fun c6 => ?_) (fun c6 => ?_)
    · have hF := (if_pos c6).symm.trans hF
      refine z_aload_n (q := 39) C dX1_readClause_38 2 rfl rfl rfl ?_
      refine z_dup (q := 40) C dX1_readClause_39 rfl rfl ?_
      refine z_getf (q := 43) C clX9 (zon C zo_1) kd_1 (k := 2) (by decide) q_46 rfl (zfv_i kd_1 rfl) dX1_readClause_40 rfl ?_
      refine z_iconst (q := 44) C dX1_readClause_43 rfl ?_
      refine z_iadd (q := 45) C dX1_readClause_44 rfl ?_
      obtain ⟨h7, eh7, hF⟩ := zlet_e hF
      refine z_putf (q := 48) C clX9 (zon C zo_1) kd_1 (k := 2) (x := (h1 1 2) + 1) (by decide) q_46 rfl rfl rfl rfl (((zfv_i kd_1 rfl)).trans (by rw [if_pos rfl])) dX1_readClause_45 rfl eh7 ?_
      refine z_aload_n (q := 49) C dX1_readClause_48 1 rfl rfl rfl ?_
      refine z_iload_n (q := 50) C dX1_readClause_49 0 rfl rfl rfl ?_
      refine z_callV (q := 53) (o := o0) (av := [.int (zi v3)]) (rest := []) (stk2 := [.int (zi (fX1_many o0 v3 h7))]) C hR clX1 (zon C ho0) hd0 (M_fX1_many (zlv hd rfl) ho0 hd0 rfl) mY_X1_many q_427 (Nat.le_of_ble_eq_true rfl) dX1_readClause_50 rfl rfl rfl ?_
      obtain ⟨v8, ev8, hF⟩ := zlet_e hF
      refine z_istoreE_n (q := 54) C ev8 dX1_readClause_53 (by decide) rfl rfl rfl ?_
      refine z_aload_n (q := 55) C dX1_readClause_54 2 rfl rfl rfl ?_
      refine z_getf (q := 58) C clX1 (zon C ho0) hd0 (k := 1) (by decide) q_67 rfl (zfv_r hd0 rfl rfl) dX1_readClause_55 rfl ?_
      refine z_iload_n (q := 59) C dX1_readClause_58 1 rfl rfl rfl ?_
      refine z_iload_n (q := 60) C dX1_readClause_59 0 rfl rfl rfl ?_
      refine z_iconst (q := 61) C dX1_readClause_60 rfl ?_
      refine z_iadd (q := 62) C dX1_readClause_61 rfl ?_
      obtain ⟨h9, eh9, hF⟩ := zlet_e hF
      refine z_callSN (q := 65) (av := [.ref (zα κ (zfr o0 1)), .int (zi v3), .int (zi (v8 + 1))]) (rest := []) (stk2 := []) C hR (M_fX10_put (zlv hd rfl) (frl_1_1 ho0 hd0) (frk_1_1 ho0 hd0) eh9.symm) mY_X10_put q_365 (Nat.le_of_ble_eq_true rfl) dX1_readClause_62 rfl rfl rfl ?_
      refine z_aload_n (q := 66) C dX1_readClause_65 2 rfl rfl rfl ?_
      refine z_iload_n (q := 67) C dX1_readClause_66 1 rfl rfl rfl ?_
      refine z_iload_n (q := 68) C dX1_readClause_67 0 rfl rfl rfl ?_
      obtain ⟨h10, eh10, hF⟩ := zb_e hF
      refine z_callV (q := 71) (o := o0) (av := [.int (zi v3), .int (zi v8)]) (rest := []) (stk2 := []) C hR clX1 (zon C ho0) hd0 (M_fX1_useUntold (zlv hd rfl) ho0 hd0 eh10) mY_X1_useUntold q_353 (Nat.le_of_ble_eq_true rfl) dX1_readClause_68 rfl rfl rfl ?_
      refine z_aload_n (q := 72) C dX1_readClause_71 2 rfl rfl rfl ?_
      refine z_aload_n (q := 73) C dX1_readClause_72 3 rfl rfl rfl ?_
      refine z_iload_n (q := 74) C dX1_readClause_73 1 rfl rfl rfl ?_
      refine z_iload_n (q := 75) C dX1_readClause_74 0 rfl rfl rfl ?_
      obtain ⟨h11, eh11, hF⟩ := zb_e hF
      refine z_callV (q := 78) (o := o0) (av := [.ref (zα κ 1), .int (zi v3), .int (zi v8)]) (rest := []) (stk2 := []) C hR clX1 (zon C ho0) hd0 (M_fX1_readItems (zlv hd rfl) ho0 hd0 eh11) mY_X1_readItems q_437 (Nat.le_of_ble_eq_true rfl) dX1_readClause_75 rfl rfl rfl ?_
      have hF := Option.some.inj hF
      subst hF
      exact z_vret C e1 e2 dX1_readClause_78
    · have hF := (if_neg c6).symm.trans hF
      refine z_aload_n (q := 30) C dX1_readClause_29 2 rfl rfl rfl ?_
      refine z_aload_n (q := 31) C dX1_readClause_30 2 rfl rfl rfl ?_
      refine z_getf (q := 34) C clX9 (zon C zo_1) kd_1 (k := 2) (by decide) q_46 rfl (zfv_i kd_1 rfl) dX1_readClause_31 rfl ?_
      obtain ⟨h12, eh12, hF⟩ := zlet_e hF
      refine z_callV (q := 37) (o := 1) (av := [.int (zi (h1 1 2))]) (rest := []) (stk2 := []) C hR clX9 (zon C zo_1) kd_1 (M_fX9_blame (zlv hd rfl) eh12.symm) mY_X9_blame q_433 (Nat.le_of_ble_eq_true rfl) dX1_readClause_34 rfl rfl rfl ?_
      have hF := Option.some.inj hF
      subst hF
      exact z_vret C e1 e2 dX1_readClause_37
set_option maxRecDepth 20000 in
set_option maxHeartbeats 4000000 in
theorem M_fX1_readClause {l : Launch} {D : va_G} {cy : ClassId} {α : Nat → Nat} {n : Nat} {σ : zSg} {d : Nat} (hd : 9 ≤ d) {N : Nat} {o0 : Nat} (ho0 : o0 < zN) (hd0 : zkd o0 = 1) {h : zH} {g : zH} (hF : fX1_readClause N o0 h = some g) : zMet l yX1_readClause cX1_readClause 4 none (zrm d) D cy α n σ [.ref (α o0), .ref (α 1)] h (none) g := by
  obtain ⟨d, rfl⟩ : ∃ e, d = e + 1 := ⟨d - 1, by omega⟩
  refine z_met (by decide +kernel) (Nat.le_of_ble_eq_true rfl) (fun κ k1 k2 k3 k4 k5 k6 k7 k8 k9 C => ?_)
  subst k1 k3 k4 k5 k6 k7
  exact J_fX1_readClause C k2 hd ho0 hd0 k8 k9 hF
set_option maxRecDepth 20000 in
set_option maxHeartbeats 4000000 in
theorem J_fX9_take {κ : zT} (C : zC κ RX9 cX9_take 2 (some .boolean)) {d : Nat} (hR : zR κ = zrm (d + 1)) (hd : 3 ≤ d + 1) {N : Nat} {r : Int × zH} (e1 : zrv κ = some (.int (zi r.1))) (e2 : zhf κ = r.2) {a1 : Int} {h : zH} (hF : fX9_take N a1 h = some r) : Z κ h 0 [(0, .ref (zα κ 1)), (1, .int (zi a1))] [] := by
  unfold fX9_take at hF
  refine z_aload_n (q := 1) C dX9_take_0 0 rfl rfl rfl ?_
  obtain ⟨v2, h1, ev2, hF⟩ := z2_e hF
  refine z_callV (q := 4) (o := 1) (av := []) (rest := []) (stk2 := [.int (zi v2)]) C hR clX9 (zon C zo_1) kd_1 (M_fX9_next (zlv hd rfl) ev2) mY_X9_next q_454 (Nat.le_of_ble_eq_true rfl) dX9_take_1 rfl rfl rfl ?_
  refine z_iload_n (q := 5) C dX9_take_4 1 rfl rfl rfl ?_
  refine z_icmp_eq (tgt := 10) (q := 8) C dX9_take_5 (by decide) rfl (fun c3 => ?_) (fun c3 => ?_)
  · have hF := (if_pos c3).symm.trans hF
    refine z_aload_n (q := 11) C dX9_take_10 0 rfl rfl rfl ?_
    refine z_dup (q := 12) C dX9_take_11 rfl rfl ?_
    refine z_getf (q := 15) C clX9 (zon C zo_1) kd_1 (k := 2) (by decide) q_45 rfl (zfv_i kd_1 rfl) dX9_take_12 rfl ?_
    refine z_iconst (q := 16) C dX9_take_15 rfl ?_
    refine z_iadd (q := 17) C dX9_take_16 rfl ?_
    obtain ⟨h4, eh4, hF⟩ := zlet_e hF
    refine z_putf (q := 20) C clX9 (zon C zo_1) kd_1 (k := 2) (x := (h1 1 2) + 1) (by decide) q_45 rfl rfl rfl rfl (((zfv_i kd_1 rfl)).trans (by rw [if_pos rfl])) dX9_take_17 rfl eh4 ?_
    refine z_iconst (q := 21) C dX9_take_20 rfl ?_
    have hF := Option.some.inj hF
    subst hF
    exact z_zret C (zb01 (Or.inr rfl)) e1 e2 dX9_take_21
  · have hF := (if_neg c3).symm.trans hF
    refine z_iconst (q := 9) C dX9_take_8 rfl ?_
    have hF := Option.some.inj hF
    subst hF
    exact z_zret C (zb01 (Or.inl rfl)) e1 e2 dX9_take_9
set_option maxRecDepth 20000 in
set_option maxHeartbeats 4000000 in
theorem M_fX9_take {l : Launch} {D : va_G} {cy : ClassId} {α : Nat → Nat} {n : Nat} {σ : zSg} {d : Nat} (hd : 3 ≤ d) {N : Nat} {a1 : Int} {h : zH} {r : Int} {g : zH} (hF : fX9_take N a1 h = some (r, g)) : zMet l yX9_take cX9_take 2 (some .boolean) (zrm d) D cy α n σ [.ref (α 1), .int (zi a1)] h (some (.int (zi r))) g := by
  obtain ⟨d, rfl⟩ : ∃ e, d = e + 1 := ⟨d - 1, by omega⟩
  refine z_met (by decide +kernel) (Nat.le_of_ble_eq_true rfl) (fun κ k1 k2 k3 k4 k5 k6 k7 k8 k9 C => ?_)
  subst k1 k3 k4 k5 k6 k7
  exact J_fX9_take C k2 hd k8 k9 hF
set_option maxRecDepth 20000 in
set_option maxHeartbeats 4000000 in
theorem J_fX9_close {κ : zT} (C : zC κ RX9 cX9_close 1 (some .int)) {d : Nat} (hR : zR κ = zrm (d + 1)) (hd : 3 ≤ d + 1) {N : Nat} {r : Int × zH} (e1 : zrv κ = some (.int (zi r.1))) (e2 : zhf κ = r.2) {h : zH} (hF : fX9_close N h = some r) : Z κ h 0 [(0, .ref (zα κ 1))] [] := by
  unfold fX9_close at hF
  refine z_aload_n (q := 1) C dX9_close_0 0 rfl rfl rfl ?_
  obtain ⟨v2, h1, ev2, hF⟩ := z2_e hF
  refine z_callV (q := 4) (o := 1) (av := []) (rest := []) (stk2 := [.int (zi v2)]) C hR clX9 (zon C zo_1) kd_1 (M_fX9_next (zlv hd rfl) ev2) mY_X9_next q_454 (Nat.le_of_ble_eq_true rfl) dX9_close_1 rfl rfl rfl ?_
  refine z_iconst (q := 5) C dX9_close_4 rfl ?_
  refine z_icmp_eq (tgt := 16) (q := 8) C dX9_close_5 (by decide) rfl (fun c3 => ?_) (fun c3 => ?_)
  · have hF := (if_pos c3).symm.trans hF
    refine z_aload_n (q := 17) C dX9_close_16 0 rfl rfl rfl ?_
    refine z_getf (q := 20) C clX9 (zon C zo_1) kd_1 (k := 3) (by decide) q_47 rfl (zfv_i kd_1 rfl) dX9_close_17 rfl ?_
    have hF := Option.some.inj hF
    subst hF
    exact z_iret C e1 e2 dX9_close_20
  · have hF := (if_neg c3).symm.trans hF
    refine z_aload_n (q := 9) C dX9_close_8 0 rfl rfl rfl ?_
    refine z_aload_n (q := 10) C dX9_close_9 0 rfl rfl rfl ?_
    refine z_getf (q := 13) C clX9 (zon C zo_1) kd_1 (k := 2) (by decide) q_45 rfl (zfv_i kd_1 rfl) dX9_close_10 rfl ?_
    obtain ⟨h4, eh4, hF⟩ := zlet_e hF
    refine z_callV (q := 16) (o := 1) (av := [.int (zi (h1 1 2))]) (rest := []) (stk2 := []) C hR clX9 (zon C zo_1) kd_1 (M_fX9_blame (zlv hd rfl) eh4.symm) mY_X9_blame q_458 (Nat.le_of_ble_eq_true rfl) dX9_close_13 rfl rfl rfl ?_
    refine z_aload_n (q := 17) C dX9_close_16 0 rfl rfl rfl ?_
    refine z_getf (q := 20) C clX9 (zon C zo_1) kd_1 (k := 3) (by decide) q_47 rfl (zfv_i kd_1 rfl) dX9_close_17 rfl ?_
    have hF := Option.some.inj hF
    subst hF
    exact z_iret C e1 e2 dX9_close_20
set_option maxRecDepth 20000 in
set_option maxHeartbeats 4000000 in
theorem M_fX9_close {l : Launch} {D : va_G} {cy : ClassId} {α : Nat → Nat} {n : Nat} {σ : zSg} {d : Nat} (hd : 3 ≤ d) {N : Nat} {h : zH} {r : Int} {g : zH} (hF : fX9_close N h = some (r, g)) : zMet l yX9_close cX9_close 1 (some .int) (zrm d) D cy α n σ [.ref (α 1)] h (some (.int (zi r))) g := by
  obtain ⟨d, rfl⟩ : ∃ e, d = e + 1 := ⟨d - 1, by omega⟩
  refine z_met (by decide +kernel) (Nat.le_of_ble_eq_true rfl) (fun κ k1 k2 k3 k4 k5 k6 k7 k8 k9 C => ?_)
  subst k1 k3 k4 k5 k6 k7
  exact J_fX9_close C k2 hd k8 k9 hF
set_option maxRecDepth 20000 in
set_option maxHeartbeats 4000000 in
theorem J_fX1_item {κ : zT} (C : zC κ RX1 cX1_item 4 (some .int)) {d : Nat} (hR : zR κ = zrm (d + 1)) (hd : 2 ≤ d + 1) {o0 : Nat} (ho0 : o0 < zN) (hd0 : zkd o0 = 1) {h : zH} {r : Int} (e1 : zrv κ = some (.int (zi r))) (e2 : zhf κ = h) {a1 : Int} {a2 : Int} {a3 : Int} (hF : fX1_item o0 a1 a2 a3 h = r) : Z κ h 0 [(0, .ref (zα κ o0)), (1, .int (zi a1)), (2, .int (zi a2)), (3, .int (zi a3))] [] := by
  unfold fX1_item at hF
  refine z_aload_n (q := 1) C dX1_item_0 0 rfl rfl rfl ?_
  refine z_getf (q := 4) C clX1 (zon C ho0) hd0 (k := 0) (by decide) q_66 rfl (zfv_r hd0 rfl rfl) dX1_item_1 rfl ?_
  refine z_iload_n (q := 5) C dX1_item_4 1 rfl rfl rfl ?_
  refine z_iload_n (q := 6) C dX1_item_5 2 rfl rfl rfl ?_
  refine z_iload_n (q := 7) C dX1_item_6 3 rfl rfl rfl ?_
  refine z_callS (q := 10) (av := [.int (zi a1), .int (zi a2), .int (zi a3)]) (rest := [.ref (zα κ (zfr o0 0))]) (stk2 := [.int (zi (fX1_cellOf a1 a2 a3)), .ref (zα κ (zfr o0 0))]) C hR (M_fX1_cellOf (zlv hd rfl) rfl) mY_X1_cellOf q_357 (Nat.le_of_ble_eq_true rfl) dX1_item_7 rfl rfl rfl ?_
  refine z_callSN (q := 13) (av := [.ref (zα κ (zfr o0 0)), .int (zi (fX1_cellOf a1 a2 a3))]) (rest := []) (stk2 := [.int (zi (fX10_at (zfr o0 0) (fX1_cellOf a1 a2 a3) h))]) C hR (M_fX10_at (zlv hd rfl) (frl_1_0 ho0 hd0) (frk_1_0 ho0 hd0) rfl) mY_X10_at q_362 (Nat.le_of_ble_eq_true rfl) dX1_item_10 rfl rfl rfl ?_
  subst hF
  exact z_iret C e1 e2 dX1_item_13
set_option maxRecDepth 20000 in
set_option maxHeartbeats 4000000 in
theorem M_fX1_item {l : Launch} {D : va_G} {cy : ClassId} {α : Nat → Nat} {n : Nat} {σ : zSg} {d : Nat} (hd : 2 ≤ d) {o0 : Nat} (ho0 : o0 < zN) (hd0 : zkd o0 = 1) {a1 : Int} {a2 : Int} {a3 : Int} {h : zH} {r : Int} (hF : fX1_item o0 a1 a2 a3 h = r) : zMet l yX1_item cX1_item 4 (some .int) (zrm d) D cy α n σ [.ref (α o0), .int (zi a1), .int (zi a2), .int (zi a3)] h (some (.int (zi r))) h := by
  obtain ⟨d, rfl⟩ : ∃ e, d = e + 1 := ⟨d - 1, by omega⟩
  refine z_met (by decide +kernel) (Nat.le_of_ble_eq_true rfl) (fun κ k1 k2 k3 k4 k5 k6 k7 k8 k9 C => ?_)
  subst k1 k3 k4 k5 k6 k7
  exact J_fX1_item C k2 hd ho0 hd0 k8 k9 hF
