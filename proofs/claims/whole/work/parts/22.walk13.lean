set_option maxRecDepth 20000 in
set_option maxHeartbeats 4000000 in
theorem J_fX11_desk {κ : zT} (C : zC κ RX11 cX11_desk 3 (some .int)) {d : Nat} (hR : zR κ = zrm (d + 1)) (hd : 4 ≤ d + 1) {N : Nat} {h : zH} {r : Int} (e1 : zrv κ = some (.int (zi r))) (e2 : zhf κ = h) {a1 : Int} {a2 : Int} (hF : fX11_desk N a1 a2 h = some r) : Z κ h 0 [(0, .ref (zα κ 14)), (1, .int (zi a1)), (2, .int (zi a2))] [] := by
  unfold fX11_desk at hF
  refine z_iload_n (q := 1) C dX11_desk_0 1 rfl rfl rfl ?_
  refine z_iconst (q := 2) C dX11_desk_1 rfl ?_
  refine z_aload_n (q := 3) C dX11_desk_2 0 rfl rfl rfl ?_
  refine z_getf (q := 6) C clX11 (zon C zo_14) kd_14 (k := 29) (by decide) q_1131 rfl (zfv_i kd_14 rfl) dX11_desk_3 rfl ?_
  refine z_iconst (q := 7) C dX11_desk_6 rfl ?_
  refine z_isub (q := 8) C dX11_desk_7 rfl ?_
  refine z_callS (q := 11) (av := [.int (zi a1), .int (zi 0), .int (zi ((h 14 29) - 1))]) (rest := []) (stk2 := [.int (zi (fX11_in a1 0 ((h 14 29) - 1)))]) C hR (M_fX11_in (zlv hd rfl) rfl) mY_X11_in q_1314 (Nat.le_of_ble_eq_true rfl) dX11_desk_8 rfl rfl rfl ?_
  refine z_if_eq (tgt := 24) (q := 14) C dX11_desk_11 (by decide) rfl (fun c1 => ?_) (fun c1 => ?_)
  · have hF := (if_pos c1).symm.trans hF
    refine z_iconst (q := 25) C dX11_desk_24 rfl ?_
    have hF := Option.some.inj hF
    subst hF
    exact z_iret C e1 e2 dX11_desk_25
  · have hF := (if_neg c1).symm.trans hF
    refine z_iload_n (q := 15) C dX11_desk_14 2 rfl rfl rfl ?_
    refine z_iconst (q := 16) C dX11_desk_15 rfl ?_
    refine z_bipush (q := 18) C dX11_desk_16 bp_6 rfl ?_
    refine z_callS (q := 21) (av := [.int (zi a2), .int (zi 0), .int (zi 6)]) (rest := []) (stk2 := [.int (zi (fX11_in a2 0 6))]) C hR (M_fX11_in (zlv hd rfl) rfl) mY_X11_in q_1314 (Nat.le_of_ble_eq_true rfl) dX11_desk_18 rfl rfl rfl ?_
    refine z_if_ne (tgt := 26) (q := 24) C dX11_desk_21 (by decide) rfl (fun c2 => ?_) (fun c2 => ?_)
    · have hF := (if_neg c2).symm.trans hF
      refine z_iload_n (q := 27) C dX11_desk_26 2 rfl rfl rfl ?_
      refine z_iconst (q := 28) C dX11_desk_27 rfl ?_
      refine z_icmp_ge (tgt := 44) (q := 31) C dX11_desk_28 (by decide) rfl (fun c3 => ?_) (fun c3 => ?_)
      · have hF := (if_pos c3).symm.trans hF
        refine z_iload_n (q := 45) C dX11_desk_44 2 rfl rfl rfl ?_
        refine z_iconst (q := 46) C dX11_desk_45 rfl ?_
        refine z_icmp_ne (tgt := 57) (q := 49) C dX11_desk_46 (by decide) rfl (fun c4 => ?_) (fun c4 => ?_)
        · have hF := (if_neg c4).symm.trans hF
          refine z_iload_n (q := 58) C dX11_desk_57 2 rfl rfl rfl ?_
          refine z_iconst (q := 59) C dX11_desk_58 rfl ?_
          refine z_icmp_ne (tgt := 70) (q := 62) C dX11_desk_59 (by decide) rfl (fun c6 => ?_) (fun c6 => ?_)
          · have hF := (if_neg c6).symm.trans hF
            refine z_aload_n (q := 71) C dX11_desk_70 0 rfl rfl rfl ?_
            refine z_iload_n (q := 72) C dX11_desk_71 1 rfl rfl rfl ?_
            refine z_aload_n (q := 73) C dX11_desk_72 0 rfl rfl rfl ?_
            refine z_callV (q := 76) (o := 14) (av := []) (rest := [.int (zi a1), .ref (zα κ 14)]) (stk2 := [.int (zi (fX11_time h)), .int (zi a1), .ref (zα κ 14)]) C hR clX11 (zon C zo_14) kd_14 (M_fX11_time (zlv hd rfl) rfl) mY_X11_time q_1454 (Nat.le_of_ble_eq_true rfl) dX11_desk_73 rfl rfl rfl ?_
            obtain ⟨v8, ev8, hF⟩ := zb_e hF
            refine z_callV (q := 79) (o := 14) (av := [.int (zi a1), .int (zi (fX11_time h))]) (rest := []) (stk2 := [.int (zi v8)]) C hR clX11 (zon C zo_14) kd_14 (M_fX11_isOpen (zlv hd rfl) ev8) mY_X11_isOpen q_1458 (Nat.le_of_ble_eq_true rfl) dX11_desk_76 rfl rfl rfl ?_
            refine z_if_eq (tgt := 86) (q := 82) C dX11_desk_79 (by decide) rfl (fun c9 => ?_) (fun c9 => ?_)
            · have hF := (if_pos c9).symm.trans hF
              refine z_iconst (q := 87) C dX11_desk_86 rfl ?_
              have hF := Option.some.inj hF
              subst hF
              exact z_iret C e1 e2 dX11_desk_87
            · have hF := (if_neg c9).symm.trans hF
              refine z_iconst (q := 83) C dX11_desk_82 rfl ?_
              refine z_goto (q := 87) C dX11_desk_83 (by decide) ?_
              have hF := Option.some.inj hF
              subst hF
              exact z_iret C e1 e2 dX11_desk_87
          · have hF := (if_pos c6).symm.trans hF
            refine z_aload_n (q := 63) C dX11_desk_62 0 rfl rfl rfl ?_
            refine z_iload_n (q := 64) C dX11_desk_63 1 rfl rfl rfl ?_
            obtain ⟨v7, ev7, hF⟩ := zb_e hF
            refine z_callV (q := 67) (o := 14) (av := [.int (zi a1)]) (rest := []) (stk2 := [.int (zi v7)]) C hR clX11 (zon C zo_14) kd_14 (M_fX11_firstAt (zlv hd rfl) ev7) mY_X11_firstAt q_1450 (Nat.le_of_ble_eq_true rfl) dX11_desk_64 rfl rfl rfl ?_
            refine z_goto (q := 87) C dX11_desk_67 (by decide) ?_
            have hF := Option.some.inj hF
            subst hF
            exact z_iret C e1 e2 dX11_desk_87
        · have hF := (if_pos c4).symm.trans hF
          refine z_aload_n (q := 50) C dX11_desk_49 0 rfl rfl rfl ?_
          refine z_iload_n (q := 51) C dX11_desk_50 1 rfl rfl rfl ?_
          obtain ⟨v5, ev5, hF⟩ := zb_e hF
          refine z_callV (q := 54) (o := 14) (av := [.int (zi a1)]) (rest := []) (stk2 := [.int (zi v5)]) C hR clX11 (zon C zo_14) kd_14 (M_fX11_backlog (zlv hd rfl) ev5) mY_X11_backlog q_1438 (Nat.le_of_ble_eq_true rfl) dX11_desk_51 rfl rfl rfl ?_
          refine z_goto (q := 87) C dX11_desk_54 (by decide) ?_
          have hF := Option.some.inj hF
          subst hF
          exact z_iret C e1 e2 dX11_desk_87
      · have hF := (if_neg c3).symm.trans hF
        refine z_aload_n (q := 32) C dX11_desk_31 0 rfl rfl rfl ?_
        refine z_getf (q := 35) C clX11 (zon C zo_14) kd_14 (k := 26) (by decide) q_1128 rfl (zfv_r kd_14 rfl fr_14_26) dX11_desk_32 rfl ?_
        refine z_iconst (q := 36) C dX11_desk_35 rfl ?_
        refine z_iload_n (q := 37) C dX11_desk_36 1 rfl rfl rfl ?_
        refine z_imul (q := 38) C dX11_desk_37 rfl ?_
        refine z_iload_n (q := 39) C dX11_desk_38 2 rfl rfl rfl ?_
        refine z_iadd (q := 40) C dX11_desk_39 rfl ?_
        obtain ⟨g10, hF⟩ := zif_none hF
        refine z_iald (q := 41) C (zon C zo_65) kd_65 g10.1 (by rw [ln_65]; exact g10.2) dX11_desk_40 rfl ?_
        refine z_goto (q := 87) C dX11_desk_41 (by decide) ?_
        have hF := Option.some.inj hF
        subst hF
        exact z_iret C e1 e2 dX11_desk_87
    · have hF := (if_pos c2).symm.trans hF
      refine z_iconst (q := 25) C dX11_desk_24 rfl ?_
      have hF := Option.some.inj hF
      subst hF
      exact z_iret C e1 e2 dX11_desk_25
set_option maxRecDepth 20000 in
set_option maxHeartbeats 4000000 in
theorem M_fX11_desk {l : Launch} {D : va_G} {cy : ClassId} {α : Nat → Nat} {n : Nat} {σ : zSg} {d : Nat} (hd : 4 ≤ d) {N : Nat} {a1 : Int} {a2 : Int} {h : zH} {r : Int} (hF : fX11_desk N a1 a2 h = some r) : zMet l yX11_desk cX11_desk 3 (some .int) (zrm d) D cy α n σ [.ref (α 14), .int (zi a1), .int (zi a2)] h (some (.int (zi r))) h := by
  obtain ⟨d, rfl⟩ : ∃ e, d = e + 1 := ⟨d - 1, by omega⟩
  refine z_met (by decide +kernel) (Nat.le_of_ble_eq_true rfl) (fun κ k1 k2 k3 k4 k5 k6 k7 k8 k9 C => ?_)
  subst k1 k3 k4 k5 k6 k7
  exact J_fX11_desk C k2 hd k8 k9 hF
set_option maxRecDepth 20000 in
set_option maxHeartbeats 4000000 in
theorem J_fX11_isPaper {κ : zT} (C : zC κ RX11 cX11_isPaper 2 (some .boolean)) {d : Nat} (hR : zR κ = zrm (d + 1)) (hd : 2 ≤ d + 1) {h : zH} {r : Int} (e1 : zrv κ = some (.int (zi r))) (e2 : zhf κ = h) {a1 : Int} (hF : fX11_isPaper a1 h = r) : Z κ h 0 [(0, .ref (zα κ 14)), (1, .int (zi a1))] [] := by
  unfold fX11_isPaper at hF
  refine z_iload_n (q := 1) C dX11_isPaper_0 1 rfl rfl rfl ?_
  refine z_iconst (q := 2) C dX11_isPaper_1 rfl ?_
  refine z_aload_n (q := 3) C dX11_isPaper_2 0 rfl rfl rfl ?_
  refine z_getf (q := 6) C clX11 (zon C zo_14) kd_14 (k := 30) (by decide) q_1132 rfl (zfv_i kd_14 rfl) dX11_isPaper_3 rfl ?_
  refine z_iconst (q := 7) C dX11_isPaper_6 rfl ?_
  refine z_isub (q := 8) C dX11_isPaper_7 rfl ?_
  refine z_callS (q := 11) (av := [.int (zi a1), .int (zi 0), .int (zi ((h 14 30) - 1))]) (rest := []) (stk2 := [.int (zi (fX11_in a1 0 ((h 14 30) - 1)))]) C hR (M_fX11_in (zlv hd rfl) rfl) mY_X11_in q_1314 (Nat.le_of_ble_eq_true rfl) dX11_isPaper_8 rfl rfl rfl ?_
  subst hF
  exact z_zret C (zb01 (B_fX11_in)) e1 e2 dX11_isPaper_11
set_option maxRecDepth 20000 in
set_option maxHeartbeats 4000000 in
theorem M_fX11_isPaper {l : Launch} {D : va_G} {cy : ClassId} {α : Nat → Nat} {n : Nat} {σ : zSg} {d : Nat} (hd : 2 ≤ d) {a1 : Int} {h : zH} {r : Int} (hF : fX11_isPaper a1 h = r) : zMet l yX11_isPaper cX11_isPaper 2 (some .boolean) (zrm d) D cy α n σ [.ref (α 14), .int (zi a1)] h (some (.int (zi r))) h := by
  obtain ⟨d, rfl⟩ : ∃ e, d = e + 1 := ⟨d - 1, by omega⟩
  refine z_met (by decide +kernel) (Nat.le_of_ble_eq_true rfl) (fun κ k1 k2 k3 k4 k5 k6 k7 k8 k9 C => ?_)
  subst k1 k3 k4 k5 k6 k7
  exact J_fX11_isPaper C k2 hd k8 k9 hF
theorem B_fX11_isPaper {a1 : Int} {h : zH} : fX11_isPaper a1 h = 0 ∨ fX11_isPaper a1 h = 1 := by
  unfold fX11_isPaper
  try simp only [zlet, zlet2]
  repeat' (first | exact Or.inl rfl | exact Or.inr rfl | exact B_fX11_in | apply zite01)
set_option maxRecDepth 20000 in
set_option maxHeartbeats 4000000 in
theorem J_fX11_paper {κ : zT} (C : zC κ RX11 cX11_paper 4 (some .int)) {d : Nat} (hR : zR κ = zrm (d + 1)) (hd : 3 ≤ d + 1) {h : zH} {r : Int} (e1 : zrv κ = some (.int (zi r))) (e2 : zhf κ = h) {a1 : Int} {a2 : Int} (hF : fX11_paper a1 a2 h = some r) : Z κ h 0 [(0, .ref (zα κ 14)), (1, .int (zi a1)), (2, .int (zi a2))] [] := by
  unfold fX11_paper at hF
  refine z_aload_n (q := 1) C dX11_paper_0 0 rfl rfl rfl ?_
  refine z_iload_n (q := 2) C dX11_paper_1 1 rfl rfl rfl ?_
  refine z_callV (q := 5) (o := 14) (av := [.int (zi a1)]) (rest := []) (stk2 := [.int (zi (fX11_isPaper a1 h))]) C hR clX11 (zon C zo_14) kd_14 (M_fX11_isPaper (zlv hd rfl) rfl) mY_X11_isPaper q_1466 (Nat.le_of_ble_eq_true rfl) dX11_paper_2 rfl rfl rfl ?_
  refine z_if_eq (tgt := 17) (q := 8) C dX11_paper_5 (by decide) rfl (fun c1 => ?_) (fun c1 => ?_)
  · have hF := (if_pos c1).symm.trans hF
    refine z_iconst (q := 18) C dX11_paper_17 rfl ?_
    have hF := Option.some.inj hF
    subst hF
    exact z_iret C e1 e2 dX11_paper_18
  · have hF := (if_neg c1).symm.trans hF
    refine z_iload_n (q := 9) C dX11_paper_8 2 rfl rfl rfl ?_
    refine z_iconst (q := 10) C dX11_paper_9 rfl ?_
    refine z_iconst (q := 11) C dX11_paper_10 rfl ?_
    refine z_callS (q := 14) (av := [.int (zi a2), .int (zi 0), .int (zi 2)]) (rest := []) (stk2 := [.int (zi (fX11_in a2 0 2))]) C hR (M_fX11_in (zlv hd rfl) rfl) mY_X11_in q_1314 (Nat.le_of_ble_eq_true rfl) dX11_paper_11 rfl rfl rfl ?_
    refine z_if_ne (tgt := 19) (q := 17) C dX11_paper_14 (by decide) rfl (fun c2 => ?_) (fun c2 => ?_)
    · have hF := (if_neg c2).symm.trans hF
      refine z_aload_n (q := 20) C dX11_paper_19 0 rfl rfl rfl ?_
      refine z_getf (q := 23) C clX11 (zon C zo_14) kd_14 (k := 27) (by decide) q_1129 rfl (zfv_r kd_14 rfl fr_14_27) dX11_paper_20 rfl ?_
      refine z_iconst (q := 24) C dX11_paper_23 rfl ?_
      refine z_iload_n (q := 25) C dX11_paper_24 1 rfl rfl rfl ?_
      refine z_imul (q := 26) C dX11_paper_25 rfl ?_
      refine z_iload_n (q := 27) C dX11_paper_26 2 rfl rfl rfl ?_
      refine z_iadd (q := 28) C dX11_paper_27 rfl ?_
      obtain ⟨g3, hF⟩ := zif_none hF
      refine z_iald (q := 29) C (zon C zo_66) kd_66 g3.1 (by rw [ln_66]; exact g3.2) dX11_paper_28 rfl ?_
      obtain ⟨v4, ev4, hF⟩ := zlet_e hF
      refine z_istoreE_n (q := 30) C ev4 dX11_paper_29 (by decide) rfl rfl rfl ?_
      refine z_iload_n (q := 31) C dX11_paper_30 3 rfl rfl rfl ?_
      refine z_if_le (tgt := 44) (q := 34) C dX11_paper_31 (by decide) rfl (fun c5 => ?_) (fun c5 => ?_)
      · have hF := (if_pos c5).symm.trans hF
        refine z_iload_n (q := 45) C dX11_paper_44 0 rfl rfl rfl ?_
        have hF := Option.some.inj hF
        subst hF
        exact z_iret C e1 e2 dX11_paper_45
      · have hF := (if_neg c5).symm.trans hF
        refine z_iload_n (q := 35) C dX11_paper_34 0 rfl rfl rfl ?_
        refine z_bipush (q := 37) C dX11_paper_35 bp_8 rfl ?_
        refine z_icmp_ne (tgt := 44) (q := 40) C dX11_paper_37 (by decide) rfl (fun c6 => ?_) (fun c6 => ?_)
        · have hF := (if_neg c6).symm.trans hF
          refine z_iload_n (q := 45) C dX11_paper_44 0 rfl rfl rfl ?_
          have hF := Option.some.inj hF
          subst hF
          exact z_iret C e1 e2 dX11_paper_45
        · have hF := (if_pos c6).symm.trans hF
          refine z_iconst (q := 41) C dX11_paper_40 rfl ?_
          refine z_goto (q := 45) C dX11_paper_41 (by decide) ?_
          have hF := Option.some.inj hF
          subst hF
          exact z_iret C e1 e2 dX11_paper_45
    · have hF := (if_pos c2).symm.trans hF
      refine z_iconst (q := 18) C dX11_paper_17 rfl ?_
      have hF := Option.some.inj hF
      subst hF
      exact z_iret C e1 e2 dX11_paper_18
set_option maxRecDepth 20000 in
set_option maxHeartbeats 4000000 in
theorem M_fX11_paper {l : Launch} {D : va_G} {cy : ClassId} {α : Nat → Nat} {n : Nat} {σ : zSg} {d : Nat} (hd : 3 ≤ d) {a1 : Int} {a2 : Int} {h : zH} {r : Int} (hF : fX11_paper a1 a2 h = some r) : zMet l yX11_paper cX11_paper 4 (some .int) (zrm d) D cy α n σ [.ref (α 14), .int (zi a1), .int (zi a2)] h (some (.int (zi r))) h := by
  obtain ⟨d, rfl⟩ : ∃ e, d = e + 1 := ⟨d - 1, by omega⟩
  refine z_met (by decide +kernel) (Nat.le_of_ble_eq_true rfl) (fun κ k1 k2 k3 k4 k5 k6 k7 k8 k9 C => ?_)
  subst k1 k3 k4 k5 k6 k7
  exact J_fX11_paper C k2 hd k8 k9 hF
set_option maxRecDepth 20000 in
set_option maxHeartbeats 4000000 in
theorem J_fX11_rule {κ : zT} (C : zC κ RX11 cX11_rule 2 (some .boolean)) {d : Nat} (hR : zR κ = zrm (d + 1)) (hd : 2 ≤ d + 1) {r : Int × zH} (e1 : zrv κ = some (.int (zi r.1))) (e2 : zhf κ = r.2) {a1 : Int} {h : zH} (hF : fX11_rule a1 h = r) : Z κ h 0 [(0, .ref (zα κ 14)), (1, .int (zi a1))] [] := by
  unfold fX11_rule at hF
  refine z_iload_n (q := 1) C dX11_rule_0 1 rfl rfl rfl ?_
  refine z_iconst (q := 2) C dX11_rule_1 rfl ?_
  refine z_aload_n (q := 3) C dX11_rule_2 0 rfl rfl rfl ?_
  refine z_getf (q := 6) C clX11 (zon C zo_14) kd_14 (k := 13) (by decide) q_1115 rfl (zfv_i kd_14 rfl) dX11_rule_3 rfl ?_
  refine z_iconst (q := 7) C dX11_rule_6 rfl ?_
  refine z_isub (q := 8) C dX11_rule_7 rfl ?_
  refine z_callS (q := 11) (av := [.int (zi a1), .int (zi (-1)), .int (zi ((h 14 13) - 1))]) (rest := []) (stk2 := [.int (zi (fX11_in a1 (-1) ((h 14 13) - 1)))]) C hR (M_fX11_in (zlv hd rfl) rfl) mY_X11_in q_1314 (Nat.le_of_ble_eq_true rfl) dX11_rule_8 rfl rfl rfl ?_
  refine z_if_ne (tgt := 16) (q := 14) C dX11_rule_11 (by decide) rfl (fun c1 => ?_) (fun c1 => ?_)
  · have hF := (if_neg c1).symm.trans hF
    refine z_aload_n (q := 17) C dX11_rule_16 0 rfl rfl rfl ?_
    refine z_iload_n (q := 18) C dX11_rule_17 1 rfl rfl rfl ?_
    obtain ⟨h2, eh2, hF⟩ := zlet_e hF
    refine z_putf (q := 21) C clX11 (zon C zo_14) kd_14 (k := 35) (x := a1) (by decide) q_1137 rfl rfl rfl rfl (((zfv_i kd_14 rfl)).trans (by rw [if_pos rfl])) dX11_rule_18 rfl eh2 ?_
    refine z_iconst (q := 22) C dX11_rule_21 rfl ?_
    subst hF
    exact z_zret C (zb01 (Or.inr rfl)) e1 e2 dX11_rule_22
  · have hF := (if_pos c1).symm.trans hF
    refine z_iconst (q := 15) C dX11_rule_14 rfl ?_
    subst hF
    exact z_zret C (zb01 (Or.inl rfl)) e1 e2 dX11_rule_15
set_option maxRecDepth 20000 in
set_option maxHeartbeats 4000000 in
theorem M_fX11_rule {l : Launch} {D : va_G} {cy : ClassId} {α : Nat → Nat} {n : Nat} {σ : zSg} {d : Nat} (hd : 2 ≤ d) {a1 : Int} {h : zH} {r : Int} {g : zH} (hF : fX11_rule a1 h = (r, g)) : zMet l yX11_rule cX11_rule 2 (some .boolean) (zrm d) D cy α n σ [.ref (α 14), .int (zi a1)] h (some (.int (zi r))) g := by
  obtain ⟨d, rfl⟩ : ∃ e, d = e + 1 := ⟨d - 1, by omega⟩
  refine z_met (by decide +kernel) (Nat.le_of_ble_eq_true rfl) (fun κ k1 k2 k3 k4 k5 k6 k7 k8 k9 C => ?_)
  subst k1 k3 k4 k5 k6 k7
  exact J_fX11_rule C k2 hd k8 k9 hF
set_option maxRecDepth 20000 in
set_option maxHeartbeats 4000000 in
theorem J_fX11_eclipse {κ : zT} (C : zC κ RX11 cX11_eclipse 2 (some .boolean)) {d : Nat} (hR : zR κ = zrm (d + 1)) (hd : 2 ≤ d + 1) {r : Int × zH} (e1 : zrv κ = some (.int (zi r.1))) (e2 : zhf κ = r.2) {a1 : Int} {h : zH} (hF : fX11_eclipse a1 h = r) : Z κ h 0 [(0, .ref (zα κ 14)), (1, .int (zi a1))] [] := by
  unfold fX11_eclipse at hF
  refine z_iload_n (q := 1) C dX11_eclipse_0 1 rfl rfl rfl ?_
  refine z_iconst (q := 2) C dX11_eclipse_1 rfl ?_
  refine z_bipush (q := 4) C dX11_eclipse_2 bp_99 rfl ?_
  refine z_callS (q := 7) (av := [.int (zi a1), .int (zi 0), .int (zi 99)]) (rest := []) (stk2 := [.int (zi (fX11_in a1 0 99))]) C hR (M_fX11_in (zlv hd rfl) rfl) mY_X11_in q_1314 (Nat.le_of_ble_eq_true rfl) dX11_eclipse_4 rfl rfl rfl ?_
  refine z_if_eq (tgt := 18) (q := 10) C dX11_eclipse_7 (by decide) rfl (fun c1 => ?_) (fun c1 => ?_)
  · have hF := (if_pos c1).symm.trans hF
    refine z_iconst (q := 19) C dX11_eclipse_18 rfl ?_
    subst hF
    exact z_zret C (zb01 (Or.inl rfl)) e1 e2 dX11_eclipse_19
  · have hF := (if_neg c1).symm.trans hF
    refine z_iload_n (q := 11) C dX11_eclipse_10 1 rfl rfl rfl ?_
    refine z_aload_n (q := 12) C dX11_eclipse_11 0 rfl rfl rfl ?_
    refine z_getf (q := 15) C clX11 (zon C zo_14) kd_14 (k := 36) (by decide) q_1138 rfl (zfv_i kd_14 rfl) dX11_eclipse_12 rfl ?_
    refine z_icmp_ne (tgt := 20) (q := 18) C dX11_eclipse_15 (by decide) rfl (fun c2 => ?_) (fun c2 => ?_)
    · have hF := (if_neg c2).symm.trans hF
      refine z_aload_n (q := 21) C dX11_eclipse_20 0 rfl rfl rfl ?_
      refine z_iload_n (q := 22) C dX11_eclipse_21 1 rfl rfl rfl ?_
      obtain ⟨h3, eh3, hF⟩ := zlet_e hF
      refine z_putf (q := 25) C clX11 (zon C zo_14) kd_14 (k := 36) (x := a1) (by decide) q_1138 rfl rfl rfl rfl (((zfv_i kd_14 rfl)).trans (by rw [if_pos rfl])) dX11_eclipse_22 rfl eh3 ?_
      refine z_iconst (q := 26) C dX11_eclipse_25 rfl ?_
      subst hF
      exact z_zret C (zb01 (Or.inr rfl)) e1 e2 dX11_eclipse_26
    · have hF := (if_pos c2).symm.trans hF
      refine z_iconst (q := 19) C dX11_eclipse_18 rfl ?_
      subst hF
      exact z_zret C (zb01 (Or.inl rfl)) e1 e2 dX11_eclipse_19
set_option maxRecDepth 20000 in
set_option maxHeartbeats 4000000 in
theorem M_fX11_eclipse {l : Launch} {D : va_G} {cy : ClassId} {α : Nat → Nat} {n : Nat} {σ : zSg} {d : Nat} (hd : 2 ≤ d) {a1 : Int} {h : zH} {r : Int} {g : zH} (hF : fX11_eclipse a1 h = (r, g)) : zMet l yX11_eclipse cX11_eclipse 2 (some .boolean) (zrm d) D cy α n σ [.ref (α 14), .int (zi a1)] h (some (.int (zi r))) g := by
  obtain ⟨d, rfl⟩ : ∃ e, d = e + 1 := ⟨d - 1, by omega⟩
  refine z_met (by decide +kernel) (Nat.le_of_ble_eq_true rfl) (fun κ k1 k2 k3 k4 k5 k6 k7 k8 k9 C => ?_)
  subst k1 k3 k4 k5 k6 k7
  exact J_fX11_eclipse C k2 hd k8 k9 hF
set_option maxRecDepth 20000 in
set_option maxHeartbeats 4000000 in
theorem J_fX11_wants_c4b {κ : zT} (C : zC κ RX11 cX11_wants 4 (some .int)) {d : Nat} (hR : zR κ = zrm (d + 1)) (hd : 1 ≤ d + 1) {N : Nat} {h : zH} {r : Int} (e1 : zrv κ = some (.int (zi r))) (e2 : zhf κ = h) {K4 : Int → Int → Int → Option Int} (hK4 : ∀ (l1 : Int) (l2 : Int) (l3 : Int), K4 l1 l2 l3 = some r → Z κ h 4 [(0, .ref (zα κ 14)), (1, .int (zi l1)), (2, .int (zi l2)), (3, .int (zi l3))] []) (l1 : Int) (l2 : Int) (l3 : Int) (hF : fX11_wants_c4b N h K4 l1 l2 l3 = some r) : Z κ h 4 [(0, .ref (zα κ 14)), (1, .int (zi l1)), (2, .int (zi l2)), (3, .int (zi l3))] [] := by
  unfold fX11_wants_c4b at hF
  refine z_iload_n (q := 5) C dX11_wants_4 3 rfl rfl rfl ?_
  refine z_iconst (q := 6) C dX11_wants_5 rfl ?_
  refine z_icmp_gt (tgt := 49) (q := 9) C dX11_wants_6 (by decide) rfl (fun c1 => ?_) (fun c1 => ?_)
  · have hF := (if_pos c1).symm.trans hF
    refine z_iload_n (q := 50) C dX11_wants_49 2 rfl rfl rfl ?_
    have hF := Option.some.inj hF
    subst hF
    exact z_iret C e1 e2 dX11_wants_50
  · have hF := (if_neg c1).symm.trans hF
    refine z_iload_n (q := 10) C dX11_wants_9 2 rfl rfl rfl ?_
    refine z_aload_n (q := 11) C dX11_wants_10 0 rfl rfl rfl ?_
    refine z_getf (q := 14) C clX11 (zon C zo_14) kd_14 (k := 27) (by decide) q_1129 rfl (zfv_r kd_14 rfl fr_14_27) dX11_wants_11 rfl ?_
    refine z_iconst (q := 15) C dX11_wants_14 rfl ?_
    refine z_iload_n (q := 16) C dX11_wants_15 1 rfl rfl rfl ?_
    refine z_imul (q := 17) C dX11_wants_16 rfl ?_
    refine z_iload_n (q := 18) C dX11_wants_17 3 rfl rfl rfl ?_
    refine z_iadd (q := 19) C dX11_wants_18 rfl ?_
    obtain ⟨g2, hF⟩ := zif_none hF
    refine z_iald (q := 20) C (zon C zo_66) kd_66 g2.1 (by rw [ln_66]; exact g2.2) dX11_wants_19 rfl ?_
    refine z_bipush (q := 22) C dX11_wants_20 bp_8 rfl ?_
    refine z_icmp_ne (tgt := 29) (q := 25) C dX11_wants_22 (by decide) rfl (fun c3 => ?_) (fun c3 => ?_)
    · have hF := (if_neg c3).symm.trans hF
      refine z_iconst (q := 30) C dX11_wants_29 rfl ?_
      refine z_aload_n (q := 31) C dX11_wants_30 0 rfl rfl rfl ?_
      refine z_getf (q := 34) C clX11 (zon C zo_14) kd_14 (k := 27) (by decide) q_1129 rfl (zfv_r kd_14 rfl fr_14_27) dX11_wants_31 rfl ?_
      refine z_iconst (q := 35) C dX11_wants_34 rfl ?_
      refine z_iload_n (q := 36) C dX11_wants_35 1 rfl rfl rfl ?_
      refine z_imul (q := 37) C dX11_wants_36 rfl ?_
      refine z_iload_n (q := 38) C dX11_wants_37 3 rfl rfl rfl ?_
      refine z_iadd (q := 39) C dX11_wants_38 rfl ?_
      obtain ⟨g4, hF⟩ := zif_none hF
      refine z_iald (q := 40) C (zon C zo_66) kd_66 g4.1 (by rw [ln_66]; exact g4.2) dX11_wants_39 rfl ?_
      refine z_ishl (q := 41) C dX11_wants_40 rfl ?_
      refine z_ior (q := 42) C dX11_wants_41 rfl ?_
      obtain ⟨v5, ev5, hF⟩ := zlet_e hF
      refine z_istoreE_n (q := 43) C ev5 dX11_wants_42 (by decide) rfl rfl rfl ?_
      refine z_iinc (q := 46) (x := l3) C dX11_wants_43 (j := 3) rfl (by decide) rfl rfl ?_
      refine z_goto (q := 4) C dX11_wants_46 (by decide) ?_
      exact z_sub (hK4 _ _ _ hF) [2, 3, 1, 0] rfl
    · have hF := (if_pos c3).symm.trans hF
      refine z_iconst (q := 26) C dX11_wants_25 rfl ?_
      refine z_goto (q := 41) C dX11_wants_26 (by decide) ?_
      refine z_ior (q := 42) C dX11_wants_41 rfl ?_
      refine z_istore_n (q := 43) C dX11_wants_42 (by decide) rfl rfl rfl ?_
      refine z_iinc (q := 46) (x := l3) C dX11_wants_43 (j := 3) rfl (by decide) rfl rfl ?_
      refine z_goto (q := 4) C dX11_wants_46 (by decide) ?_
      exact z_sub (hK4 _ _ _ hF) [2, 3, 1, 0] rfl
set_option maxRecDepth 20000 in
set_option maxHeartbeats 4000000 in
theorem J_fX11_wants_c4 {κ : zT} (C : zC κ RX11 cX11_wants 4 (some .int)) {d : Nat} (hR : zR κ = zrm (d + 1)) (hd : 1 ≤ d + 1) {N : Nat} {h : zH} {r : Int} (e1 : zrv κ = some (.int (zi r))) (e2 : zhf κ = h) : ∀ (k : Nat) (l1 : Int) (l2 : Int) (l3 : Int), fX11_wants_c4 N h k l1 l2 l3 = some r → Z κ h 4 [(0, .ref (zα κ 14)), (1, .int (zi l1)), (2, .int (zi l2)), (3, .int (zi l3))] [] := by
  intro k
  induction k with
  | zero => intro l1 l2 l3 hF; cases hF
  | succ k ih => intro l1 l2 l3 hF; exact J_fX11_wants_c4b C hR hd e1 e2 ih l1 l2 l3 hF
set_option maxRecDepth 20000 in
set_option maxHeartbeats 4000000 in
theorem J_fX11_wants {κ : zT} (C : zC κ RX11 cX11_wants 4 (some .int)) {d : Nat} (hR : zR κ = zrm (d + 1)) (hd : 1 ≤ d + 1) {N : Nat} {h : zH} {r : Int} (e1 : zrv κ = some (.int (zi r))) (e2 : zhf κ = h) {a1 : Int} (hF : fX11_wants N a1 h = some r) : Z κ h 0 [(0, .ref (zα κ 14)), (1, .int (zi a1))] [] := by
  unfold fX11_wants at hF
  refine z_iconst (q := 1) C dX11_wants_0 rfl ?_
  refine z_istore_n (q := 2) C dX11_wants_1 (by decide) rfl rfl rfl ?_
  refine z_iconst (q := 3) C dX11_wants_2 rfl ?_
  refine z_istore_n (q := 4) C dX11_wants_3 (by decide) rfl rfl rfl ?_
  exact z_sub (J_fX11_wants_c4 C hR hd e1 e2 N _ _ _ hF) [2, 3, 1, 0] rfl
set_option maxRecDepth 20000 in
set_option maxHeartbeats 4000000 in
theorem M_fX11_wants {l : Launch} {D : va_G} {cy : ClassId} {α : Nat → Nat} {n : Nat} {σ : zSg} {d : Nat} (hd : 1 ≤ d) {N : Nat} {a1 : Int} {h : zH} {r : Int} (hF : fX11_wants N a1 h = some r) : zMet l yX11_wants cX11_wants 4 (some .int) (zrm d) D cy α n σ [.ref (α 14), .int (zi a1)] h (some (.int (zi r))) h := by
  obtain ⟨d, rfl⟩ : ∃ e, d = e + 1 := ⟨d - 1, by omega⟩
  refine z_met (by decide +kernel) (Nat.le_of_ble_eq_true rfl) (fun κ k1 k2 k3 k4 k5 k6 k7 k8 k9 C => ?_)
  subst k1 k3 k4 k5 k6 k7
  exact J_fX11_wants C k2 hd k8 k9 hF
set_option maxRecDepth 20000 in
set_option maxHeartbeats 4000000 in
theorem J_fX11_canFile {κ : zT} (C : zC κ RX11 cX11_canFile 3 (some .boolean)) {d : Nat} (hR : zR κ = zrm (d + 1)) (hd : 3 ≤ d + 1) {N : Nat} {h : zH} {r : Int} (e1 : zrv κ = some (.int (zi r))) (e2 : zhf κ = h) {a1 : Int} {a2 : Int} (hF : fX11_canFile N a1 a2 h = some r) : Z κ h 0 [(0, .ref (zα κ 14)), (1, .int (zi a1)), (2, .int (zi a2))] [] := by
  unfold fX11_canFile at hF
  refine z_aload_n (q := 1) C dX11_canFile_0 0 rfl rfl rfl ?_
  refine z_iload_n (q := 2) C dX11_canFile_1 1 rfl rfl rfl ?_
  refine z_callV (q := 5) (o := 14) (av := [.int (zi a1)]) (rest := []) (stk2 := [.int (zi (fX11_isParish a1 h))]) C hR clX11 (zon C zo_14) kd_14 (M_fX11_isParish (zlv hd rfl) rfl) mY_X11_isParish q_1426 (Nat.le_of_ble_eq_true rfl) dX11_canFile_2 rfl rfl rfl ?_
  refine z_if_eq (tgt := 60) (q := 8) C dX11_canFile_5 (by decide) rfl (fun c1 => ?_) (fun c1 => ?_)
  · have hF := (if_pos c1).symm.trans hF
    refine z_iconst (q := 61) C dX11_canFile_60 rfl ?_
    have hF := Option.some.inj hF
    subst hF
    exact z_zret C (zb01 (Or.inl rfl)) e1 e2 dX11_canFile_61
  · have hF := (if_neg c1).symm.trans hF
    refine z_aload_n (q := 9) C dX11_canFile_8 0 rfl rfl rfl ?_
    refine z_iload_n (q := 10) C dX11_canFile_9 2 rfl rfl rfl ?_
    refine z_callV (q := 13) (o := 14) (av := [.int (zi a2)]) (rest := []) (stk2 := [.int (zi (fX11_isPaper a2 h))]) C hR clX11 (zon C zo_14) kd_14 (M_fX11_isPaper (zlv hd rfl) rfl) mY_X11_isPaper q_1466 (Nat.le_of_ble_eq_true rfl) dX11_canFile_10 rfl rfl rfl ?_
    refine z_if_eq (tgt := 60) (q := 16) C dX11_canFile_13 (by decide) rfl (fun c2 => ?_) (fun c2 => ?_)
    · have hF := (if_pos c2).symm.trans hF
      refine z_iconst (q := 61) C dX11_canFile_60 rfl ?_
      have hF := Option.some.inj hF
      subst hF
      exact z_zret C (zb01 (Or.inl rfl)) e1 e2 dX11_canFile_61
    · have hF := (if_neg c2).symm.trans hF
      refine z_aload_n (q := 17) C dX11_canFile_16 0 rfl rfl rfl ?_
      refine z_iload_n (q := 18) C dX11_canFile_17 1 rfl rfl rfl ?_
      refine z_iconst (q := 19) C dX11_canFile_18 rfl ?_
      obtain ⟨v3, ev3, hF⟩ := zb_e hF
      refine z_callV (q := 22) (o := 14) (av := [.int (zi a1), .int (zi 1)]) (rest := []) (stk2 := [.int (zi v3)]) C hR clX11 (zon C zo_14) kd_14 (M_fX11_of (zlv hd rfl) ev3) mY_X11_of q_1430 (Nat.le_of_ble_eq_true rfl) dX11_canFile_19 rfl rfl rfl ?_
      refine z_iconst (q := 23) C dX11_canFile_22 rfl ?_
      refine z_icmp_ne (tgt := 60) (q := 26) C dX11_canFile_23 (by decide) rfl (fun c4 => ?_) (fun c4 => ?_)
      · have hF := (if_neg c4).symm.trans hF
        refine z_iconst (q := 61) C dX11_canFile_60 rfl ?_
        have hF := Option.some.inj hF
        subst hF
        exact z_zret C (zb01 (Or.inl rfl)) e1 e2 dX11_canFile_61
      · have hF := (if_pos c4).symm.trans hF
        refine z_aload_n (q := 27) C dX11_canFile_26 0 rfl rfl rfl ?_
        refine z_iload_n (q := 28) C dX11_canFile_27 1 rfl rfl rfl ?_
        refine z_iconst (q := 29) C dX11_canFile_28 rfl ?_
        obtain ⟨v5, ev5, hF⟩ := zb_e hF
        refine z_callV (q := 32) (o := 14) (av := [.int (zi a1), .int (zi 0)]) (rest := []) (stk2 := [.int (zi v5)]) C hR clX11 (zon C zo_14) kd_14 (M_fX11_of (zlv hd rfl) ev5) mY_X11_of q_1430 (Nat.le_of_ble_eq_true rfl) dX11_canFile_29 rfl rfl rfl ?_
        refine z_iload_n (q := 33) C dX11_canFile_32 2 rfl rfl rfl ?_
        refine z_callS (q := 36) (av := [.int (zi v5), .int (zi a2)]) (rest := []) (stk2 := [.int (zi (fX11_has v5 a2))]) C hR (M_fX11_has (zlv hd rfl) rfl) mY_X11_has q_1294 (Nat.le_of_ble_eq_true rfl) dX11_canFile_33 rfl rfl rfl ?_
        refine z_if_ne (tgt := 60) (q := 39) C dX11_canFile_36 (by decide) rfl (fun c6 => ?_) (fun c6 => ?_)
        · have hF := (if_neg c6).symm.trans hF
          refine z_iconst (q := 61) C dX11_canFile_60 rfl ?_
          have hF := Option.some.inj hF
          subst hF
          exact z_zret C (zb01 (Or.inl rfl)) e1 e2 dX11_canFile_61
        · have hF := (if_pos c6).symm.trans hF
          refine z_aload_n (q := 40) C dX11_canFile_39 0 rfl rfl rfl ?_
          refine z_iload_n (q := 41) C dX11_canFile_40 2 rfl rfl rfl ?_
          obtain ⟨v7, ev7, hF⟩ := zb_e hF
          refine z_callV (q := 44) (o := 14) (av := [.int (zi a2)]) (rest := []) (stk2 := [.int (zi v7)]) C hR clX11 (zon C zo_14) kd_14 (M_fX11_wants (zlv hd rfl) ev7) mY_X11_wants q_1486 (Nat.le_of_ble_eq_true rfl) dX11_canFile_41 rfl rfl rfl ?_
          refine z_aload_n (q := 45) C dX11_canFile_44 0 rfl rfl rfl ?_
          refine z_iload_n (q := 46) C dX11_canFile_45 1 rfl rfl rfl ?_
          refine z_iconst (q := 47) C dX11_canFile_46 rfl ?_
          obtain ⟨v8, ev8, hF⟩ := zb_e hF
          refine z_callV (q := 50) (o := 14) (av := [.int (zi a1), .int (zi 0)]) (rest := [.int (zi v7)]) (stk2 := [.int (zi v8), .int (zi v7)]) C hR clX11 (zon C zo_14) kd_14 (M_fX11_of (zlv hd rfl) ev8) mY_X11_of q_1430 (Nat.le_of_ble_eq_true rfl) dX11_canFile_47 rfl rfl rfl ?_
          refine z_iconst (q := 51) C dX11_canFile_50 rfl ?_
          refine z_ixor (q := 52) C dX11_canFile_51 rfl ?_
          refine z_iand (q := 53) C dX11_canFile_52 rfl ?_
          refine z_if_ne (tgt := 60) (q := 56) C dX11_canFile_53 (by decide) rfl (fun c9 => ?_) (fun c9 => ?_)
          · have hF := (if_neg c9).symm.trans hF
            refine z_iconst (q := 61) C dX11_canFile_60 rfl ?_
            have hF := Option.some.inj hF
            subst hF
            exact z_zret C (zb01 (Or.inl rfl)) e1 e2 dX11_canFile_61
          · have hF := (if_pos c9).symm.trans hF
            refine z_iconst (q := 57) C dX11_canFile_56 rfl ?_
            refine z_goto (q := 61) C dX11_canFile_57 (by decide) ?_
            have hF := Option.some.inj hF
            subst hF
            exact z_zret C (zb01 (Or.inr rfl)) e1 e2 dX11_canFile_61
set_option maxRecDepth 20000 in
set_option maxHeartbeats 4000000 in
theorem M_fX11_canFile {l : Launch} {D : va_G} {cy : ClassId} {α : Nat → Nat} {n : Nat} {σ : zSg} {d : Nat} (hd : 3 ≤ d) {N : Nat} {a1 : Int} {a2 : Int} {h : zH} {r : Int} (hF : fX11_canFile N a1 a2 h = some r) : zMet l yX11_canFile cX11_canFile 3 (some .boolean) (zrm d) D cy α n σ [.ref (α 14), .int (zi a1), .int (zi a2)] h (some (.int (zi r))) h := by
  obtain ⟨d, rfl⟩ : ∃ e, d = e + 1 := ⟨d - 1, by omega⟩
  refine z_met (by decide +kernel) (Nat.le_of_ble_eq_true rfl) (fun κ k1 k2 k3 k4 k5 k6 k7 k8 k9 C => ?_)
  subst k1 k3 k4 k5 k6 k7
  exact J_fX11_canFile C k2 hd k8 k9 hF
set_option maxRecDepth 20000 in
set_option maxHeartbeats 4000000 in
theorem J_fX11_keep_c54b {κ : zT} (C : zC κ RX11 cX11_keep 2 none) {d : Nat} (hR : zR κ = zrm (d + 1)) (hd : 1 ≤ d + 1) {N : Nat} {r : zH} (e1 : zrv κ = none) (e2 : zhf κ = r) {K54 : Int → zH → Option zH} (hK54 : ∀ (l1 : Int) (h : zH), K54 l1 h = some r → Z κ h 54 [(0, .ref (zα κ 14)), (1, .int (zi l1))] []) (l1 : Int) (h : zH) (hF : fX11_keep_c54b N K54 l1 h = some r) : Z κ h 54 [(0, .ref (zα κ 14)), (1, .int (zi l1))] [] := by
  unfold fX11_keep_c54b at hF
  refine z_iload_n (q := 55) C dX11_keep_54 1 rfl rfl rfl ?_
  refine z_sipush (q := 58) C dX11_keep_55 sp_165 rfl ?_
  refine z_icmp_ge (tgt := 88) (q := 61) C dX11_keep_58 (by decide) rfl (fun c1 => ?_) (fun c1 => ?_)
  · have hF := (if_pos c1).symm.trans hF
    refine z_aload_n (q := 89) C dX11_keep_88 0 rfl rfl rfl ?_
    refine z_dup (q := 90) C dX11_keep_89 rfl rfl ?_
    refine z_getf (q := 93) C clX11 (zon C zo_14) kd_14 (k := 38) (by decide) q_1140 rfl (zfv_i kd_14 rfl) dX11_keep_90 rfl ?_
    refine z_iconst (q := 94) C dX11_keep_93 rfl ?_
    refine z_iadd (q := 95) C dX11_keep_94 rfl ?_
    obtain ⟨h2, eh2, hF⟩ := zlet_e hF
    refine z_putf (q := 98) C clX11 (zon C zo_14) kd_14 (k := 38) (x := (h 14 38) + 1) (by decide) q_1140 rfl rfl rfl rfl (((zfv_i kd_14 rfl)).trans (by rw [if_pos rfl])) dX11_keep_95 rfl eh2 ?_
    have hF := Option.some.inj hF
    subst hF
    exact z_vret C e1 e2 dX11_keep_98
  · have hF := (if_neg c1).symm.trans hF
    refine z_aload_n (q := 62) C dX11_keep_61 0 rfl rfl rfl ?_
    refine z_getf (q := 65) C clX11 (zon C zo_14) kd_14 (k := 37) (by decide) q_1139 rfl (zfv_r kd_14 rfl fr_14_37) dX11_keep_62 rfl ?_
    refine z_sipush (q := 68) C dX11_keep_65 sp_165 rfl ?_
    refine z_aload_n (q := 69) C dX11_keep_68 0 rfl rfl rfl ?_
    refine z_getf (q := 72) C clX11 (zon C zo_14) kd_14 (k := 38) (by decide) q_1140 rfl (zfv_i kd_14 rfl) dX11_keep_69 rfl ?_
    refine z_imul (q := 73) C dX11_keep_72 rfl ?_
    refine z_iload_n (q := 74) C dX11_keep_73 1 rfl rfl rfl ?_
    refine z_iadd (q := 75) C dX11_keep_74 rfl ?_
    refine z_aload_n (q := 76) C dX11_keep_75 0 rfl rfl rfl ?_
    refine z_getf (q := 79) C clX11 (zon C zo_14) kd_14 (k := 34) (by decide) q_1136 rfl (zfv_r kd_14 rfl fr_14_34) dX11_keep_76 rfl ?_
    refine z_iload_n (q := 80) C dX11_keep_79 1 rfl rfl rfl ?_
    obtain ⟨g3, hF⟩ := zif_none hF
    refine z_iald (q := 81) C (zon C zo_69) kd_69 g3.1 (by rw [ln_69]; exact g3.2) dX11_keep_80 rfl ?_
    obtain ⟨g4, hF⟩ := zif_none hF
    obtain ⟨h5, eh5, hF⟩ := zlet_e hF
    refine z_iast (q := 82) C (zon C zo_70) kd_70 g4.1 (by rw [ln_70]; exact g4.2) dX11_keep_81 rfl eh5 ?_
    refine z_iinc (q := 85) (x := l1) C dX11_keep_82 (j := 1) rfl (by decide) rfl rfl ?_
    refine z_goto (q := 54) C dX11_keep_85 (by decide) ?_
    exact z_sub (hK54 _ _ hF) [1, 0] rfl
set_option maxRecDepth 20000 in
set_option maxHeartbeats 4000000 in
theorem J_fX11_keep_c54 {κ : zT} (C : zC κ RX11 cX11_keep 2 none) {d : Nat} (hR : zR κ = zrm (d + 1)) (hd : 1 ≤ d + 1) {N : Nat} {r : zH} (e1 : zrv κ = none) (e2 : zhf κ = r) : ∀ (k : Nat) (l1 : Int) (h : zH), fX11_keep_c54 N k l1 h = some r → Z κ h 54 [(0, .ref (zα κ 14)), (1, .int (zi l1))] [] := by
  intro k
  induction k with
  | zero => intro l1 h hF; cases hF
  | succ k ih => intro l1 h hF; exact J_fX11_keep_c54b C hR hd e1 e2 ih l1 h hF
set_option maxRecDepth 20000 in
set_option maxHeartbeats 4000000 in
theorem J_fX11_keep_c13b {κ : zT} (C : zC κ RX11 cX11_keep 2 none) {d : Nat} (hR : zR κ = zrm (d + 1)) (hd : 1 ≤ d + 1) {N : Nat} {r : zH} (e1 : zrv κ = none) (e2 : zhf κ = r) {K13 : Int → zH → Option zH} (hK13 : ∀ (l1 : Int) (h : zH), K13 l1 h = some r → Z κ h 13 [(0, .ref (zα κ 14)), (1, .int (zi l1))] []) (l1 : Int) (h : zH) (hF : fX11_keep_c13b N K13 l1 h = some r) : Z κ h 13 [(0, .ref (zα κ 14)), (1, .int (zi l1))] [] := by
  unfold fX11_keep_c13b at hF
  refine z_iload_n (q := 14) C dX11_keep_13 1 rfl rfl rfl ?_
  refine z_sipush (q := 17) C dX11_keep_14 sp_6600 rfl ?_
  refine z_icmp_ge (tgt := 42) (q := 20) C dX11_keep_17 (by decide) rfl (fun c1 => ?_) (fun c1 => ?_)
  · have hF := (if_pos c1).symm.trans hF
    refine z_aload_n (q := 43) C dX11_keep_42 0 rfl rfl rfl ?_
    refine z_dup (q := 44) C dX11_keep_43 rfl rfl ?_
    refine z_getf (q := 47) C clX11 (zon C zo_14) kd_14 (k := 38) (by decide) q_1140 rfl (zfv_i kd_14 rfl) dX11_keep_44 rfl ?_
    refine z_iconst (q := 48) C dX11_keep_47 rfl ?_
    refine z_isub (q := 49) C dX11_keep_48 rfl ?_
    obtain ⟨h2, eh2, hF⟩ := zlet_e hF
    refine z_putf (q := 52) C clX11 (zon C zo_14) kd_14 (k := 38) (x := (h 14 38) - 1) (by decide) q_1140 rfl rfl rfl rfl (((zfv_i kd_14 rfl)).trans (by rw [if_pos rfl])) dX11_keep_49 rfl eh2 ?_
    refine z_iconst (q := 53) C dX11_keep_52 rfl ?_
    refine z_istore_n (q := 54) C dX11_keep_53 (by decide) rfl rfl rfl ?_
    exact z_sub (J_fX11_keep_c54 C hR hd e1 e2 N _ _ hF) [1, 0] rfl
  · have hF := (if_neg c1).symm.trans hF
    refine z_aload_n (q := 21) C dX11_keep_20 0 rfl rfl rfl ?_
    refine z_getf (q := 24) C clX11 (zon C zo_14) kd_14 (k := 37) (by decide) q_1139 rfl (zfv_r kd_14 rfl fr_14_37) dX11_keep_21 rfl ?_
    refine z_iload_n (q := 25) C dX11_keep_24 1 rfl rfl rfl ?_
    refine z_sipush (q := 28) C dX11_keep_25 sp_165 rfl ?_
    refine z_isub (q := 29) C dX11_keep_28 rfl ?_
    refine z_aload_n (q := 30) C dX11_keep_29 0 rfl rfl rfl ?_
    refine z_getf (q := 33) C clX11 (zon C zo_14) kd_14 (k := 37) (by decide) q_1139 rfl (zfv_r kd_14 rfl fr_14_37) dX11_keep_30 rfl ?_
    refine z_iload_n (q := 34) C dX11_keep_33 1 rfl rfl rfl ?_
    obtain ⟨g3, hF⟩ := zif_none hF
    refine z_iald (q := 35) C (zon C zo_70) kd_70 g3.1 (by rw [ln_70]; exact g3.2) dX11_keep_34 rfl ?_
    obtain ⟨g4, hF⟩ := zif_none hF
    obtain ⟨h5, eh5, hF⟩ := zlet_e hF
    refine z_iast (q := 36) C (zon C zo_70) kd_70 g4.1 (by rw [ln_70]; exact g4.2) dX11_keep_35 rfl eh5 ?_
    refine z_iinc (q := 39) (x := l1) C dX11_keep_36 (j := 1) rfl (by decide) rfl rfl ?_
    refine z_goto (q := 13) C dX11_keep_39 (by decide) ?_
    exact z_sub (hK13 _ _ hF) [1, 0] rfl
set_option maxRecDepth 20000 in
set_option maxHeartbeats 4000000 in
theorem J_fX11_keep_c13 {κ : zT} (C : zC κ RX11 cX11_keep 2 none) {d : Nat} (hR : zR κ = zrm (d + 1)) (hd : 1 ≤ d + 1) {N : Nat} {r : zH} (e1 : zrv κ = none) (e2 : zhf κ = r) : ∀ (k : Nat) (l1 : Int) (h : zH), fX11_keep_c13 N k l1 h = some r → Z κ h 13 [(0, .ref (zα κ 14)), (1, .int (zi l1))] [] := by
  intro k
  induction k with
  | zero => intro l1 h hF; cases hF
  | succ k ih => intro l1 h hF; exact J_fX11_keep_c13b C hR hd e1 e2 ih l1 h hF
set_option maxRecDepth 20000 in
set_option maxHeartbeats 4000000 in
theorem J_fX11_keep {κ : zT} (C : zC κ RX11 cX11_keep 2 none) {d : Nat} (hR : zR κ = zrm (d + 1)) (hd : 1 ≤ d + 1) {N : Nat} {r : zH} (e1 : zrv κ = none) (e2 : zhf κ = r) {h : zH} (hF : fX11_keep N h = some r) : Z κ h 0 [(0, .ref (zα κ 14))] [] := by
  unfold fX11_keep at hF
  refine z_aload_n (q := 1) C dX11_keep_0 0 rfl rfl rfl ?_
  refine z_getf (q := 4) C clX11 (zon C zo_14) kd_14 (k := 38) (by decide) q_1140 rfl (zfv_i kd_14 rfl) dX11_keep_1 rfl ?_
  refine z_bipush (q := 6) C dX11_keep_4 bp_40 rfl ?_
  refine z_icmp_ne (tgt := 52) (q := 9) C dX11_keep_6 (by decide) rfl (fun c1 => ?_) (fun c1 => ?_)
  · have hF := (if_neg c1).symm.trans hF
    refine z_iconst (q := 53) C dX11_keep_52 rfl ?_
    refine z_istore_n (q := 54) C dX11_keep_53 (by decide) rfl rfl rfl ?_
    exact z_sub (J_fX11_keep_c54 C hR hd e1 e2 N _ _ hF) [1, 0] rfl
  · have hF := (if_pos c1).symm.trans hF
    refine z_sipush (q := 12) C dX11_keep_9 sp_165 rfl ?_
    refine z_istore_n (q := 13) C dX11_keep_12 (by decide) rfl rfl rfl ?_
    exact z_sub (J_fX11_keep_c13 C hR hd e1 e2 N _ _ hF) [1, 0] rfl
set_option maxRecDepth 20000 in
set_option maxHeartbeats 4000000 in
theorem M_fX11_keep {l : Launch} {D : va_G} {cy : ClassId} {α : Nat → Nat} {n : Nat} {σ : zSg} {d : Nat} (hd : 1 ≤ d) {N : Nat} {h : zH} {g : zH} (hF : fX11_keep N h = some g) : zMet l yX11_keep cX11_keep 2 none (zrm d) D cy α n σ [.ref (α 14)] h (none) g := by
  obtain ⟨d, rfl⟩ : ∃ e, d = e + 1 := ⟨d - 1, by omega⟩
  refine z_met (by decide +kernel) (Nat.le_of_ble_eq_true rfl) (fun κ k1 k2 k3 k4 k5 k6 k7 k8 k9 C => ?_)
  subst k1 k3 k4 k5 k6 k7
  exact J_fX11_keep C k2 hd k8 k9 hF
set_option maxRecDepth 20000 in
set_option maxHeartbeats 4000000 in
theorem J_fX11_fileNow {κ : zT} (C : zC κ RX11 cX11_fileNow 3 none) {d : Nat} (hR : zR κ = zrm (d + 1)) (hd : 2 ≤ d + 1) {r : zH} (e1 : zrv κ = none) (e2 : zhf κ = r) {a1 : Int} {a2 : Int} {h : zH} (hF : fX11_fileNow a1 a2 h = some r) : Z κ h 0 [(0, .ref (zα κ 14)), (1, .int (zi a1)), (2, .int (zi a2))] [] := by
  unfold fX11_fileNow at hF
  refine z_aload_n (q := 1) C dX11_fileNow_0 0 rfl rfl rfl ?_
  refine z_iload_n (q := 2) C dX11_fileNow_1 1 rfl rfl rfl ?_
  refine z_iconst (q := 3) C dX11_fileNow_2 rfl ?_
  refine z_iload_n (q := 4) C dX11_fileNow_3 2 rfl rfl rfl ?_
  obtain ⟨h1, eh1, hF⟩ := zb_e hF
  refine z_callV (q := 7) (o := 14) (av := [.int (zi a1), .int (zi 1), .int (zi a2)]) (rest := []) (stk2 := []) C hR clX11 (zon C zo_14) kd_14 (M_fX11_put_ (zlv hd rfl) eh1) mY_X11_put_ q_1414 (Nat.le_of_ble_eq_true rfl) dX11_fileNow_4 rfl rfl rfl ?_
  refine z_aload_n (q := 8) C dX11_fileNow_7 0 rfl rfl rfl ?_
  refine z_iload_n (q := 9) C dX11_fileNow_8 1 rfl rfl rfl ?_
  refine z_iconst (q := 10) C dX11_fileNow_9 rfl ?_
  refine z_iconst (q := 11) C dX11_fileNow_10 rfl ?_
  obtain ⟨h2, eh2, hF⟩ := zb_e hF
  refine z_callV (q := 14) (o := 14) (av := [.int (zi a1), .int (zi 3), .int (zi 0)]) (rest := []) (stk2 := []) C hR clX11 (zon C zo_14) kd_14 (M_fX11_put_ (zlv hd rfl) eh2) mY_X11_put_ q_1414 (Nat.le_of_ble_eq_true rfl) dX11_fileNow_11 rfl rfl rfl ?_
  refine z_aload_n (q := 15) C dX11_fileNow_14 0 rfl rfl rfl ?_
  refine z_iload_n (q := 16) C dX11_fileNow_15 1 rfl rfl rfl ?_
  refine z_iconst (q := 17) C dX11_fileNow_16 rfl ?_
  refine z_aload_n (q := 18) C dX11_fileNow_17 0 rfl rfl rfl ?_
  refine z_getf (q := 21) C clX11 (zon C zo_14) kd_14 (k := 34) (by decide) q_1136 rfl (zfv_r kd_14 rfl fr_14_34) dX11_fileNow_18 rfl ?_
  refine z_bipush (q := 23) C dX11_fileNow_21 bp_43 rfl ?_
  refine z_ialdc (q := 24) (j := 43) C (zon C zo_69) kd_69 zwk_43 (by rw [ln_69]; decide) dX11_fileNow_23 rfl ?_
  obtain ⟨h3, eh3, hF⟩ := zb_e hF
  refine z_callV (q := 27) (o := 14) (av := [.int (zi a1), .int (zi 2), .int (zi (h2 69 43))]) (rest := []) (stk2 := []) C hR clX11 (zon C zo_14) kd_14 (M_fX11_put_ (zlv hd rfl) eh3) mY_X11_put_ q_1414 (Nat.le_of_ble_eq_true rfl) dX11_fileNow_24 rfl rfl rfl ?_
  refine z_aload_n (q := 28) C dX11_fileNow_27 0 rfl rfl rfl ?_
  refine z_getf (q := 31) C clX11 (zon C zo_14) kd_14 (k := 34) (by decide) q_1136 rfl (zfv_r kd_14 rfl fr_14_34) dX11_fileNow_28 rfl ?_
  refine z_bipush (q := 33) C dX11_fileNow_31 bp_43 rfl ?_
  refine z_dup2 (q := 34) C dX11_fileNow_33 rfl rfl rfl ?_
  refine z_ialdc (q := 35) (j := 43) C (zon C zo_69) kd_69 zwk_43 (by rw [ln_69]; decide) dX11_fileNow_34 rfl ?_
  refine z_iconst (q := 36) C dX11_fileNow_35 rfl ?_
  refine z_iadd (q := 37) C dX11_fileNow_36 rfl ?_
  obtain ⟨h4, eh4, hF⟩ := zlet_e hF
  refine z_iastc (q := 38) (j := 43) C (zon C zo_69) kd_69 zwk_43 (by rw [ln_69]; decide) dX11_fileNow_37 rfl eh4 ?_
  have hF := Option.some.inj hF
  subst hF
  exact z_vret C e1 e2 dX11_fileNow_38
set_option maxRecDepth 20000 in
set_option maxHeartbeats 4000000 in
theorem M_fX11_fileNow {l : Launch} {D : va_G} {cy : ClassId} {α : Nat → Nat} {n : Nat} {σ : zSg} {d : Nat} (hd : 2 ≤ d) {a1 : Int} {a2 : Int} {h : zH} {g : zH} (hF : fX11_fileNow a1 a2 h = some g) : zMet l yX11_fileNow cX11_fileNow 3 none (zrm d) D cy α n σ [.ref (α 14), .int (zi a1), .int (zi a2)] h (none) g := by
  obtain ⟨d, rfl⟩ : ∃ e, d = e + 1 := ⟨d - 1, by omega⟩
  refine z_met (by decide +kernel) (Nat.le_of_ble_eq_true rfl) (fun κ k1 k2 k3 k4 k5 k6 k7 k8 k9 C => ?_)
  subst k1 k3 k4 k5 k6 k7
  exact J_fX11_fileNow C k2 hd k8 k9 hF
set_option maxRecDepth 20000 in
set_option maxHeartbeats 4000000 in
theorem J_fX11_file {κ : zT} (C : zC κ RX11 cX11_file 3 (some .int)) {d : Nat} (hR : zR κ = zrm (d + 1)) (hd : 4 ≤ d + 1) {N : Nat} {r : Int × zH} (e1 : zrv κ = some (.int (zi r.1))) (e2 : zhf κ = r.2) {a1 : Int} {a2 : Int} {h : zH} (hF : fX11_file N a1 a2 h = some r) : Z κ h 0 [(0, .ref (zα κ 14)), (1, .int (zi a1)), (2, .int (zi a2))] [] := by
  unfold fX11_file at hF
  refine z_aload_n (q := 1) C dX11_file_0 0 rfl rfl rfl ?_
  refine z_iload_n (q := 2) C dX11_file_1 1 rfl rfl rfl ?_
  refine z_iload_n (q := 3) C dX11_file_2 2 rfl rfl rfl ?_
  obtain ⟨v1, ev1, hF⟩ := zb_e hF
  refine z_callV (q := 6) (o := 14) (av := [.int (zi a1), .int (zi a2)]) (rest := []) (stk2 := [.int (zi v1)]) C hR clX11 (zon C zo_14) kd_14 (M_fX11_canFile (zlv hd rfl) ev1) mY_X11_canFile q_1482 (Nat.le_of_ble_eq_true rfl) dX11_file_3 rfl rfl rfl ?_
  refine z_if_ne (tgt := 11) (q := 9) C dX11_file_6 (by decide) rfl (fun c2 => ?_) (fun c2 => ?_)
  · have hF := (if_neg c2).symm.trans hF
    refine z_aload_n (q := 12) C dX11_file_11 0 rfl rfl rfl ?_
    obtain ⟨h3, eh3, hF⟩ := zb_e hF
    refine z_callV (q := 15) (o := 14) (av := []) (rest := []) (stk2 := []) C hR clX11 (zon C zo_14) kd_14 (M_fX11_keep (zlv hd rfl) eh3) mY_X11_keep q_1490 (Nat.le_of_ble_eq_true rfl) dX11_file_12 rfl rfl rfl ?_
    refine z_aload_n (q := 16) C dX11_file_15 0 rfl rfl rfl ?_
    refine z_iload_n (q := 17) C dX11_file_16 1 rfl rfl rfl ?_
    refine z_iload_n (q := 18) C dX11_file_17 2 rfl rfl rfl ?_
    obtain ⟨h4, eh4, hF⟩ := zb_e hF
    refine z_callV (q := 21) (o := 14) (av := [.int (zi a1), .int (zi a2)]) (rest := []) (stk2 := []) C hR clX11 (zon C zo_14) kd_14 (M_fX11_fileNow (zlv hd rfl) eh4) mY_X11_fileNow q_1494 (Nat.le_of_ble_eq_true rfl) dX11_file_18 rfl rfl rfl ?_
    refine z_aload_n (q := 22) C dX11_file_21 0 rfl rfl rfl ?_
    refine z_aload_n (q := 23) C dX11_file_22 0 rfl rfl rfl ?_
    refine z_iload_n (q := 24) C dX11_file_23 2 rfl rfl rfl ?_
    obtain ⟨v5, ev5, hF⟩ := zb_e hF
    refine z_callV (q := 27) (o := 14) (av := [.int (zi a2)]) (rest := [.ref (zα κ 14)]) (stk2 := [.int (zi v5), .ref (zα κ 14)]) C hR clX11 (zon C zo_14) kd_14 (M_fX11_deskOf (zlv hd rfl) ev5) mY_X11_deskOf q_1446 (Nat.le_of_ble_eq_true rfl) dX11_file_24 rfl rfl rfl ?_
    obtain ⟨v6, ev6, hF⟩ := zb_e hF
    refine z_callV (q := 30) (o := 14) (av := [.int (zi v5)]) (rest := []) (stk2 := [.int (zi v6)]) C hR clX11 (zon C zo_14) kd_14 (M_fX11_backlog (zlv hd rfl) ev6) mY_X11_backlog q_1438 (Nat.le_of_ble_eq_true rfl) dX11_file_27 rfl rfl rfl ?_
    have hF := Option.some.inj hF
    subst hF
    exact z_iret C e1 e2 dX11_file_30
  · have hF := (if_pos c2).symm.trans hF
    refine z_iconst (q := 10) C dX11_file_9 rfl ?_
    have hF := Option.some.inj hF
    subst hF
    exact z_iret C e1 e2 dX11_file_10
set_option maxRecDepth 20000 in
set_option maxHeartbeats 4000000 in
theorem M_fX11_file {l : Launch} {D : va_G} {cy : ClassId} {α : Nat → Nat} {n : Nat} {σ : zSg} {d : Nat} (hd : 4 ≤ d) {N : Nat} {a1 : Int} {a2 : Int} {h : zH} {r : Int} {g : zH} (hF : fX11_file N a1 a2 h = some (r, g)) : zMet l yX11_file cX11_file 3 (some .int) (zrm d) D cy α n σ [.ref (α 14), .int (zi a1), .int (zi a2)] h (some (.int (zi r))) g := by
  obtain ⟨d, rfl⟩ : ∃ e, d = e + 1 := ⟨d - 1, by omega⟩
  refine z_met (by decide +kernel) (Nat.le_of_ble_eq_true rfl) (fun κ k1 k2 k3 k4 k5 k6 k7 k8 k9 C => ?_)
  subst k1 k3 k4 k5 k6 k7
  exact J_fX11_file C k2 hd k8 k9 hF
set_option maxRecDepth 20000 in
set_option maxHeartbeats 4000000 in
theorem J_fX11_canWithdraw {κ : zT} (C : zC κ RX11 cX11_canWithdraw 2 (some .boolean)) {d : Nat} (hR : zR κ = zrm (d + 1)) (hd : 3 ≤ d + 1) {h : zH} {r : Int} (e1 : zrv κ = some (.int (zi r))) (e2 : zhf κ = h) {a1 : Int} (hF : fX11_canWithdraw a1 h = some r) : Z κ h 0 [(0, .ref (zα κ 14)), (1, .int (zi a1))] [] := by
  unfold fX11_canWithdraw at hF
  refine z_aload_n (q := 1) C dX11_canWithdraw_0 0 rfl rfl rfl ?_
  refine z_iload_n (q := 2) C dX11_canWithdraw_1 1 rfl rfl rfl ?_
  refine z_callV (q := 5) (o := 14) (av := [.int (zi a1)]) (rest := []) (stk2 := [.int (zi (fX11_isParish a1 h))]) C hR clX11 (zon C zo_14) kd_14 (M_fX11_isParish (zlv hd rfl) rfl) mY_X11_isParish q_1426 (Nat.le_of_ble_eq_true rfl) dX11_canWithdraw_2 rfl rfl rfl ?_
  refine z_if_eq (tgt := 22) (q := 8) C dX11_canWithdraw_5 (by decide) rfl (fun c1 => ?_) (fun c1 => ?_)
  · have hF := (if_pos c1).symm.trans hF
    refine z_iconst (q := 23) C dX11_canWithdraw_22 rfl ?_
    have hF := Option.some.inj hF
    subst hF
    exact z_zret C (zb01 (Or.inl rfl)) e1 e2 dX11_canWithdraw_23
  · have hF := (if_neg c1).symm.trans hF
    refine z_aload_n (q := 9) C dX11_canWithdraw_8 0 rfl rfl rfl ?_
    refine z_iload_n (q := 10) C dX11_canWithdraw_9 1 rfl rfl rfl ?_
    refine z_iconst (q := 11) C dX11_canWithdraw_10 rfl ?_
    obtain ⟨v2, ev2, hF⟩ := zb_e hF
    refine z_callV (q := 14) (o := 14) (av := [.int (zi a1), .int (zi 1)]) (rest := []) (stk2 := [.int (zi v2)]) C hR clX11 (zon C zo_14) kd_14 (M_fX11_of (zlv hd rfl) ev2) mY_X11_of q_1430 (Nat.le_of_ble_eq_true rfl) dX11_canWithdraw_11 rfl rfl rfl ?_
    refine z_iconst (q := 15) C dX11_canWithdraw_14 rfl ?_
    refine z_icmp_eq (tgt := 22) (q := 18) C dX11_canWithdraw_15 (by decide) rfl (fun c3 => ?_) (fun c3 => ?_)
    · have hF := (if_pos c3).symm.trans hF
      refine z_iconst (q := 23) C dX11_canWithdraw_22 rfl ?_
      have hF := Option.some.inj hF
      subst hF
      exact z_zret C (zb01 (Or.inl rfl)) e1 e2 dX11_canWithdraw_23
    · have hF := (if_neg c3).symm.trans hF
      refine z_iconst (q := 19) C dX11_canWithdraw_18 rfl ?_
      refine z_goto (q := 23) C dX11_canWithdraw_19 (by decide) ?_
      have hF := Option.some.inj hF
      subst hF
      exact z_zret C (zb01 (Or.inr rfl)) e1 e2 dX11_canWithdraw_23
set_option maxRecDepth 20000 in
set_option maxHeartbeats 4000000 in
theorem M_fX11_canWithdraw {l : Launch} {D : va_G} {cy : ClassId} {α : Nat → Nat} {n : Nat} {σ : zSg} {d : Nat} (hd : 3 ≤ d) {a1 : Int} {h : zH} {r : Int} (hF : fX11_canWithdraw a1 h = some r) : zMet l yX11_canWithdraw cX11_canWithdraw 2 (some .boolean) (zrm d) D cy α n σ [.ref (α 14), .int (zi a1)] h (some (.int (zi r))) h := by
  obtain ⟨d, rfl⟩ : ∃ e, d = e + 1 := ⟨d - 1, by omega⟩
  refine z_met (by decide +kernel) (Nat.le_of_ble_eq_true rfl) (fun κ k1 k2 k3 k4 k5 k6 k7 k8 k9 C => ?_)
  subst k1 k3 k4 k5 k6 k7
  exact J_fX11_canWithdraw C k2 hd k8 k9 hF
set_option maxRecDepth 20000 in
set_option maxHeartbeats 4000000 in
theorem J_fX11_goAway {κ : zT} (C : zC κ RX11 cX11_goAway 2 none) {d : Nat} (hR : zR κ = zrm (d + 1)) (hd : 2 ≤ d + 1) {r : zH} (e1 : zrv κ = none) (e2 : zhf κ = r) {a1 : Int} {h : zH} (hF : fX11_goAway a1 h = some r) : Z κ h 0 [(0, .ref (zα κ 14)), (1, .int (zi a1))] [] := by
  unfold fX11_goAway at hF
  refine z_aload_n (q := 1) C dX11_goAway_0 0 rfl rfl rfl ?_
  refine z_iload_n (q := 2) C dX11_goAway_1 1 rfl rfl rfl ?_
  refine z_iconst (q := 3) C dX11_goAway_2 rfl ?_
  refine z_iconst (q := 4) C dX11_goAway_3 rfl ?_
  obtain ⟨h1, eh1, hF⟩ := zb_e hF
  refine z_callV (q := 7) (o := 14) (av := [.int (zi a1), .int (zi 1), .int (zi (-1))]) (rest := []) (stk2 := []) C hR clX11 (zon C zo_14) kd_14 (M_fX11_put_ (zlv hd rfl) eh1) mY_X11_put_ q_1414 (Nat.le_of_ble_eq_true rfl) dX11_goAway_4 rfl rfl rfl ?_
  refine z_aload_n (q := 8) C dX11_goAway_7 0 rfl rfl rfl ?_
  refine z_iload_n (q := 9) C dX11_goAway_8 1 rfl rfl rfl ?_
  refine z_iconst (q := 10) C dX11_goAway_9 rfl ?_
  refine z_iconst (q := 11) C dX11_goAway_10 rfl ?_
  obtain ⟨h2, eh2, hF⟩ := zb_e hF
  refine z_callV (q := 14) (o := 14) (av := [.int (zi a1), .int (zi 3), .int (zi 0)]) (rest := []) (stk2 := []) C hR clX11 (zon C zo_14) kd_14 (M_fX11_put_ (zlv hd rfl) eh2) mY_X11_put_ q_1414 (Nat.le_of_ble_eq_true rfl) dX11_goAway_11 rfl rfl rfl ?_
  refine z_aload_n (q := 15) C dX11_goAway_14 0 rfl rfl rfl ?_
  refine z_iload_n (q := 16) C dX11_goAway_15 1 rfl rfl rfl ?_
  refine z_iconst (q := 17) C dX11_goAway_16 rfl ?_
  refine z_iconst (q := 18) C dX11_goAway_17 rfl ?_
  obtain ⟨h3, eh3, hF⟩ := zb_e hF
  refine z_callV (q := 21) (o := 14) (av := [.int (zi a1), .int (zi 2), .int (zi 0)]) (rest := []) (stk2 := []) C hR clX11 (zon C zo_14) kd_14 (M_fX11_put_ (zlv hd rfl) eh3) mY_X11_put_ q_1414 (Nat.le_of_ble_eq_true rfl) dX11_goAway_18 rfl rfl rfl ?_
  have hF := Option.some.inj hF
  subst hF
  exact z_vret C e1 e2 dX11_goAway_21
set_option maxRecDepth 20000 in
set_option maxHeartbeats 4000000 in
theorem M_fX11_goAway {l : Launch} {D : va_G} {cy : ClassId} {α : Nat → Nat} {n : Nat} {σ : zSg} {d : Nat} (hd : 2 ≤ d) {a1 : Int} {h : zH} {g : zH} (hF : fX11_goAway a1 h = some g) : zMet l yX11_goAway cX11_goAway 2 none (zrm d) D cy α n σ [.ref (α 14), .int (zi a1)] h (none) g := by
  obtain ⟨d, rfl⟩ : ∃ e, d = e + 1 := ⟨d - 1, by omega⟩
  refine z_met (by decide +kernel) (Nat.le_of_ble_eq_true rfl) (fun κ k1 k2 k3 k4 k5 k6 k7 k8 k9 C => ?_)
  subst k1 k3 k4 k5 k6 k7
  exact J_fX11_goAway C k2 hd k8 k9 hF
set_option maxRecDepth 20000 in
set_option maxHeartbeats 4000000 in
theorem J_fX11_withdraw {κ : zT} (C : zC κ RX11 cX11_withdraw 3 (some .int)) {d : Nat} (hR : zR κ = zrm (d + 1)) (hd : 4 ≤ d + 1) {N : Nat} {r : Int × zH} (e1 : zrv κ = some (.int (zi r.1))) (e2 : zhf κ = r.2) {a1 : Int} {h : zH} (hF : fX11_withdraw N a1 h = some r) : Z κ h 0 [(0, .ref (zα κ 14)), (1, .int (zi a1))] [] := by
  unfold fX11_withdraw at hF
  refine z_aload_n (q := 1) C dX11_withdraw_0 0 rfl rfl rfl ?_
  refine z_iload_n (q := 2) C dX11_withdraw_1 1 rfl rfl rfl ?_
  obtain ⟨v1, ev1, hF⟩ := zb_e hF
  refine z_callV (q := 5) (o := 14) (av := [.int (zi a1)]) (rest := []) (stk2 := [.int (zi v1)]) C hR clX11 (zon C zo_14) kd_14 (M_fX11_canWithdraw (zlv hd rfl) ev1) mY_X11_canWithdraw q_1502 (Nat.le_of_ble_eq_true rfl) dX11_withdraw_2 rfl rfl rfl ?_
  refine z_if_ne (tgt := 10) (q := 8) C dX11_withdraw_5 (by decide) rfl (fun c2 => ?_) (fun c2 => ?_)
  · have hF := (if_neg c2).symm.trans hF
    refine z_aload_n (q := 11) C dX11_withdraw_10 0 rfl rfl rfl ?_
    obtain ⟨h3, eh3, hF⟩ := zb_e hF
    refine z_callV (q := 14) (o := 14) (av := []) (rest := []) (stk2 := []) C hR clX11 (zon C zo_14) kd_14 (M_fX11_keep (zlv hd rfl) eh3) mY_X11_keep q_1490 (Nat.le_of_ble_eq_true rfl) dX11_withdraw_11 rfl rfl rfl ?_
    refine z_aload_n (q := 15) C dX11_withdraw_14 0 rfl rfl rfl ?_
    refine z_iload_n (q := 16) C dX11_withdraw_15 1 rfl rfl rfl ?_
    refine z_iconst (q := 17) C dX11_withdraw_16 rfl ?_
    obtain ⟨v4, ev4, hF⟩ := zb_e hF
    refine z_callV (q := 20) (o := 14) (av := [.int (zi a1), .int (zi 1)]) (rest := []) (stk2 := [.int (zi v4)]) C hR clX11 (zon C zo_14) kd_14 (M_fX11_of (zlv hd rfl) ev4) mY_X11_of q_1430 (Nat.le_of_ble_eq_true rfl) dX11_withdraw_17 rfl rfl rfl ?_
    refine z_istore_n (q := 21) C dX11_withdraw_20 (by decide) rfl rfl rfl ?_
    refine z_aload_n (q := 22) C dX11_withdraw_21 1 rfl rfl rfl ?_
    refine z_iload_n (q := 23) C dX11_withdraw_22 2 rfl rfl rfl ?_
    obtain ⟨h5, eh5, hF⟩ := zb_e hF
    refine z_callV (q := 26) (o := 14) (av := [.int (zi a1)]) (rest := []) (stk2 := []) C hR clX11 (zon C zo_14) kd_14 (M_fX11_goAway (zlv hd rfl) eh5) mY_X11_goAway q_1506 (Nat.le_of_ble_eq_true rfl) dX11_withdraw_23 rfl rfl rfl ?_
    refine z_iload_n (q := 27) C dX11_withdraw_26 0 rfl rfl rfl ?_
    have hF := Option.some.inj hF
    subst hF
    exact z_iret C e1 e2 dX11_withdraw_27
  · have hF := (if_pos c2).symm.trans hF
    refine z_iconst (q := 9) C dX11_withdraw_8 rfl ?_
    have hF := Option.some.inj hF
    subst hF
    exact z_iret C e1 e2 dX11_withdraw_9
set_option maxRecDepth 20000 in
set_option maxHeartbeats 4000000 in
theorem M_fX11_withdraw {l : Launch} {D : va_G} {cy : ClassId} {α : Nat → Nat} {n : Nat} {σ : zSg} {d : Nat} (hd : 4 ≤ d) {N : Nat} {a1 : Int} {h : zH} {r : Int} {g : zH} (hF : fX11_withdraw N a1 h = some (r, g)) : zMet l yX11_withdraw cX11_withdraw 3 (some .int) (zrm d) D cy α n σ [.ref (α 14), .int (zi a1)] h (some (.int (zi r))) g := by
  obtain ⟨d, rfl⟩ : ∃ e, d = e + 1 := ⟨d - 1, by omega⟩
  refine z_met (by decide +kernel) (Nat.le_of_ble_eq_true rfl) (fun κ k1 k2 k3 k4 k5 k6 k7 k8 k9 C => ?_)
  subst k1 k3 k4 k5 k6 k7
  exact J_fX11_withdraw C k2 hd k8 k9 hF
set_option maxRecDepth 20000 in
set_option maxHeartbeats 4000000 in
theorem J_fX11_areHours {κ : zT} (C : zC κ RX11 cX11_areHours 3 (some .boolean)) {d : Nat} (hR : zR κ = zrm (d + 1)) (hd : 2 ≤ d + 1) {h : zH} {r : Int} (e1 : zrv κ = some (.int (zi r))) (e2 : zhf κ = h) {a1 : Int} {a2 : Int} (hF : fX11_areHours a1 a2 h = r) : Z κ h 0 [(0, .ref (zα κ 14)), (1, .int (zi a1)), (2, .int (zi a2))] [] := by
  unfold fX11_areHours at hF
  refine z_aload_n (q := 1) C dX11_areHours_0 0 rfl rfl rfl ?_
  refine z_getf (q := 4) C clX11 (zon C zo_14) kd_14 (k := 28) (by decide) q_1130 rfl (zfv_i kd_14 rfl) dX11_areHours_1 rfl ?_
  refine z_if_le (tgt := 35) (q := 7) C dX11_areHours_4 (by decide) rfl (fun c1 => ?_) (fun c1 => ?_)
  · have hF := (if_pos c1).symm.trans hF
    refine z_iconst (q := 36) C dX11_areHours_35 rfl ?_
    subst hF
    exact z_zret C (zb01 (Or.inl rfl)) e1 e2 dX11_areHours_36
  · have hF := (if_neg c1).symm.trans hF
    refine z_iload_n (q := 8) C dX11_areHours_7 1 rfl rfl rfl ?_
    refine z_iconst (q := 9) C dX11_areHours_8 rfl ?_
    refine z_iload_n (q := 10) C dX11_areHours_9 2 rfl rfl rfl ?_
    refine z_callS (q := 13) (av := [.int (zi a1), .int (zi 1), .int (zi a2)]) (rest := []) (stk2 := [.int (zi (fX11_in a1 1 a2))]) C hR (M_fX11_in (zlv hd rfl) rfl) mY_X11_in q_1314 (Nat.le_of_ble_eq_true rfl) dX11_areHours_10 rfl rfl rfl ?_
    refine z_if_eq (tgt := 35) (q := 16) C dX11_areHours_13 (by decide) rfl (fun c2 => ?_) (fun c2 => ?_)
    · have hF := (if_pos c2).symm.trans hF
      refine z_iconst (q := 36) C dX11_areHours_35 rfl ?_
      subst hF
      exact z_zret C (zb01 (Or.inl rfl)) e1 e2 dX11_areHours_36
    · have hF := (if_neg c2).symm.trans hF
      refine z_aload_n (q := 17) C dX11_areHours_16 0 rfl rfl rfl ?_
      refine z_getf (q := 20) C clX11 (zon C zo_14) kd_14 (k := 34) (by decide) q_1136 rfl (zfv_r kd_14 rfl fr_14_34) dX11_areHours_17 rfl ?_
      refine z_bipush (q := 22) C dX11_areHours_20 bp_42 rfl ?_
      refine z_ialdc (q := 23) (j := 42) C (zon C zo_69) kd_69 zwk_42 (by rw [ln_69]; decide) dX11_areHours_22 rfl ?_
      refine z_iload_n (q := 24) C dX11_areHours_23 1 rfl rfl rfl ?_
      refine z_iadd (q := 25) C dX11_areHours_24 rfl ?_
      refine z_sipush (q := 28) C dX11_areHours_25 sp_9999 rfl ?_
      refine z_icmp_gt (tgt := 35) (q := 31) C dX11_areHours_28 (by decide) rfl (fun c3 => ?_) (fun c3 => ?_)
      · have hF := (if_pos c3).symm.trans hF
        refine z_iconst (q := 36) C dX11_areHours_35 rfl ?_
        subst hF
        exact z_zret C (zb01 (Or.inl rfl)) e1 e2 dX11_areHours_36
      · have hF := (if_neg c3).symm.trans hF
        refine z_iconst (q := 32) C dX11_areHours_31 rfl ?_
        refine z_goto (q := 36) C dX11_areHours_32 (by decide) ?_
        subst hF
        exact z_zret C (zb01 (Or.inr rfl)) e1 e2 dX11_areHours_36
set_option maxRecDepth 20000 in
set_option maxHeartbeats 4000000 in
theorem M_fX11_areHours {l : Launch} {D : va_G} {cy : ClassId} {α : Nat → Nat} {n : Nat} {σ : zSg} {d : Nat} (hd : 2 ≤ d) {a1 : Int} {a2 : Int} {h : zH} {r : Int} (hF : fX11_areHours a1 a2 h = r) : zMet l yX11_areHours cX11_areHours 3 (some .boolean) (zrm d) D cy α n σ [.ref (α 14), .int (zi a1), .int (zi a2)] h (some (.int (zi r))) h := by
  obtain ⟨d, rfl⟩ : ∃ e, d = e + 1 := ⟨d - 1, by omega⟩
  refine z_met (by decide +kernel) (Nat.le_of_ble_eq_true rfl) (fun κ k1 k2 k3 k4 k5 k6 k7 k8 k9 C => ?_)
  subst k1 k3 k4 k5 k6 k7
  exact J_fX11_areHours C k2 hd k8 k9 hF
theorem B_fX11_areHours {a1 : Int} {a2 : Int} {h : zH} : fX11_areHours a1 a2 h = 0 ∨ fX11_areHours a1 a2 h = 1 := by
  unfold fX11_areHours
  try simp only [zlet, zlet2]
  repeat' (first | exact Or.inl rfl | exact Or.inr rfl | exact B_fX11_in | apply zite01)
set_option maxRecDepth 20000 in
set_option maxHeartbeats 4000000 in
theorem J_fX11_isDawn {κ : zT} (C : zC κ RX11 cX11_isDawn 1 (some .boolean)) {d : Nat} (hR : zR κ = zrm (d + 1)) (hd : 2 ≤ d + 1) {h : zH} {r : Int} (e1 : zrv κ = some (.int (zi r))) (e2 : zhf κ = h) (hF : fX11_isDawn h = r) : Z κ h 0 [(0, .ref (zα κ 14))] [] := by
  unfold fX11_isDawn at hF
  refine z_aload_n (q := 1) C dX11_isDawn_0 0 rfl rfl rfl ?_
  refine z_callV (q := 4) (o := 14) (av := []) (rest := []) (stk2 := [.int (zi (fX11_time h))]) C hR clX11 (zon C zo_14) kd_14 (M_fX11_time (zlv hd rfl) rfl) mY_X11_time q_1454 (Nat.le_of_ble_eq_true rfl) dX11_isDawn_1 rfl rfl rfl ?_
  refine z_aload_n (q := 5) C dX11_isDawn_4 0 rfl rfl rfl ?_
  refine z_getf (q := 8) C clX11 (zon C zo_14) kd_14 (k := 24) (by decide) q_1126 rfl (zfv_r kd_14 rfl fr_14_24) dX11_isDawn_5 rfl ?_
  refine z_iconst (q := 9) C dX11_isDawn_8 rfl ?_
  refine z_ialdc (q := 10) (j := 0) C (zon C zo_63) kd_63 zwk_0 (by rw [ln_63]; decide) dX11_isDawn_9 rfl ?_
  refine z_icmp_ne (tgt := 17) (q := 13) C dX11_isDawn_10 (by decide) rfl (fun c1 => ?_) (fun c1 => ?_)
  · have hF := (if_neg c1).symm.trans hF
    refine z_iconst (q := 18) C dX11_isDawn_17 rfl ?_
    subst hF
    exact z_zret C (zb01 (Or.inl rfl)) e1 e2 dX11_isDawn_18
  · have hF := (if_pos c1).symm.trans hF
    refine z_iconst (q := 14) C dX11_isDawn_13 rfl ?_
    refine z_goto (q := 18) C dX11_isDawn_14 (by decide) ?_
    subst hF
    exact z_zret C (zb01 (Or.inr rfl)) e1 e2 dX11_isDawn_18
set_option maxRecDepth 20000 in
set_option maxHeartbeats 4000000 in
theorem M_fX11_isDawn {l : Launch} {D : va_G} {cy : ClassId} {α : Nat → Nat} {n : Nat} {σ : zSg} {d : Nat} (hd : 2 ≤ d) {h : zH} {r : Int} (hF : fX11_isDawn h = r) : zMet l yX11_isDawn cX11_isDawn 1 (some .boolean) (zrm d) D cy α n σ [.ref (α 14)] h (some (.int (zi r))) h := by
  obtain ⟨d, rfl⟩ : ∃ e, d = e + 1 := ⟨d - 1, by omega⟩
  refine z_met (by decide +kernel) (Nat.le_of_ble_eq_true rfl) (fun κ k1 k2 k3 k4 k5 k6 k7 k8 k9 C => ?_)
  subst k1 k3 k4 k5 k6 k7
  exact J_fX11_isDawn C k2 hd k8 k9 hF
theorem B_fX11_isDawn {h : zH} : fX11_isDawn h = 0 ∨ fX11_isDawn h = 1 := by
  unfold fX11_isDawn
  try simp only [zlet, zlet2]
  repeat' (first | exact Or.inl rfl | exact Or.inr rfl | apply zite01)
set_option maxRecDepth 20000 in
set_option maxHeartbeats 4000000 in
theorem J_fX11_form {κ : zT} (C : zC κ RX11 cX11_form 2 (some .int)) {d : Nat} (hR : zR κ = zrm (d + 1)) (hd : 1 ≤ d + 1) {h : zH} {r : Int} (e1 : zrv κ = some (.int (zi r))) (e2 : zhf κ = h) {a1 : Int} (hF : fX11_form a1 h = some r) : Z κ h 0 [(0, .ref (zα κ 14)), (1, .int (zi a1))] [] := by
  unfold fX11_form at hF
  refine z_aload_n (q := 1) C dX11_form_0 0 rfl rfl rfl ?_
  refine z_getf (q := 4) C clX11 (zon C zo_14) kd_14 (k := 25) (by decide) q_1127 rfl (zfv_r kd_14 rfl fr_14_25) dX11_form_1 rfl ?_
  refine z_iconst (q := 5) C dX11_form_4 rfl ?_
  refine z_iload_n (q := 6) C dX11_form_5 1 rfl rfl rfl ?_
  refine z_imul (q := 7) C dX11_form_6 rfl ?_
  refine z_iconst (q := 8) C dX11_form_7 rfl ?_
  refine z_iadd (q := 9) C dX11_form_8 rfl ?_
  obtain ⟨g1, hF⟩ := zif_none hF
  refine z_iald (q := 10) C (zon C zo_64) kd_64 g1.1 (by rw [ln_64]; exact g1.2) dX11_form_9 rfl ?_
  have hF := Option.some.inj hF
  subst hF
  exact z_iret C e1 e2 dX11_form_10
set_option maxRecDepth 20000 in
set_option maxHeartbeats 4000000 in
theorem M_fX11_form {l : Launch} {D : va_G} {cy : ClassId} {α : Nat → Nat} {n : Nat} {σ : zSg} {d : Nat} (hd : 1 ≤ d) {a1 : Int} {h : zH} {r : Int} (hF : fX11_form a1 h = some r) : zMet l yX11_form cX11_form 2 (some .int) (zrm d) D cy α n σ [.ref (α 14), .int (zi a1)] h (some (.int (zi r))) h := by
  obtain ⟨d, rfl⟩ : ∃ e, d = e + 1 := ⟨d - 1, by omega⟩
  refine z_met (by decide +kernel) (Nat.le_of_ble_eq_true rfl) (fun κ k1 k2 k3 k4 k5 k6 k7 k8 k9 C => ?_)
  subst k1 k3 k4 k5 k6 k7
  exact J_fX11_form C k2 hd k8 k9 hF
set_option maxRecDepth 20000 in
set_option maxHeartbeats 4000000 in
theorem J_fX11_shareOf {κ : zT} (C : zC κ RX11 cX11_shareOf 5 (some .int)) {d : Nat} (hR : zR κ = zrm (d + 1)) (hd : 2 ≤ d + 1) {h : zH} {r : Int} (e1 : zrv κ = some (.int (zi r))) (e2 : zhf κ = h) {a1 : Int} {a2 : Int} {a3 : Int} (hF : fX11_shareOf a1 a2 a3 h = some r) : Z κ h 0 [(0, .ref (zα κ 14)), (1, .int (zi a1)), (2, .int (zi a2)), (3, .int (zi a3))] [] := by
  unfold fX11_shareOf at hF
  refine z_aload_n (q := 1) C dX11_shareOf_0 0 rfl rfl rfl ?_
  refine z_getf (q := 4) C clX11 (zon C zo_14) kd_14 (k := 24) (by decide) q_1126 rfl (zfv_r kd_14 rfl fr_14_24) dX11_shareOf_1 rfl ?_
  refine z_iconst (q := 5) C dX11_shareOf_4 rfl ?_
  refine z_ialdc (q := 6) (j := 1) C (zon C zo_63) kd_63 zwk_1 (by rw [ln_63]; decide) dX11_shareOf_5 rfl ?_
  refine z_iload_n (q := 7) C dX11_shareOf_6 2 rfl rfl rfl ?_
  obtain ⟨g1, hF⟩ := zif_none hF
  refine z_idiv (q := 8) C g1 dX11_shareOf_7 rfl ?_
  refine z_iload_n (q := 9) C dX11_shareOf_8 3 rfl rfl rfl ?_
  refine z_aload_n (q := 10) C dX11_shareOf_9 0 rfl rfl rfl ?_
  refine z_getf (q := 13) C clX11 (zon C zo_14) kd_14 (k := 24) (by decide) q_1126 rfl (zfv_r kd_14 rfl fr_14_24) dX11_shareOf_10 rfl ?_
  refine z_iconst (q := 14) C dX11_shareOf_13 rfl ?_
  refine z_ialdc (q := 15) (j := 1) C (zon C zo_63) kd_63 zwk_1 (by rw [ln_63]; decide) dX11_shareOf_14 rfl ?_
  refine z_iload_n (q := 16) C dX11_shareOf_15 2 rfl rfl rfl ?_
  obtain ⟨g2, hF⟩ := zif_none hF
  refine z_irem (q := 17) C g2 dX11_shareOf_16 rfl ?_
  refine z_icmp_ge (tgt := 24) (q := 20) C dX11_shareOf_17 (by decide) rfl (fun c3 => ?_) (fun c3 => ?_)
  · have hF := (if_pos c3).symm.trans hF
    refine z_iconst (q := 25) C dX11_shareOf_24 rfl ?_
    refine z_iadd (q := 26) C dX11_shareOf_25 rfl ?_
    obtain ⟨v4, ev4, hF⟩ := zlet_e hF
    refine z_istoreE (q := 28) C ev4 dX11_shareOf_26 (by decide) rfl rfl ?_
    refine z_iload (q := 30) C dX11_shareOf_28 0 rfl rfl ?_
    refine z_aload_n (q := 31) C dX11_shareOf_30 1 rfl rfl rfl ?_
    refine z_getf (q := 34) C clX11 (zon C zo_14) kd_14 (k := 25) (by decide) q_1127 rfl (zfv_r kd_14 rfl fr_14_25) dX11_shareOf_31 rfl ?_
    refine z_iconst (q := 35) C dX11_shareOf_34 rfl ?_
    refine z_iload_n (q := 36) C dX11_shareOf_35 2 rfl rfl rfl ?_
    refine z_imul (q := 37) C dX11_shareOf_36 rfl ?_
    refine z_iconst (q := 38) C dX11_shareOf_37 rfl ?_
    refine z_iadd (q := 39) C dX11_shareOf_38 rfl ?_
    obtain ⟨g5, hF⟩ := zif_none hF
    refine z_iald (q := 40) C (zon C zo_64) kd_64 g5.1 (by rw [ln_64]; exact g5.2) dX11_shareOf_39 rfl ?_
    obtain ⟨v6, ev6, hF⟩ := zlet_e hF
    refine z_callS (q := 43) (av := [.int (zi v4), .int (zi (h 64 (zw ((3 * a1) + 1)).toNat))]) (rest := []) (stk2 := [.int (zi v6)]) C hR (M_fJ9_min_7cf53 (zlv hd rfl) ev6.symm) mY_J9_min_7cf53 q_1542 (Nat.le_of_ble_eq_true rfl) dX11_shareOf_40 rfl rfl rfl ?_
    have hF := Option.some.inj hF
    subst hF
    exact z_iret C e1 e2 dX11_shareOf_43
  · have hF := (if_neg c3).symm.trans hF
    refine z_iconst (q := 21) C dX11_shareOf_20 rfl ?_
    refine z_goto (q := 25) C dX11_shareOf_21 (by decide) ?_
    refine z_iadd (q := 26) C dX11_shareOf_25 rfl ?_
    obtain ⟨v7, ev7, hF⟩ := zlet_e hF
    refine z_istoreE (q := 28) C ev7 dX11_shareOf_26 (by decide) rfl rfl ?_
    refine z_iload (q := 30) C dX11_shareOf_28 0 rfl rfl ?_
    refine z_aload_n (q := 31) C dX11_shareOf_30 1 rfl rfl rfl ?_
    refine z_getf (q := 34) C clX11 (zon C zo_14) kd_14 (k := 25) (by decide) q_1127 rfl (zfv_r kd_14 rfl fr_14_25) dX11_shareOf_31 rfl ?_
    refine z_iconst (q := 35) C dX11_shareOf_34 rfl ?_
    refine z_iload_n (q := 36) C dX11_shareOf_35 2 rfl rfl rfl ?_
    refine z_imul (q := 37) C dX11_shareOf_36 rfl ?_
    refine z_iconst (q := 38) C dX11_shareOf_37 rfl ?_
    refine z_iadd (q := 39) C dX11_shareOf_38 rfl ?_
    obtain ⟨g8, hF⟩ := zif_none hF
    refine z_iald (q := 40) C (zon C zo_64) kd_64 g8.1 (by rw [ln_64]; exact g8.2) dX11_shareOf_39 rfl ?_
    obtain ⟨v9, ev9, hF⟩ := zlet_e hF
    refine z_callS (q := 43) (av := [.int (zi v7), .int (zi (h 64 (zw ((3 * a1) + 1)).toNat))]) (rest := []) (stk2 := [.int (zi v9)]) C hR (M_fJ9_min_7cf53 (zlv hd rfl) ev9.symm) mY_J9_min_7cf53 q_1542 (Nat.le_of_ble_eq_true rfl) dX11_shareOf_40 rfl rfl rfl ?_
    have hF := Option.some.inj hF
    subst hF
    exact z_iret C e1 e2 dX11_shareOf_43
set_option maxRecDepth 20000 in
set_option maxHeartbeats 4000000 in
theorem M_fX11_shareOf {l : Launch} {D : va_G} {cy : ClassId} {α : Nat → Nat} {n : Nat} {σ : zSg} {d : Nat} (hd : 2 ≤ d) {a1 : Int} {a2 : Int} {a3 : Int} {h : zH} {r : Int} (hF : fX11_shareOf a1 a2 a3 h = some r) : zMet l yX11_shareOf cX11_shareOf 5 (some .int) (zrm d) D cy α n σ [.ref (α 14), .int (zi a1), .int (zi a2), .int (zi a3)] h (some (.int (zi r))) h := by
  obtain ⟨d, rfl⟩ : ∃ e, d = e + 1 := ⟨d - 1, by omega⟩
  refine z_met (by decide +kernel) (Nat.le_of_ble_eq_true rfl) (fun κ k1 k2 k3 k4 k5 k6 k7 k8 k9 C => ?_)
  subst k1 k3 k4 k5 k6 k7
  exact J_fX11_shareOf C k2 hd k8 k9 hF
set_option maxRecDepth 20000 in
set_option maxHeartbeats 4000000 in
theorem J_fX11_hoursBy_c68 {κ : zT} (C : zC κ RX11 cX11_hoursBy 7 (some .int)) {d : Nat} (hR : zR κ = zrm (d + 1)) (hd : 3 ≤ d + 1) {N : Nat} {h : zH} {r : Int} (e1 : zrv κ = some (.int (zi r))) (e2 : zhf κ = h) {K18 : Int → Int → Int → Int → Int → Option Int} (hK18 : ∀ (l1 : Int) (l2 : Int) (l3 : Int) (l4 : Int) (l5 : Int), K18 l1 l2 l3 l4 l5 = some r → Z κ h 18 [(0, .ref (zα κ 14)), (1, .int (zi l1)), (2, .int (zi l2)), (3, .int (zi l3)), (4, .int (zi l4)), (5, .int (zi l5))] []) (l1 : Int) (l2 : Int) (l4 : Int) (l5 : Int) (l6 : Int) (s0 : Int) (s1 : Int) (hF : fX11_hoursBy_c68 N h K18 l1 l2 l4 l5 l6 s0 s1 = some r) : Z κ h 68 [(0, .ref (zα κ 14)), (1, .int (zi l1)), (2, .int (zi l2)), (4, .int (zi l4)), (5, .int (zi l5)), (6, .int (zi l6))] [.int (zi s0), .int (zi s1)] := by
  unfold fX11_hoursBy_c68 at hF
  refine z_iadd (q := 69) C dX11_hoursBy_68 rfl ?_
  refine z_istore_n (q := 70) C dX11_hoursBy_69 (by decide) rfl rfl rfl ?_
  refine z_iload (q := 72) C dX11_hoursBy_70 4 rfl rfl ?_
  refine z_iload (q := 74) C dX11_hoursBy_72 6 rfl rfl ?_
  refine z_if_eq (tgt := 87) (q := 77) C dX11_hoursBy_74 (by decide) rfl (fun c1 => ?_) (fun c1 => ?_)
  · have hF := (if_pos c1).symm.trans hF
    refine z_iconst (q := 88) C dX11_hoursBy_87 rfl ?_
    refine z_iadd (q := 89) C dX11_hoursBy_88 rfl ?_
    refine z_istore (q := 91) C dX11_hoursBy_89 (by decide) rfl rfl ?_
    refine z_iinc (q := 94) (x := l5) C dX11_hoursBy_91 (j := 5) rfl (by decide) rfl rfl ?_
    refine z_goto (q := 18) C dX11_hoursBy_94 (by decide) ?_
    exact z_sub (hK18 _ _ _ _ _ hF) [3, 4, 5, 2, 1, 0] rfl
  · have hF := (if_neg c1).symm.trans hF
    refine z_iload (q := 79) C dX11_hoursBy_77 5 rfl rfl ?_
    refine z_iload_n (q := 80) C dX11_hoursBy_79 2 rfl rfl rfl ?_
    refine z_icmp_ge (tgt := 87) (q := 83) C dX11_hoursBy_80 (by decide) rfl (fun c2 => ?_) (fun c2 => ?_)
    · have hF := (if_pos c2).symm.trans hF
      refine z_iconst (q := 88) C dX11_hoursBy_87 rfl ?_
      refine z_iadd (q := 89) C dX11_hoursBy_88 rfl ?_
      refine z_istore (q := 91) C dX11_hoursBy_89 (by decide) rfl rfl ?_
      refine z_iinc (q := 94) (x := l5) C dX11_hoursBy_91 (j := 5) rfl (by decide) rfl rfl ?_
      refine z_goto (q := 18) C dX11_hoursBy_94 (by decide) ?_
      exact z_sub (hK18 _ _ _ _ _ hF) [3, 4, 5, 2, 1, 0] rfl
    · have hF := (if_neg c2).symm.trans hF
      refine z_iconst (q := 84) C dX11_hoursBy_83 rfl ?_
      refine z_goto (q := 88) C dX11_hoursBy_84 (by decide) ?_
      refine z_iadd (q := 89) C dX11_hoursBy_88 rfl ?_
      refine z_istore (q := 91) C dX11_hoursBy_89 (by decide) rfl rfl ?_
      refine z_iinc (q := 94) (x := l5) C dX11_hoursBy_91 (j := 5) rfl (by decide) rfl rfl ?_
      refine z_goto (q := 18) C dX11_hoursBy_94 (by decide) ?_
      exact z_sub (hK18 _ _ _ _ _ hF) [3, 4, 5, 2, 1, 0] rfl
set_option maxRecDepth 20000 in
set_option maxHeartbeats 4000000 in
theorem J_fX11_hoursBy_c18b {κ : zT} (C : zC κ RX11 cX11_hoursBy 7 (some .int)) {d : Nat} (hR : zR κ = zrm (d + 1)) (hd : 3 ≤ d + 1) {N : Nat} {h : zH} {r : Int} (e1 : zrv κ = some (.int (zi r))) (e2 : zhf κ = h) {K18 : Int → Int → Int → Int → Int → Option Int} (hK18 : ∀ (l1 : Int) (l2 : Int) (l3 : Int) (l4 : Int) (l5 : Int), K18 l1 l2 l3 l4 l5 = some r → Z κ h 18 [(0, .ref (zα κ 14)), (1, .int (zi l1)), (2, .int (zi l2)), (3, .int (zi l3)), (4, .int (zi l4)), (5, .int (zi l5))] []) (l1 : Int) (l2 : Int) (l3 : Int) (l4 : Int) (l5 : Int) (hF : fX11_hoursBy_c18b N h K18 l1 l2 l3 l4 l5 = some r) : Z κ h 18 [(0, .ref (zα κ 14)), (1, .int (zi l1)), (2, .int (zi l2)), (3, .int (zi l3)), (4, .int (zi l4)), (5, .int (zi l5))] [] := by
  unfold fX11_hoursBy_c18b at hF
  refine z_iload (q := 20) C dX11_hoursBy_18 5 rfl rfl ?_
  refine z_aload_n (q := 21) C dX11_hoursBy_20 0 rfl rfl rfl ?_
  refine z_getf (q := 24) C clX11 (zon C zo_14) kd_14 (k := 28) (by decide) q_1130 rfl (zfv_i kd_14 rfl) dX11_hoursBy_21 rfl ?_
  refine z_icmp_ge (tgt := 97) (q := 27) C dX11_hoursBy_24 (by decide) rfl (fun c1 => ?_) (fun c1 => ?_)
  · have hF := (if_pos c1).symm.trans hF
    refine z_aload_n (q := 98) C dX11_hoursBy_97 0 rfl rfl rfl ?_
    refine z_iload_n (q := 99) C dX11_hoursBy_98 1 rfl rfl rfl ?_
    refine z_iload_n (q := 100) C dX11_hoursBy_99 3 rfl rfl rfl ?_
    refine z_iload (q := 102) C dX11_hoursBy_100 4 rfl rfl ?_
    obtain ⟨v2, ev2, hF⟩ := zb_e hF
    refine z_callV (q := 105) (o := 14) (av := [.int (zi l1), .int (zi l3), .int (zi l4)]) (rest := []) (stk2 := [.int (zi v2)]) C hR clX11 (zon C zo_14) kd_14 (M_fX11_shareOf (zlv hd rfl) ev2) mY_X11_shareOf q_1538 (Nat.le_of_ble_eq_true rfl) dX11_hoursBy_102 rfl rfl rfl ?_
    have hF := Option.some.inj hF
    subst hF
    exact z_iret C e1 e2 dX11_hoursBy_105
  · have hF := (if_neg c1).symm.trans hF
    refine z_iload_n (q := 28) C dX11_hoursBy_27 2 rfl rfl rfl ?_
    refine z_iload (q := 30) C dX11_hoursBy_28 5 rfl rfl ?_
    refine z_callS (q := 33) (av := [.int (zi l2), .int (zi l5)]) (rest := []) (stk2 := [.int (zi (fX11_has l2 l5))]) C hR (M_fX11_has (zlv hd rfl) rfl) mY_X11_has q_1294 (Nat.le_of_ble_eq_true rfl) dX11_hoursBy_30 rfl rfl rfl ?_
    refine z_if_eq (tgt := 54) (q := 36) C dX11_hoursBy_33 (by decide) rfl (fun c3 => ?_) (fun c3 => ?_)
    · have hF := (if_pos c3).symm.trans hF
      refine z_iconst (q := 55) C dX11_hoursBy_54 rfl ?_
      refine z_istore (q := 57) C dX11_hoursBy_55 (by decide) rfl rfl ?_
      refine z_iload_n (q := 58) C dX11_hoursBy_57 4 rfl rfl rfl ?_
      refine z_iload (q := 60) C dX11_hoursBy_58 0 rfl rfl ?_
      refine z_if_eq (tgt := 67) (q := 63) C dX11_hoursBy_60 (by decide) rfl (fun c4 => ?_) (fun c4 => ?_)
      · have hF := (if_pos c4).symm.trans hF
        refine z_iconst (q := 68) C dX11_hoursBy_67 rfl ?_
        exact z_sub (J_fX11_hoursBy_c68 C hR hd e1 e2 hK18 _ _ _ _ _ _ _ hF) [1, 2, 3, 5, 6, 0] rfl
      · have hF := (if_neg c4).symm.trans hF
        refine z_iconst (q := 64) C dX11_hoursBy_63 rfl ?_
        refine z_goto (q := 68) C dX11_hoursBy_64 (by decide) ?_
        exact z_sub (J_fX11_hoursBy_c68 C hR hd e1 e2 hK18 _ _ _ _ _ _ _ hF) [1, 2, 3, 5, 6, 0] rfl
    · have hF := (if_neg c3).symm.trans hF
      refine z_aload_n (q := 37) C dX11_hoursBy_36 0 rfl rfl rfl ?_
      refine z_iload (q := 39) C dX11_hoursBy_37 5 rfl rfl ?_
      obtain ⟨v5, ev5, hF⟩ := zb_e hF
      refine z_callV (q := 42) (o := 14) (av := [.int (zi l5)]) (rest := []) (stk2 := [.int (zi v5)]) C hR clX11 (zon C zo_14) kd_14 (M_fX11_form (zlv hd rfl) ev5) mY_X11_form q_1530 (Nat.le_of_ble_eq_true rfl) dX11_hoursBy_39 rfl rfl rfl ?_
      refine z_aload_n (q := 43) C dX11_hoursBy_42 0 rfl rfl rfl ?_
      refine z_iload_n (q := 44) C dX11_hoursBy_43 1 rfl rfl rfl ?_
      obtain ⟨v6, ev6, hF⟩ := zb_e hF
      refine z_callV (q := 47) (o := 14) (av := [.int (zi l1)]) (rest := [.int (zi v5)]) (stk2 := [.int (zi v6), .int (zi v5)]) C hR clX11 (zon C zo_14) kd_14 (M_fX11_form (zlv hd rfl) ev6) mY_X11_form q_1530 (Nat.le_of_ble_eq_true rfl) dX11_hoursBy_44 rfl rfl rfl ?_
      refine z_icmp_ne (tgt := 54) (q := 50) C dX11_hoursBy_47 (by decide) rfl (fun c7 => ?_) (fun c7 => ?_)
      · have hF := (if_neg c7).symm.trans hF
        refine z_iconst (q := 55) C dX11_hoursBy_54 rfl ?_
        refine z_istore (q := 57) C dX11_hoursBy_55 (by decide) rfl rfl ?_
        refine z_iload_n (q := 58) C dX11_hoursBy_57 4 rfl rfl rfl ?_
        refine z_iload (q := 60) C dX11_hoursBy_58 0 rfl rfl ?_
        refine z_if_eq (tgt := 67) (q := 63) C dX11_hoursBy_60 (by decide) rfl (fun c9 => ?_) (fun c9 => ?_)
        · have hF := (if_pos c9).symm.trans hF
          refine z_iconst (q := 68) C dX11_hoursBy_67 rfl ?_
          exact z_sub (J_fX11_hoursBy_c68 C hR hd e1 e2 hK18 _ _ _ _ _ _ _ hF) [1, 2, 3, 5, 6, 0] rfl
        · have hF := (if_neg c9).symm.trans hF
          refine z_iconst (q := 64) C dX11_hoursBy_63 rfl ?_
          refine z_goto (q := 68) C dX11_hoursBy_64 (by decide) ?_
          exact z_sub (J_fX11_hoursBy_c68 C hR hd e1 e2 hK18 _ _ _ _ _ _ _ hF) [1, 2, 3, 5, 6, 0] rfl
      · have hF := (if_pos c7).symm.trans hF
        refine z_iconst (q := 51) C dX11_hoursBy_50 rfl ?_
        refine z_goto (q := 55) C dX11_hoursBy_51 (by decide) ?_
        refine z_istore (q := 57) C dX11_hoursBy_55 (by decide) rfl rfl ?_
        refine z_iload_n (q := 58) C dX11_hoursBy_57 4 rfl rfl rfl ?_
        refine z_iload (q := 60) C dX11_hoursBy_58 0 rfl rfl ?_
        refine z_if_eq (tgt := 67) (q := 63) C dX11_hoursBy_60 (by decide) rfl (fun c8 => ?_) (fun c8 => ?_)
        · have hF := (if_pos c8).symm.trans hF
          refine z_iconst (q := 68) C dX11_hoursBy_67 rfl ?_
          exact z_sub (J_fX11_hoursBy_c68 C hR hd e1 e2 hK18 _ _ _ _ _ _ _ hF) [1, 2, 3, 5, 6, 0] rfl
        · have hF := (if_neg c8).symm.trans hF
          refine z_iconst (q := 64) C dX11_hoursBy_63 rfl ?_
          refine z_goto (q := 68) C dX11_hoursBy_64 (by decide) ?_
          exact z_sub (J_fX11_hoursBy_c68 C hR hd e1 e2 hK18 _ _ _ _ _ _ _ hF) [1, 2, 3, 5, 6, 0] rfl
set_option maxRecDepth 20000 in
set_option maxHeartbeats 4000000 in
theorem J_fX11_hoursBy_c18 {κ : zT} (C : zC κ RX11 cX11_hoursBy 7 (some .int)) {d : Nat} (hR : zR κ = zrm (d + 1)) (hd : 3 ≤ d + 1) {N : Nat} {h : zH} {r : Int} (e1 : zrv κ = some (.int (zi r))) (e2 : zhf κ = h) : ∀ (k : Nat) (l1 : Int) (l2 : Int) (l3 : Int) (l4 : Int) (l5 : Int), fX11_hoursBy_c18 N h k l1 l2 l3 l4 l5 = some r → Z κ h 18 [(0, .ref (zα κ 14)), (1, .int (zi l1)), (2, .int (zi l2)), (3, .int (zi l3)), (4, .int (zi l4)), (5, .int (zi l5))] [] := by
  intro k
  induction k with
  | zero => intro l1 l2 l3 l4 l5 hF; cases hF
  | succ k ih => intro l1 l2 l3 l4 l5 hF; exact J_fX11_hoursBy_c18b C hR hd e1 e2 ih l1 l2 l3 l4 l5 hF
set_option maxRecDepth 20000 in
set_option maxHeartbeats 4000000 in
theorem J_fX11_hoursBy {κ : zT} (C : zC κ RX11 cX11_hoursBy 7 (some .int)) {d : Nat} (hR : zR κ = zrm (d + 1)) (hd : 3 ≤ d + 1) {N : Nat} {h : zH} {r : Int} (e1 : zrv κ = some (.int (zi r))) (e2 : zhf κ = h) {a1 : Int} {a2 : Int} (hF : fX11_hoursBy N a1 a2 h = some r) : Z κ h 0 [(0, .ref (zα κ 14)), (1, .int (zi a1)), (2, .int (zi a2))] [] := by
  unfold fX11_hoursBy at hF
  refine z_iload_n (q := 1) C dX11_hoursBy_0 2 rfl rfl rfl ?_
  refine z_iload_n (q := 2) C dX11_hoursBy_1 1 rfl rfl rfl ?_
  refine z_callS (q := 5) (av := [.int (zi a2), .int (zi a1)]) (rest := []) (stk2 := [.int (zi (fX11_has a2 a1))]) C hR (M_fX11_has (zlv hd rfl) rfl) mY_X11_has q_1294 (Nat.le_of_ble_eq_true rfl) dX11_hoursBy_2 rfl rfl rfl ?_
  refine z_if_ne (tgt := 10) (q := 8) C dX11_hoursBy_5 (by decide) rfl (fun c1 => ?_) (fun c1 => ?_)
  · have hF := (if_neg c1).symm.trans hF
    refine z_iconst (q := 11) C dX11_hoursBy_10 rfl ?_
    refine z_istore_n (q := 12) C dX11_hoursBy_11 (by decide) rfl rfl rfl ?_
    refine z_iconst (q := 13) C dX11_hoursBy_12 rfl ?_
    refine z_istore (q := 15) C dX11_hoursBy_13 (by decide) rfl rfl ?_
    refine z_iconst (q := 16) C dX11_hoursBy_15 rfl ?_
    refine z_istore (q := 18) C dX11_hoursBy_16 (by decide) rfl rfl ?_
    exact z_sub (J_fX11_hoursBy_c18 C hR hd e1 e2 N _ _ _ _ _ hF) [3, 4, 5, 2, 1, 0] rfl
  · have hF := (if_pos c1).symm.trans hF
    refine z_iconst (q := 9) C dX11_hoursBy_8 rfl ?_
    have hF := Option.some.inj hF
    subst hF
    exact z_iret C e1 e2 dX11_hoursBy_9
set_option maxRecDepth 20000 in
set_option maxHeartbeats 4000000 in
theorem M_fX11_hoursBy {l : Launch} {D : va_G} {cy : ClassId} {α : Nat → Nat} {n : Nat} {σ : zSg} {d : Nat} (hd : 3 ≤ d) {N : Nat} {a1 : Int} {a2 : Int} {h : zH} {r : Int} (hF : fX11_hoursBy N a1 a2 h = some r) : zMet l yX11_hoursBy cX11_hoursBy 7 (some .int) (zrm d) D cy α n σ [.ref (α 14), .int (zi a1), .int (zi a2)] h (some (.int (zi r))) h := by
  obtain ⟨d, rfl⟩ : ∃ e, d = e + 1 := ⟨d - 1, by omega⟩
  refine z_met (by decide +kernel) (Nat.le_of_ble_eq_true rfl) (fun κ k1 k2 k3 k4 k5 k6 k7 k8 k9 C => ?_)
  subst k1 k3 k4 k5 k6 k7
  exact J_fX11_hoursBy C k2 hd k8 k9 hF
set_option maxRecDepth 20000 in
set_option maxHeartbeats 4000000 in
theorem J_fX11_note_c57 {κ : zT} (C : zC κ RX11 cX11_note 4 none) {d : Nat} (hR : zR κ = zrm (d + 1)) (hd : 1 ≤ d + 1) {N : Nat} {r : zH} (e1 : zrv κ = none) (e2 : zhf κ = r) (l1 : Int) (l2 : Int) (h : zH) (hF : fX11_note_c57 N l1 l2 h = some r) : Z κ h 57 [(0, .ref (zα κ 14)), (1, .int (zi l1)), (2, .int (zi l2))] [] := by
  unfold fX11_note_c57 at hF
  refine z_aload_n (q := 58) C dX11_note_57 0 rfl rfl rfl ?_
  refine z_getf (q := 61) C clX11 (zon C zo_14) kd_14 (k := 34) (by decide) q_1136 rfl (zfv_r kd_14 rfl fr_14_34) dX11_note_58 rfl ?_
  refine z_bipush (q := 63) C dX11_note_61 bp_45 rfl ?_
  refine z_iconst (q := 64) C dX11_note_63 rfl ?_
  refine z_aload_n (q := 65) C dX11_note_64 0 rfl rfl rfl ?_
  refine z_getf (q := 68) C clX11 (zon C zo_14) kd_14 (k := 34) (by decide) q_1136 rfl (zfv_r kd_14 rfl fr_14_34) dX11_note_65 rfl ?_
  refine z_bipush (q := 70) C dX11_note_68 bp_44 rfl ?_
  refine z_ialdc (q := 71) (j := 44) C (zon C zo_69) kd_69 zwk_44 (by rw [ln_69]; decide) dX11_note_70 rfl ?_
  refine z_imul (q := 72) C dX11_note_71 rfl ?_
  refine z_iadd (q := 73) C dX11_note_72 rfl ?_
  refine z_iload_n (q := 74) C dX11_note_73 1 rfl rfl rfl ?_
  obtain ⟨g1, hF⟩ := zif_none hF
  obtain ⟨h2, eh2, hF⟩ := zlet_e hF
  refine z_iast (q := 75) C (zon C zo_69) kd_69 g1.1 (by rw [ln_69]; exact g1.2) dX11_note_74 rfl eh2 ?_
  refine z_aload_n (q := 76) C dX11_note_75 0 rfl rfl rfl ?_
  refine z_getf (q := 79) C clX11 (zon C zo_14) kd_14 (k := 34) (by decide) q_1136 rfl (zfv_r kd_14 rfl fr_14_34) dX11_note_76 rfl ?_
  refine z_bipush (q := 81) C dX11_note_79 bp_45 rfl ?_
  refine z_iconst (q := 82) C dX11_note_81 rfl ?_
  refine z_aload_n (q := 83) C dX11_note_82 0 rfl rfl rfl ?_
  refine z_getf (q := 86) C clX11 (zon C zo_14) kd_14 (k := 34) (by decide) q_1136 rfl (zfv_r kd_14 rfl fr_14_34) dX11_note_83 rfl ?_
  refine z_bipush (q := 88) C dX11_note_86 bp_44 rfl ?_
  refine z_ialdc (q := 89) (j := 44) C (zon C zo_69) kd_69 zwk_44 (by rw [ln_69]; decide) dX11_note_88 rfl ?_
  refine z_imul (q := 90) C dX11_note_89 rfl ?_
  refine z_iadd (q := 91) C dX11_note_90 rfl ?_
  refine z_iconst (q := 92) C dX11_note_91 rfl ?_
  refine z_iadd (q := 93) C dX11_note_92 rfl ?_
  refine z_iload_n (q := 94) C dX11_note_93 2 rfl rfl rfl ?_
  obtain ⟨g3, hF⟩ := zif_none hF
  obtain ⟨h4, eh4, hF⟩ := zlet_e hF
  refine z_iast (q := 95) C (zon C zo_69) kd_69 g3.1 (by rw [ln_69]; exact g3.2) dX11_note_94 rfl eh4 ?_
  refine z_aload_n (q := 96) C dX11_note_95 0 rfl rfl rfl ?_
  refine z_getf (q := 99) C clX11 (zon C zo_14) kd_14 (k := 34) (by decide) q_1136 rfl (zfv_r kd_14 rfl fr_14_34) dX11_note_96 rfl ?_
  refine z_bipush (q := 101) C dX11_note_99 bp_44 rfl ?_
  refine z_dup2 (q := 102) C dX11_note_101 rfl rfl rfl ?_
  refine z_ialdc (q := 103) (j := 44) C (zon C zo_69) kd_69 zwk_44 (by rw [ln_69]; decide) dX11_note_102 rfl ?_
  refine z_iconst (q := 104) C dX11_note_103 rfl ?_
  refine z_iadd (q := 105) C dX11_note_104 rfl ?_
  obtain ⟨h5, eh5, hF⟩ := zlet_e hF
  refine z_iastc (q := 106) (j := 44) C (zon C zo_69) kd_69 zwk_44 (by rw [ln_69]; decide) dX11_note_105 rfl eh5 ?_
  have hF := Option.some.inj hF
  subst hF
  exact z_vret C e1 e2 dX11_note_106
set_option maxRecDepth 20000 in
set_option maxHeartbeats 4000000 in
theorem J_fX11_note_c14b {κ : zT} (C : zC κ RX11 cX11_note 4 none) {d : Nat} (hR : zR κ = zrm (d + 1)) (hd : 1 ≤ d + 1) {N : Nat} {r : zH} (e1 : zrv κ = none) (e2 : zhf κ = r) {K14 : Int → Int → Int → zH → Option zH} (hK14 : ∀ (l1 : Int) (l2 : Int) (l3 : Int) (h : zH), K14 l1 l2 l3 h = some r → Z κ h 14 [(0, .ref (zα κ 14)), (1, .int (zi l1)), (2, .int (zi l2)), (3, .int (zi l3))] []) (l1 : Int) (l2 : Int) (l3 : Int) (h : zH) (hF : fX11_note_c14b N K14 l1 l2 l3 h = some r) : Z κ h 14 [(0, .ref (zα κ 14)), (1, .int (zi l1)), (2, .int (zi l2)), (3, .int (zi l3))] [] := by
  unfold fX11_note_c14b at hF
  refine z_iload_n (q := 15) C dX11_note_14 3 rfl rfl rfl ?_
  refine z_bipush (q := 17) C dX11_note_15 bp_120 rfl ?_
  refine z_icmp_ge (tgt := 46) (q := 20) C dX11_note_17 (by decide) rfl (fun c1 => ?_) (fun c1 => ?_)
  · have hF := (if_pos c1).symm.trans hF
    refine z_aload_n (q := 47) C dX11_note_46 0 rfl rfl rfl ?_
    refine z_getf (q := 50) C clX11 (zon C zo_14) kd_14 (k := 34) (by decide) q_1136 rfl (zfv_r kd_14 rfl fr_14_34) dX11_note_47 rfl ?_
    refine z_bipush (q := 52) C dX11_note_50 bp_44 rfl ?_
    refine z_dup2 (q := 53) C dX11_note_52 rfl rfl rfl ?_
    refine z_ialdc (q := 54) (j := 44) C (zon C zo_69) kd_69 zwk_44 (by rw [ln_69]; decide) dX11_note_53 rfl ?_
    refine z_iconst (q := 55) C dX11_note_54 rfl ?_
    refine z_isub (q := 56) C dX11_note_55 rfl ?_
    obtain ⟨h2, eh2, hF⟩ := zlet_e hF
    refine z_iastc (q := 57) (j := 44) C (zon C zo_69) kd_69 zwk_44 (by rw [ln_69]; decide) dX11_note_56 rfl eh2 ?_
    exact z_sub (J_fX11_note_c57 C hR hd e1 e2 _ _ _ hF) [0, 1, 2] rfl
  · have hF := (if_neg c1).symm.trans hF
    refine z_aload_n (q := 21) C dX11_note_20 0 rfl rfl rfl ?_
    refine z_getf (q := 24) C clX11 (zon C zo_14) kd_14 (k := 34) (by decide) q_1136 rfl (zfv_r kd_14 rfl fr_14_34) dX11_note_21 rfl ?_
    refine z_bipush (q := 26) C dX11_note_24 bp_45 rfl ?_
    refine z_iload_n (q := 27) C dX11_note_26 3 rfl rfl rfl ?_
    refine z_iadd (q := 28) C dX11_note_27 rfl ?_
    refine z_iconst (q := 29) C dX11_note_28 rfl ?_
    refine z_isub (q := 30) C dX11_note_29 rfl ?_
    refine z_aload_n (q := 31) C dX11_note_30 0 rfl rfl rfl ?_
    refine z_getf (q := 34) C clX11 (zon C zo_14) kd_14 (k := 34) (by decide) q_1136 rfl (zfv_r kd_14 rfl fr_14_34) dX11_note_31 rfl ?_
    refine z_bipush (q := 36) C dX11_note_34 bp_45 rfl ?_
    refine z_iload_n (q := 37) C dX11_note_36 3 rfl rfl rfl ?_
    refine z_iadd (q := 38) C dX11_note_37 rfl ?_
    obtain ⟨g3, hF⟩ := zif_none hF
    refine z_iald (q := 39) C (zon C zo_69) kd_69 g3.1 (by rw [ln_69]; exact g3.2) dX11_note_38 rfl ?_
    obtain ⟨g4, hF⟩ := zif_none hF
    obtain ⟨h5, eh5, hF⟩ := zlet_e hF
    refine z_iast (q := 40) C (zon C zo_69) kd_69 g4.1 (by rw [ln_69]; exact g4.2) dX11_note_39 rfl eh5 ?_
    refine z_iinc (q := 43) (x := l3) C dX11_note_40 (j := 3) rfl (by decide) rfl rfl ?_
    refine z_goto (q := 14) C dX11_note_43 (by decide) ?_
    exact z_sub (hK14 _ _ _ _ hF) [1, 2, 3, 0] rfl
set_option maxRecDepth 20000 in
set_option maxHeartbeats 4000000 in
theorem J_fX11_note_c14 {κ : zT} (C : zC κ RX11 cX11_note 4 none) {d : Nat} (hR : zR κ = zrm (d + 1)) (hd : 1 ≤ d + 1) {N : Nat} {r : zH} (e1 : zrv κ = none) (e2 : zhf κ = r) : ∀ (k : Nat) (l1 : Int) (l2 : Int) (l3 : Int) (h : zH), fX11_note_c14 N k l1 l2 l3 h = some r → Z κ h 14 [(0, .ref (zα κ 14)), (1, .int (zi l1)), (2, .int (zi l2)), (3, .int (zi l3))] [] := by
  intro k
  induction k with
  | zero => intro l1 l2 l3 h hF; cases hF
  | succ k ih => intro l1 l2 l3 h hF; exact J_fX11_note_c14b C hR hd e1 e2 ih l1 l2 l3 h hF
set_option maxRecDepth 20000 in
set_option maxHeartbeats 4000000 in
theorem J_fX11_note {κ : zT} (C : zC κ RX11 cX11_note 4 none) {d : Nat} (hR : zR κ = zrm (d + 1)) (hd : 1 ≤ d + 1) {N : Nat} {r : zH} (e1 : zrv κ = none) (e2 : zhf κ = r) {a1 : Int} {a2 : Int} {h : zH} (hF : fX11_note N a1 a2 h = some r) : Z κ h 0 [(0, .ref (zα κ 14)), (1, .int (zi a1)), (2, .int (zi a2))] [] := by
  unfold fX11_note at hF
  refine z_aload_n (q := 1) C dX11_note_0 0 rfl rfl rfl ?_
  refine z_getf (q := 4) C clX11 (zon C zo_14) kd_14 (k := 34) (by decide) q_1136 rfl (zfv_r kd_14 rfl fr_14_34) dX11_note_1 rfl ?_
  refine z_bipush (q := 6) C dX11_note_4 bp_44 rfl ?_
  refine z_ialdc (q := 7) (j := 44) C (zon C zo_69) kd_69 zwk_44 (by rw [ln_69]; decide) dX11_note_6 rfl ?_
  refine z_bipush (q := 9) C dX11_note_7 bp_60 rfl ?_
  refine z_icmp_ne (tgt := 57) (q := 12) C dX11_note_9 (by decide) rfl (fun c1 => ?_) (fun c1 => ?_)
  · have hF := (if_neg c1).symm.trans hF
    exact z_sub (J_fX11_note_c57 C hR hd e1 e2 _ _ _ hF) [0, 1, 2] rfl
  · have hF := (if_pos c1).symm.trans hF
    refine z_iconst (q := 13) C dX11_note_12 rfl ?_
    refine z_istore_n (q := 14) C dX11_note_13 (by decide) rfl rfl rfl ?_
    exact z_sub (J_fX11_note_c14 C hR hd e1 e2 N _ _ _ _ hF) [1, 2, 3, 0] rfl
set_option maxRecDepth 20000 in
set_option maxHeartbeats 4000000 in
theorem M_fX11_note {l : Launch} {D : va_G} {cy : ClassId} {α : Nat → Nat} {n : Nat} {σ : zSg} {d : Nat} (hd : 1 ≤ d) {N : Nat} {a1 : Int} {a2 : Int} {h : zH} {g : zH} (hF : fX11_note N a1 a2 h = some g) : zMet l yX11_note cX11_note 4 none (zrm d) D cy α n σ [.ref (α 14), .int (zi a1), .int (zi a2)] h (none) g := by
  obtain ⟨d, rfl⟩ : ∃ e, d = e + 1 := ⟨d - 1, by omega⟩
  refine z_met (by decide +kernel) (Nat.le_of_ble_eq_true rfl) (fun κ k1 k2 k3 k4 k5 k6 k7 k8 k9 C => ?_)
  subst k1 k3 k4 k5 k6 k7
  exact J_fX11_note C k2 hd k8 k9 hF
set_option maxRecDepth 20000 in
set_option maxHeartbeats 4000000 in
theorem J_fX11_dawn_c96b {κ : zT} (C : zC κ RX11 cX11_dawn 5 none) {d : Nat} (hR : zR κ = zrm (d + 1)) (hd : 4 ≤ d + 1) {N : Nat} {r : zH} (e1 : zrv κ = none) (e2 : zhf κ = r) {K96 : Int → Int → Int → zH → Option zH} (hK96 : ∀ (l2 : Int) (l3 : Int) (l4 : Int) (h : zH), K96 l2 l3 l4 h = some r → Z κ h 96 [(0, .ref (zα κ 14)), (2, .int (zi l2)), (3, .int (zi l3)), (4, .int (zi l4))] []) (l2 : Int) (l3 : Int) (l4 : Int) (h : zH) (hF : fX11_dawn_c96b N K96 l2 l3 l4 h = some r) : Z κ h 96 [(0, .ref (zα κ 14)), (2, .int (zi l2)), (3, .int (zi l3)), (4, .int (zi l4))] [] := by
  unfold fX11_dawn_c96b at hF
  refine z_iload (q := 98) C dX11_dawn_96 3 rfl rfl ?_
  refine z_aload_n (q := 99) C dX11_dawn_98 0 rfl rfl rfl ?_
  refine z_getf (q := 102) C clX11 (zon C zo_14) kd_14 (k := 28) (by decide) q_1130 rfl (zfv_i kd_14 rfl) dX11_dawn_99 rfl ?_
  refine z_icmp_ge (tgt := 155) (q := 105) C dX11_dawn_102 (by decide) rfl (fun c1 => ?_) (fun c1 => ?_)
  · have hF := (if_pos c1).symm.trans hF
    refine z_aload_n (q := 156) C dX11_dawn_155 0 rfl rfl rfl ?_
    refine z_iload_n (q := 157) C dX11_dawn_156 1 rfl rfl rfl ?_
    refine z_iload_n (q := 158) C dX11_dawn_157 2 rfl rfl rfl ?_
    obtain ⟨h2, eh2, hF⟩ := zb_e hF
    refine z_callV (q := 161) (o := 14) (av := [.int (zi l2), .int (zi l3)]) (rest := []) (stk2 := []) C hR clX11 (zon C zo_14) kd_14 (M_fX11_note (zlv hd rfl) eh2) mY_X11_note q_1543 (Nat.le_of_ble_eq_true rfl) dX11_dawn_158 rfl rfl rfl ?_
    have hF := Option.some.inj hF
    subst hF
    exact z_vret C e1 e2 dX11_dawn_161
  · have hF := (if_neg c1).symm.trans hF
    refine z_aload_n (q := 106) C dX11_dawn_105 0 rfl rfl rfl ?_
    refine z_iload (q := 108) C dX11_dawn_106 3 rfl rfl ?_
    refine z_iconst (q := 109) C dX11_dawn_108 rfl ?_
    refine z_iload_n (q := 110) C dX11_dawn_109 1 rfl rfl rfl ?_
    refine z_iload (q := 112) C dX11_dawn_110 3 rfl rfl ?_
    refine z_callS (q := 115) (av := [.int (zi l2), .int (zi l4)]) (rest := [.int (zi 0), .int (zi l4), .ref (zα κ 14)]) (stk2 := [.int (zi (fX11_has l2 l4)), .int (zi 0), .int (zi l4), .ref (zα κ 14)]) C hR (M_fX11_has (zlv hd rfl) rfl) mY_X11_has q_1294 (Nat.le_of_ble_eq_true rfl) dX11_dawn_112 rfl rfl rfl ?_
    refine z_if_eq (tgt := 139) (q := 118) C dX11_dawn_115 (by decide) rfl (fun c3 => ?_) (fun c3 => ?_)
    · have hF := (if_pos c3).symm.trans hF
      refine z_aload_n (q := 140) C dX11_dawn_139 0 rfl rfl rfl ?_
      refine z_iload (q := 142) C dX11_dawn_140 3 rfl rfl ?_
      refine z_iconst (q := 143) C dX11_dawn_142 rfl ?_
      obtain ⟨v4, ev4, hF⟩ := zb_e hF
      refine z_callV (q := 146) (o := 14) (av := [.int (zi l4), .int (zi 0)]) (rest := [.int (zi 0), .int (zi l4), .ref (zα κ 14)]) (stk2 := [.int (zi v4), .int (zi 0), .int (zi l4), .ref (zα κ 14)]) C hR clX11 (zon C zo_14) kd_14 (M_fX11_of (zlv hd rfl) ev4) mY_X11_of q_1430 (Nat.le_of_ble_eq_true rfl) dX11_dawn_143 rfl rfl rfl ?_
      obtain ⟨h5, eh5, hF⟩ := zb_e hF
      refine z_callV (q := 149) (o := 14) (av := [.int (zi l4), .int (zi 0), .int (zi v4)]) (rest := []) (stk2 := []) C hR clX11 (zon C zo_14) kd_14 (M_fX11_put_ (zlv hd rfl) eh5) mY_X11_put_ q_1414 (Nat.le_of_ble_eq_true rfl) dX11_dawn_146 rfl rfl rfl ?_
      refine z_iinc (q := 152) (x := l4) C dX11_dawn_149 (j := 3) rfl (by decide) rfl rfl ?_
      refine z_goto (q := 96) C dX11_dawn_152 (by decide) ?_
      exact z_sub (hK96 _ _ _ _ hF) [1, 2, 3, 0] rfl
    · have hF := (if_neg c3).symm.trans hF
      refine z_aload_n (q := 119) C dX11_dawn_118 0 rfl rfl rfl ?_
      refine z_iload (q := 121) C dX11_dawn_119 3 rfl rfl ?_
      refine z_iconst (q := 122) C dX11_dawn_121 rfl ?_
      obtain ⟨v6, ev6, hF⟩ := zb_e hF
      refine z_callV (q := 125) (o := 14) (av := [.int (zi l4), .int (zi 0)]) (rest := [.int (zi 0), .int (zi l4), .ref (zα κ 14)]) (stk2 := [.int (zi v6), .int (zi 0), .int (zi l4), .ref (zα κ 14)]) C hR clX11 (zon C zo_14) kd_14 (M_fX11_of (zlv hd rfl) ev6) mY_X11_of q_1430 (Nat.le_of_ble_eq_true rfl) dX11_dawn_122 rfl rfl rfl ?_
      refine z_iconst (q := 126) C dX11_dawn_125 rfl ?_
      refine z_aload_n (q := 127) C dX11_dawn_126 0 rfl rfl rfl ?_
      refine z_iload (q := 129) C dX11_dawn_127 3 rfl rfl ?_
      obtain ⟨v7, ev7, hF⟩ := zb_e hF
      refine z_callV (q := 132) (o := 14) (av := [.int (zi l4)]) (rest := [.int (zi 1), .int (zi v6), .int (zi 0), .int (zi l4), .ref (zα κ 14)]) (stk2 := [.int (zi v7), .int (zi 1), .int (zi v6), .int (zi 0), .int (zi l4), .ref (zα κ 14)]) C hR clX11 (zon C zo_14) kd_14 (M_fX11_form (zlv hd rfl) ev7) mY_X11_form q_1530 (Nat.le_of_ble_eq_true rfl) dX11_dawn_129 rfl rfl rfl ?_
      refine z_ishl (q := 133) C dX11_dawn_132 rfl ?_
      refine z_iconst (q := 134) C dX11_dawn_133 rfl ?_
      refine z_ixor (q := 135) C dX11_dawn_134 rfl ?_
      refine z_iand (q := 136) C dX11_dawn_135 rfl ?_
      refine z_goto (q := 146) C dX11_dawn_136 (by decide) ?_
      obtain ⟨h8, eh8, hF⟩ := zb_e hF
      refine z_callV (q := 149) (o := 14) (av := [.int (zi l4), .int (zi 0), .int (zi (zand v6 (zxor (zshl 1 v7) (-1))))]) (rest := []) (stk2 := []) C hR clX11 (zon C zo_14) kd_14 (M_fX11_put_ (zlv hd rfl) eh8) mY_X11_put_ q_1414 (Nat.le_of_ble_eq_true rfl) dX11_dawn_146 rfl rfl rfl ?_
      refine z_iinc (q := 152) (x := l4) C dX11_dawn_149 (j := 3) rfl (by decide) rfl rfl ?_
      refine z_goto (q := 96) C dX11_dawn_152 (by decide) ?_
      exact z_sub (hK96 _ _ _ _ hF) [1, 2, 3, 0] rfl
set_option maxRecDepth 20000 in
set_option maxHeartbeats 4000000 in
theorem J_fX11_dawn_c96 {κ : zT} (C : zC κ RX11 cX11_dawn 5 none) {d : Nat} (hR : zR κ = zrm (d + 1)) (hd : 4 ≤ d + 1) {N : Nat} {r : zH} (e1 : zrv κ = none) (e2 : zhf κ = r) : ∀ (k : Nat) (l2 : Int) (l3 : Int) (l4 : Int) (h : zH), fX11_dawn_c96 N k l2 l3 l4 h = some r → Z κ h 96 [(0, .ref (zα κ 14)), (2, .int (zi l2)), (3, .int (zi l3)), (4, .int (zi l4))] [] := by
  intro k
  induction k with
  | zero => intro l2 l3 l4 h hF; cases hF
  | succ k ih => intro l2 l3 l4 h hF; exact J_fX11_dawn_c96b C hR hd e1 e2 ih l2 l3 l4 h hF
set_option maxRecDepth 20000 in
set_option maxHeartbeats 4000000 in
theorem J_fX11_dawn_c54b {κ : zT} (C : zC κ RX11 cX11_dawn 5 none) {d : Nat} (hR : zR κ = zrm (d + 1)) (hd : 4 ≤ d + 1) {N : Nat} {r : zH} (e1 : zrv κ = none) (e2 : zhf κ = r) {K54 : Int → Int → Int → zH → Option zH} (hK54 : ∀ (l2 : Int) (l3 : Int) (l4 : Int) (h : zH), K54 l2 l3 l4 h = some r → Z κ h 54 [(0, .ref (zα κ 14)), (2, .int (zi l2)), (3, .int (zi l3)), (4, .int (zi l4))] []) (l2 : Int) (l3 : Int) (l4 : Int) (h : zH) (hF : fX11_dawn_c54b N K54 l2 l3 l4 h = some r) : Z κ h 54 [(0, .ref (zα κ 14)), (2, .int (zi l2)), (3, .int (zi l3)), (4, .int (zi l4))] [] := by
  unfold fX11_dawn_c54b at hF
  refine z_iload (q := 56) C dX11_dawn_54 3 rfl rfl ?_
  refine z_aload_n (q := 57) C dX11_dawn_56 0 rfl rfl rfl ?_
  refine z_getf (q := 60) C clX11 (zon C zo_14) kd_14 (k := 28) (by decide) q_1130 rfl (zfv_i kd_14 rfl) dX11_dawn_57 rfl ?_
  refine z_icmp_ge (tgt := 93) (q := 63) C dX11_dawn_60 (by decide) rfl (fun c1 => ?_) (fun c1 => ?_)
  · have hF := (if_pos c1).symm.trans hF
    refine z_iconst (q := 94) C dX11_dawn_93 rfl ?_
    refine z_istore (q := 96) C dX11_dawn_94 (by decide) rfl rfl ?_
    exact z_sub (J_fX11_dawn_c96 C hR hd e1 e2 N _ _ _ _ hF) [1, 2, 3, 0] rfl
  · have hF := (if_neg c1).symm.trans hF
    refine z_aload_n (q := 64) C dX11_dawn_63 0 rfl rfl rfl ?_
    refine z_iload (q := 66) C dX11_dawn_64 3 rfl rfl ?_
    refine z_iconst (q := 67) C dX11_dawn_66 rfl ?_
    refine z_aload_n (q := 68) C dX11_dawn_67 0 rfl rfl rfl ?_
    refine z_iload (q := 70) C dX11_dawn_68 3 rfl rfl ?_
    refine z_iload_n (q := 71) C dX11_dawn_70 1 rfl rfl rfl ?_
    obtain ⟨v2, ev2, hF⟩ := zb_e hF
    refine z_callV (q := 74) (o := 14) (av := [.int (zi l4), .int (zi l2)]) (rest := [.int (zi 4), .int (zi l4), .ref (zα κ 14)]) (stk2 := [.int (zi v2), .int (zi 4), .int (zi l4), .ref (zα κ 14)]) C hR clX11 (zon C zo_14) kd_14 (M_fX11_hoursBy (zlv hd rfl) ev2) mY_X11_hoursBy q_1534 (Nat.le_of_ble_eq_true rfl) dX11_dawn_71 rfl rfl rfl ?_
    obtain ⟨h3, eh3, hF⟩ := zb_e hF
    refine z_callV (q := 77) (o := 14) (av := [.int (zi l4), .int (zi 4), .int (zi v2)]) (rest := []) (stk2 := []) C hR clX11 (zon C zo_14) kd_14 (M_fX11_put_ (zlv hd rfl) eh3) mY_X11_put_ q_1414 (Nat.le_of_ble_eq_true rfl) dX11_dawn_74 rfl rfl rfl ?_
    refine z_iload_n (q := 78) C dX11_dawn_77 2 rfl rfl rfl ?_
    refine z_aload_n (q := 79) C dX11_dawn_78 0 rfl rfl rfl ?_
    refine z_iload (q := 81) C dX11_dawn_79 3 rfl rfl ?_
    refine z_iconst (q := 82) C dX11_dawn_81 rfl ?_
    obtain ⟨v4, ev4, hF⟩ := zb_e hF
    refine z_callV (q := 85) (o := 14) (av := [.int (zi l4), .int (zi 4)]) (rest := [.int (zi l3)]) (stk2 := [.int (zi v4), .int (zi l3)]) C hR clX11 (zon C zo_14) kd_14 (M_fX11_of (zlv hd rfl) ev4) mY_X11_of q_1430 (Nat.le_of_ble_eq_true rfl) dX11_dawn_82 rfl rfl rfl ?_
    refine z_iadd (q := 86) C dX11_dawn_85 rfl ?_
    refine z_istore_n (q := 87) C dX11_dawn_86 (by decide) rfl rfl rfl ?_
    refine z_iinc (q := 90) (x := l4) C dX11_dawn_87 (j := 3) rfl (by decide) rfl rfl ?_
    refine z_goto (q := 54) C dX11_dawn_90 (by decide) ?_
    exact z_sub (hK54 _ _ _ _ hF) [2, 3, 1, 0] rfl
set_option maxRecDepth 20000 in
set_option maxHeartbeats 4000000 in
theorem J_fX11_dawn_c54 {κ : zT} (C : zC κ RX11 cX11_dawn 5 none) {d : Nat} (hR : zR κ = zrm (d + 1)) (hd : 4 ≤ d + 1) {N : Nat} {r : zH} (e1 : zrv κ = none) (e2 : zhf κ = r) : ∀ (k : Nat) (l2 : Int) (l3 : Int) (l4 : Int) (h : zH), fX11_dawn_c54 N k l2 l3 l4 h = some r → Z κ h 54 [(0, .ref (zα κ 14)), (2, .int (zi l2)), (3, .int (zi l3)), (4, .int (zi l4))] [] := by
  intro k
  induction k with
  | zero => intro l2 l3 l4 h hF; cases hF
  | succ k ih => intro l2 l3 l4 h hF; exact J_fX11_dawn_c54b C hR hd e1 e2 ih l2 l3 l4 h hF
set_option maxRecDepth 20000 in
set_option maxHeartbeats 4000000 in
theorem J_fX11_dawn_c4b {κ : zT} (C : zC κ RX11 cX11_dawn 5 none) {d : Nat} (hR : zR κ = zrm (d + 1)) (hd : 4 ≤ d + 1) {N : Nat} {r : zH} (e1 : zrv κ = none) (e2 : zhf κ = r) {K4 : Int → Int → Int → zH → Option zH} (hK4 : ∀ (l1 : Int) (l2 : Int) (l3 : Int) (h : zH), K4 l1 l2 l3 h = some r → Z κ h 4 [(0, .ref (zα κ 14)), (1, .int (zi l1)), (2, .int (zi l2)), (3, .int (zi l3))] []) (l1 : Int) (l2 : Int) (l3 : Int) (h : zH) (hF : fX11_dawn_c4b N K4 l1 l2 l3 h = some r) : Z κ h 4 [(0, .ref (zα κ 14)), (1, .int (zi l1)), (2, .int (zi l2)), (3, .int (zi l3))] [] := by
  unfold fX11_dawn_c4b at hF
  refine z_iload_n (q := 5) C dX11_dawn_4 3 rfl rfl rfl ?_
  refine z_aload_n (q := 6) C dX11_dawn_5 0 rfl rfl rfl ?_
  refine z_getf (q := 9) C clX11 (zon C zo_14) kd_14 (k := 28) (by decide) q_1130 rfl (zfv_i kd_14 rfl) dX11_dawn_6 rfl ?_
  refine z_icmp_ge (tgt := 49) (q := 12) C dX11_dawn_9 (by decide) rfl (fun c1 => ?_) (fun c1 => ?_)
  · have hF := (if_pos c1).symm.trans hF
    refine z_iconst (q := 50) C dX11_dawn_49 rfl ?_
    refine z_istore_n (q := 51) C dX11_dawn_50 (by decide) rfl rfl rfl ?_
    refine z_iconst (q := 52) C dX11_dawn_51 rfl ?_
    refine z_istore (q := 54) C dX11_dawn_52 (by decide) rfl rfl ?_
    exact z_sub (J_fX11_dawn_c54 C hR hd e1 e2 N _ _ _ _ hF) [2, 4, 1, 0] rfl
  · have hF := (if_neg c1).symm.trans hF
    refine z_iload_n (q := 13) C dX11_dawn_12 2 rfl rfl rfl ?_
    refine z_iload_n (q := 14) C dX11_dawn_13 1 rfl rfl rfl ?_
    refine z_if_ne (tgt := 40) (q := 17) C dX11_dawn_14 (by decide) rfl (fun c2 => ?_) (fun c2 => ?_)
    · have hF := (if_neg c2).symm.trans hF
      refine z_iconst (q := 41) C dX11_dawn_40 rfl ?_
      refine z_ior (q := 42) C dX11_dawn_41 rfl ?_
      refine z_istore_n (q := 43) C dX11_dawn_42 (by decide) rfl rfl rfl ?_
      refine z_iinc (q := 46) (x := l3) C dX11_dawn_43 (j := 3) rfl (by decide) rfl rfl ?_
      refine z_goto (q := 4) C dX11_dawn_46 (by decide) ?_
      exact z_sub (hK4 _ _ _ _ hF) [2, 3, 1, 0] rfl
    · have hF := (if_pos c2).symm.trans hF
      refine z_aload_n (q := 18) C dX11_dawn_17 0 rfl rfl rfl ?_
      refine z_iload_n (q := 19) C dX11_dawn_18 3 rfl rfl rfl ?_
      refine z_iconst (q := 20) C dX11_dawn_19 rfl ?_
      obtain ⟨v3, ev3, hF⟩ := zb_e hF
      refine z_callV (q := 23) (o := 14) (av := [.int (zi l3), .int (zi 0)]) (rest := [.int (zi l2)]) (stk2 := [.int (zi v3), .int (zi l2)]) C hR clX11 (zon C zo_14) kd_14 (M_fX11_of (zlv hd rfl) ev3) mY_X11_of q_1430 (Nat.le_of_ble_eq_true rfl) dX11_dawn_20 rfl rfl rfl ?_
      refine z_aload_n (q := 24) C dX11_dawn_23 0 rfl rfl rfl ?_
      refine z_iload_n (q := 25) C dX11_dawn_24 3 rfl rfl rfl ?_
      obtain ⟨v4, ev4, hF⟩ := zb_e hF
      refine z_callV (q := 28) (o := 14) (av := [.int (zi l3)]) (rest := [.int (zi v3), .int (zi l2)]) (stk2 := [.int (zi v4), .int (zi v3), .int (zi l2)]) C hR clX11 (zon C zo_14) kd_14 (M_fX11_form (zlv hd rfl) ev4) mY_X11_form q_1530 (Nat.le_of_ble_eq_true rfl) dX11_dawn_25 rfl rfl rfl ?_
      refine z_callS (q := 31) (av := [.int (zi v3), .int (zi v4)]) (rest := [.int (zi l2)]) (stk2 := [.int (zi (fX11_has v3 v4)), .int (zi l2)]) C hR (M_fX11_has (zlv hd rfl) rfl) mY_X11_has q_1294 (Nat.le_of_ble_eq_true rfl) dX11_dawn_28 rfl rfl rfl ?_
      refine z_if_eq (tgt := 40) (q := 34) C dX11_dawn_31 (by decide) rfl (fun c5 => ?_) (fun c5 => ?_)
      · have hF := (if_pos c5).symm.trans hF
        refine z_iconst (q := 41) C dX11_dawn_40 rfl ?_
        refine z_ior (q := 42) C dX11_dawn_41 rfl ?_
        refine z_istore_n (q := 43) C dX11_dawn_42 (by decide) rfl rfl rfl ?_
        refine z_iinc (q := 46) (x := l3) C dX11_dawn_43 (j := 3) rfl (by decide) rfl rfl ?_
        refine z_goto (q := 4) C dX11_dawn_46 (by decide) ?_
        exact z_sub (hK4 _ _ _ _ hF) [2, 3, 1, 0] rfl
      · have hF := (if_neg c5).symm.trans hF
        refine z_iconst (q := 35) C dX11_dawn_34 rfl ?_
        refine z_iload_n (q := 36) C dX11_dawn_35 3 rfl rfl rfl ?_
        refine z_ishl (q := 37) C dX11_dawn_36 rfl ?_
        refine z_goto (q := 41) C dX11_dawn_37 (by decide) ?_
        refine z_ior (q := 42) C dX11_dawn_41 rfl ?_
        obtain ⟨v6, ev6, hF⟩ := zlet_e hF
        refine z_istoreE_n (q := 43) C ev6 dX11_dawn_42 (by decide) rfl rfl rfl ?_
        refine z_iinc (q := 46) (x := l3) C dX11_dawn_43 (j := 3) rfl (by decide) rfl rfl ?_
        refine z_goto (q := 4) C dX11_dawn_46 (by decide) ?_
        exact z_sub (hK4 _ _ _ _ hF) [2, 3, 1, 0] rfl
set_option maxRecDepth 20000 in
set_option maxHeartbeats 4000000 in
theorem J_fX11_dawn_c4 {κ : zT} (C : zC κ RX11 cX11_dawn 5 none) {d : Nat} (hR : zR κ = zrm (d + 1)) (hd : 4 ≤ d + 1) {N : Nat} {r : zH} (e1 : zrv κ = none) (e2 : zhf κ = r) : ∀ (k : Nat) (l1 : Int) (l2 : Int) (l3 : Int) (h : zH), fX11_dawn_c4 N k l1 l2 l3 h = some r → Z κ h 4 [(0, .ref (zα κ 14)), (1, .int (zi l1)), (2, .int (zi l2)), (3, .int (zi l3))] [] := by
  intro k
  induction k with
  | zero => intro l1 l2 l3 h hF; cases hF
  | succ k ih => intro l1 l2 l3 h hF; exact J_fX11_dawn_c4b C hR hd e1 e2 ih l1 l2 l3 h hF
set_option maxRecDepth 20000 in
set_option maxHeartbeats 4000000 in
theorem J_fX11_dawn {κ : zT} (C : zC κ RX11 cX11_dawn 5 none) {d : Nat} (hR : zR κ = zrm (d + 1)) (hd : 4 ≤ d + 1) {N : Nat} {r : zH} (e1 : zrv κ = none) (e2 : zhf κ = r) {a1 : Int} {h : zH} (hF : fX11_dawn N a1 h = some r) : Z κ h 0 [(0, .ref (zα κ 14)), (1, .int (zi a1))] [] := by
  unfold fX11_dawn at hF
  refine z_iconst (q := 1) C dX11_dawn_0 rfl ?_
  refine z_istore_n (q := 2) C dX11_dawn_1 (by decide) rfl rfl rfl ?_
  refine z_iconst (q := 3) C dX11_dawn_2 rfl ?_
  refine z_istore_n (q := 4) C dX11_dawn_3 (by decide) rfl rfl rfl ?_
  exact z_sub (J_fX11_dawn_c4 C hR hd e1 e2 N _ _ _ _ hF) [2, 3, 1, 0] rfl
set_option maxRecDepth 20000 in
set_option maxHeartbeats 4000000 in
theorem M_fX11_dawn {l : Launch} {D : va_G} {cy : ClassId} {α : Nat → Nat} {n : Nat} {σ : zSg} {d : Nat} (hd : 4 ≤ d) {N : Nat} {a1 : Int} {h : zH} {g : zH} (hF : fX11_dawn N a1 h = some g) : zMet l yX11_dawn cX11_dawn 5 none (zrm d) D cy α n σ [.ref (α 14), .int (zi a1)] h (none) g := by
  obtain ⟨d, rfl⟩ : ∃ e, d = e + 1 := ⟨d - 1, by omega⟩
  refine z_met (by decide +kernel) (Nat.le_of_ble_eq_true rfl) (fun κ k1 k2 k3 k4 k5 k6 k7 k8 k9 C => ?_)
  subst k1 k3 k4 k5 k6 k7
  exact J_fX11_dawn C k2 hd k8 k9 hF
set_option maxRecDepth 20000 in
set_option maxHeartbeats 4000000 in
theorem J_fX11_bounded {κ : zT} (C : zC κ RX11 cX11_bounded 2 (some .int)) {d : Nat} (hR : zR κ = zrm (d + 1)) (hd : 2 ≤ d + 1) {h : zH} {r : Int} (e1 : zrv κ = some (.int (zi r))) (e2 : zhf κ = h) {a0 : Int} (hF : fX11_bounded a0 = r) : Z κ h 0 [(0, .long (zl a0))] [] := by
  unfold fX11_bounded at hF
  refine z_ldc2 (q := 3) C kc_RX11_185 dX11_bounded_0 rfl ?_
  refine z_ldc2 (q := 6) C kc_RX11_187 dX11_bounded_3 rfl ?_
  refine z_lload_n (q := 7) C dX11_bounded_6 0 rfl rfl rfl ?_
  refine z_callS (q := 10) (av := [.long (zl 1000000), .long (zl a0)]) (rest := [.long (zl (-1000000))]) (stk2 := [.long (zl (fJ9_min_f86c9 1000000 a0)), .long (zl (-1000000))]) C hR (M_fJ9_min_f86c9 (zlv hd rfl) rfl) mY_J9_min_f86c9 q_1572 (Nat.le_of_ble_eq_true rfl) dX11_bounded_7 rfl rfl rfl ?_
  obtain ⟨v1, ev1, hF⟩ := zlet_e hF
  refine z_callS (q := 13) (av := [.long (zl (-1000000)), .long (zl (fJ9_min_f86c9 1000000 a0))]) (rest := []) (stk2 := [.long (zl v1)]) C hR (M_fJ9_max_f86c9 (zlv hd rfl) ev1.symm) mY_J9_max_f86c9 q_1573 (Nat.le_of_ble_eq_true rfl) dX11_bounded_10 rfl rfl rfl ?_
  refine z_l2i (q := 14) C dX11_bounded_13 rfl ?_
  subst hF
  exact z_iret C e1 e2 dX11_bounded_14
set_option maxRecDepth 20000 in
set_option maxHeartbeats 4000000 in
theorem M_fX11_bounded {l : Launch} {D : va_G} {cy : ClassId} {α : Nat → Nat} {n : Nat} {σ : zSg} {d : Nat} (hd : 2 ≤ d) {a0 : Int} {h : zH} {r : Int} (hF : fX11_bounded a0 = r) : zMet l yX11_bounded cX11_bounded 2 (some .int) (zrm d) D cy α n σ [.long (zl a0)] h (some (.int (zi r))) h := by
  obtain ⟨d, rfl⟩ : ∃ e, d = e + 1 := ⟨d - 1, by omega⟩
  refine z_met (by decide +kernel) (Nat.le_of_ble_eq_true rfl) (fun κ k1 k2 k3 k4 k5 k6 k7 k8 k9 C => ?_)
  subst k1 k3 k4 k5 k6 k7
  exact J_fX11_bounded C k2 hd k8 k9 hF
