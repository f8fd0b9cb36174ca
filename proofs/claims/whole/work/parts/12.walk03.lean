set_option maxRecDepth 20000 in
set_option maxHeartbeats 4000000 in
theorem J_fX4_shut {κ : zT} (C : zC κ RX4 cX4_shut 2 none) {d : Nat} (hR : zR κ = zrm (d + 1)) (hd : 2 ≤ d + 1) {r : zH} (e1 : zrv κ = none) (e2 : zhf κ = r) {a1 : Int} {h : zH} (hF : fX4_shut a1 h = r) : Z κ h 0 [(0, .ref (zα κ 4)), (1, .int (zi a1))] [] := by
  unfold fX4_shut at hF
  refine z_aload_n (q := 1) C dX4_shut_0 0 rfl rfl rfl ?_
  refine z_aload_n (q := 2) C dX4_shut_1 0 rfl rfl rfl ?_
  refine z_getf (q := 5) C clX4 (zon C zo_4) kd_4 (k := 3) (by decide) q_87 rfl (zfv_i kd_4 rfl) dX4_shut_2 rfl ?_
  refine z_iconst (q := 6) C dX4_shut_5 rfl ?_
  refine z_isub (q := 7) C dX4_shut_6 rfl ?_
  refine z_iconst (q := 8) C dX4_shut_7 rfl ?_
  refine z_callS (q := 11) (av := [.int (zi ((h 4 3) - 1)), .int (zi 0)]) (rest := [.ref (zα κ 4)]) (stk2 := [.int (zi (fJ9_max_7cf53 ((h 4 3) - 1) 0)), .ref (zα κ 4)]) C hR (M_fJ9_max_7cf53 (zlv hd rfl) rfl) mY_J9_max_7cf53 q_530 (Nat.le_of_ble_eq_true rfl) dX4_shut_8 rfl rfl rfl ?_
  obtain ⟨h1, eh1, hF⟩ := zlet_e hF
  refine z_putf (q := 14) C clX4 (zon C zo_4) kd_4 (k := 3) (x := fJ9_max_7cf53 ((h 4 3) - 1) 0) (by decide) q_87 rfl rfl rfl rfl (((zfv_i kd_4 rfl)).trans (by rw [if_pos rfl])) dX4_shut_11 rfl eh1 ?_
  refine z_aload_n (q := 15) C dX4_shut_14 0 rfl rfl rfl ?_
  refine z_dup (q := 16) C dX4_shut_15 rfl rfl ?_
  refine z_getf (q := 19) C clX4 (zon C zo_4) kd_4 (k := 4) (by decide) q_88 rfl (zfv_i kd_4 rfl) dX4_shut_16 rfl ?_
  refine z_iconst (q := 20) C dX4_shut_19 rfl ?_
  refine z_isub (q := 21) C dX4_shut_20 rfl ?_
  obtain ⟨h2, eh2, hF⟩ := zlet_e hF
  refine z_putf (q := 24) C clX4 (zon C zo_4) kd_4 (k := 4) (x := (h1 4 4) - 1) (by decide) q_88 rfl rfl rfl rfl (((zfv_i kd_4 rfl)).trans (by rw [if_pos rfl])) dX4_shut_21 rfl eh2 ?_
  refine z_iload_n (q := 25) C dX4_shut_24 1 rfl rfl rfl ?_
  refine z_bipush (q := 27) C dX4_shut_25 bp_93 rfl ?_
  refine z_icmp_ne (tgt := 43) (q := 30) C dX4_shut_27 (by decide) rfl (fun c3 => ?_) (fun c3 => ?_)
  · have hF := (if_neg c3).symm.trans hF
    refine z_aload_n (q := 44) C dX4_shut_43 0 rfl rfl rfl ?_
    refine z_dup (q := 45) C dX4_shut_44 rfl rfl ?_
    refine z_getf (q := 48) C clX4 (zon C zo_4) kd_4 (k := 5) (by decide) q_89 rfl (zfv_i kd_4 rfl) dX4_shut_45 rfl ?_
    refine z_iconst (q := 49) C dX4_shut_48 rfl ?_
    refine z_isub (q := 50) C dX4_shut_49 rfl ?_
    obtain ⟨h5, eh5, hF⟩ := zlet_e hF
    refine z_putf (q := 53) C clX4 (zon C zo_4) kd_4 (k := 5) (x := (h2 4 5) - 1) (by decide) q_89 rfl rfl rfl rfl (((zfv_i kd_4 rfl)).trans (by rw [if_pos rfl])) dX4_shut_50 rfl eh5 ?_
    refine z_aload_n (q := 54) C dX4_shut_53 0 rfl rfl rfl ?_
    refine z_iconst (q := 55) C dX4_shut_54 rfl ?_
    obtain ⟨h6, eh6, hF⟩ := zlet_e hF
    refine z_putf (q := 58) C clX4 (zon C zo_4) kd_4 (k := 10) (x := 1) (by decide) q_94 rfl rfl (zbn (Or.inr rfl)) (zbf (Or.inr rfl)) (((zfv_i kd_4 rfl)).trans (by rw [if_pos rfl])) dX4_shut_55 rfl eh6 ?_
    subst hF
    exact z_vret C e1 e2 dX4_shut_58
  · have hF := (if_pos c3).symm.trans hF
    refine z_aload_n (q := 31) C dX4_shut_30 0 rfl rfl rfl ?_
    refine z_dup (q := 32) C dX4_shut_31 rfl rfl ?_
    refine z_getf (q := 35) C clX4 (zon C zo_4) kd_4 (k := 6) (by decide) q_90 rfl (zfv_i kd_4 rfl) dX4_shut_32 rfl ?_
    refine z_iconst (q := 36) C dX4_shut_35 rfl ?_
    refine z_isub (q := 37) C dX4_shut_36 rfl ?_
    obtain ⟨h4, eh4, hF⟩ := zlet_e hF
    refine z_putf (q := 40) C clX4 (zon C zo_4) kd_4 (k := 6) (x := (h2 4 6) - 1) (by decide) q_90 rfl rfl rfl rfl (((zfv_i kd_4 rfl)).trans (by rw [if_pos rfl])) dX4_shut_37 rfl eh4 ?_
    refine z_goto (q := 58) C dX4_shut_40 (by decide) ?_
    subst hF
    exact z_vret C e1 e2 dX4_shut_58
set_option maxRecDepth 20000 in
set_option maxHeartbeats 4000000 in
theorem M_fX4_shut {l : Launch} {D : va_G} {cy : ClassId} {α : Nat → Nat} {n : Nat} {σ : zSg} {d : Nat} (hd : 2 ≤ d) {a1 : Int} {h : zH} {g : zH} (hF : fX4_shut a1 h = g) : zMet l yX4_shut cX4_shut 2 none (zrm d) D cy α n σ [.ref (α 4), .int (zi a1)] h (none) g := by
  obtain ⟨d, rfl⟩ : ∃ e, d = e + 1 := ⟨d - 1, by omega⟩
  refine z_met (by decide +kernel) (Nat.le_of_ble_eq_true rfl) (fun κ k1 k2 k3 k4 k5 k6 k7 k8 k9 C => ?_)
  subst k1 k3 k4 k5 k6 k7
  exact J_fX4_shut C k2 hd k8 k9 hF
set_option maxRecDepth 20000 in
set_option maxHeartbeats 4000000 in
theorem J_fX4_join_c104 {κ : zT} (C : zC κ RX4 cX4_join 4 none) {d : Nat} (hR : zR κ = zrm (d + 1)) (hd : 3 ≤ d + 1) {r : zH} (e1 : zrv κ = none) (e2 : zhf κ = r) (l1 : Int) (l3 : Int) (s0 : Int) (h : zH) (hF : fX4_join_c104 l1 l3 s0 h = some r) : Z κ h 104 [(0, .ref (zα κ 4)), (1, .int (zi l1)), (3, .int (zi l3))] [.int (zi s0), .ref (zα κ 4)] := by
  unfold fX4_join_c104 at hF
  obtain ⟨g1, hF⟩ := zif_none hF
  obtain ⟨h2, eh2, hF⟩ := zlet_e hF
  refine z_putf (q := 107) C clX4 (zon C zo_4) kd_4 (k := 9) (x := s0) (by decide) q_93 rfl rfl (zbn g1) (zbf g1) (((zfv_i kd_4 rfl)).trans (by rw [if_pos rfl])) dX4_join_104 rfl eh2 ?_
  refine z_aload_n (q := 108) C dX4_join_107 0 rfl rfl rfl ?_
  refine z_dup (q := 109) C dX4_join_108 rfl rfl ?_
  refine z_getf (q := 112) C clX4 (zon C zo_4) kd_4 (k := 10) (by decide) q_94 rfl (zfv_i kd_4 rfl) dX4_join_109 rfl ?_
  refine z_iload_n (q := 113) C dX4_join_112 2 rfl rfl rfl ?_
  refine z_if_ne (tgt := 120) (q := 116) C dX4_join_113 (by decide) rfl (fun c3 => ?_) (fun c3 => ?_)
  · have hF := (if_neg c3).symm.trans hF
    refine z_iconst (q := 121) C dX4_join_120 rfl ?_
    refine z_iand (q := 122) C dX4_join_121 rfl ?_
    obtain ⟨g12, hF⟩ := zif_none hF
    obtain ⟨h13, eh13, hF⟩ := zlet_e hF
    refine z_putf (q := 125) C clX4 (zon C zo_4) kd_4 (k := 10) (x := zand (h2 4 10) 0) (by decide) q_94 rfl rfl (zbn g12) (zbf g12) (((zfv_i kd_4 rfl)).trans (by rw [if_pos rfl])) dX4_join_122 rfl eh13 ?_
    refine z_aload_n (q := 126) C dX4_join_125 0 rfl rfl rfl ?_
    refine z_iconst (q := 127) C dX4_join_126 rfl ?_
    obtain ⟨h14, eh14, hF⟩ := zlet_e hF
    refine z_putf (q := 130) C clX4 (zon C zo_4) kd_4 (k := 7) (x := 1) (by decide) q_91 rfl rfl (zbn (Or.inr rfl)) (zbf (Or.inr rfl)) (((zfv_i kd_4 rfl)).trans (by rw [if_pos rfl])) dX4_join_127 rfl eh14 ?_
    refine z_aload_n (q := 131) C dX4_join_130 0 rfl rfl rfl ?_
    refine z_iload_n (q := 132) C dX4_join_131 1 rfl rfl rfl ?_
    refine z_bipush (q := 134) C dX4_join_132 bp_38 rfl ?_
    refine z_icmp_eq (tgt := 143) (q := 137) C dX4_join_134 (by decide) rfl (fun c15 => ?_) (fun c15 => ?_)
    · have hF := (if_pos c15).symm.trans hF
      refine z_iconst (q := 144) C dX4_join_143 rfl ?_
      refine z_goto (q := 148) C dX4_join_144 (by decide) ?_
      obtain ⟨h16, eh16, hF⟩ := zlet_e hF
      refine z_putf (q := 151) C clX4 (zon C zo_4) kd_4 (k := 8) (x := 1) (by decide) q_92 rfl rfl (zbn (Or.inr rfl)) (zbf (Or.inr rfl)) (((zfv_i kd_4 rfl)).trans (by rw [if_pos rfl])) dX4_join_148 rfl eh16 ?_
      have hF := Option.some.inj hF
      subst hF
      exact z_vret C e1 e2 dX4_join_151
    · have hF := (if_neg c15).symm.trans hF
      refine z_iload_n (q := 138) C dX4_join_137 1 rfl rfl rfl ?_
      refine z_bipush (q := 140) C dX4_join_138 bp_124 rfl ?_
      refine z_icmp_ne (tgt := 147) (q := 143) C dX4_join_140 (by decide) rfl (fun c17 => ?_) (fun c17 => ?_)
      · have hF := (if_neg c17).symm.trans hF
        refine z_iconst (q := 148) C dX4_join_147 rfl ?_
        obtain ⟨h19, eh19, hF⟩ := zlet_e hF
        refine z_putf (q := 151) C clX4 (zon C zo_4) kd_4 (k := 8) (x := 0) (by decide) q_92 rfl rfl (zbn (Or.inl rfl)) (zbf (Or.inl rfl)) (((zfv_i kd_4 rfl)).trans (by rw [if_pos rfl])) dX4_join_148 rfl eh19 ?_
        have hF := Option.some.inj hF
        subst hF
        exact z_vret C e1 e2 dX4_join_151
      · have hF := (if_pos c17).symm.trans hF
        refine z_iconst (q := 144) C dX4_join_143 rfl ?_
        refine z_goto (q := 148) C dX4_join_144 (by decide) ?_
        obtain ⟨h18, eh18, hF⟩ := zlet_e hF
        refine z_putf (q := 151) C clX4 (zon C zo_4) kd_4 (k := 8) (x := 1) (by decide) q_92 rfl rfl (zbn (Or.inr rfl)) (zbf (Or.inr rfl)) (((zfv_i kd_4 rfl)).trans (by rw [if_pos rfl])) dX4_join_148 rfl eh18 ?_
        have hF := Option.some.inj hF
        subst hF
        exact z_vret C e1 e2 dX4_join_151
  · have hF := (if_pos c3).symm.trans hF
    refine z_iconst (q := 117) C dX4_join_116 rfl ?_
    refine z_goto (q := 121) C dX4_join_117 (by decide) ?_
    refine z_iand (q := 122) C dX4_join_121 rfl ?_
    obtain ⟨g4, hF⟩ := zif_none hF
    obtain ⟨h5, eh5, hF⟩ := zlet_e hF
    refine z_putf (q := 125) C clX4 (zon C zo_4) kd_4 (k := 10) (x := zand (h2 4 10) 1) (by decide) q_94 rfl rfl (zbn g4) (zbf g4) (((zfv_i kd_4 rfl)).trans (by rw [if_pos rfl])) dX4_join_122 rfl eh5 ?_
    refine z_aload_n (q := 126) C dX4_join_125 0 rfl rfl rfl ?_
    refine z_iconst (q := 127) C dX4_join_126 rfl ?_
    obtain ⟨h6, eh6, hF⟩ := zlet_e hF
    refine z_putf (q := 130) C clX4 (zon C zo_4) kd_4 (k := 7) (x := 1) (by decide) q_91 rfl rfl (zbn (Or.inr rfl)) (zbf (Or.inr rfl)) (((zfv_i kd_4 rfl)).trans (by rw [if_pos rfl])) dX4_join_127 rfl eh6 ?_
    refine z_aload_n (q := 131) C dX4_join_130 0 rfl rfl rfl ?_
    refine z_iload_n (q := 132) C dX4_join_131 1 rfl rfl rfl ?_
    refine z_bipush (q := 134) C dX4_join_132 bp_38 rfl ?_
    refine z_icmp_eq (tgt := 143) (q := 137) C dX4_join_134 (by decide) rfl (fun c7 => ?_) (fun c7 => ?_)
    · have hF := (if_pos c7).symm.trans hF
      refine z_iconst (q := 144) C dX4_join_143 rfl ?_
      refine z_goto (q := 148) C dX4_join_144 (by decide) ?_
      obtain ⟨h8, eh8, hF⟩ := zlet_e hF
      refine z_putf (q := 151) C clX4 (zon C zo_4) kd_4 (k := 8) (x := 1) (by decide) q_92 rfl rfl (zbn (Or.inr rfl)) (zbf (Or.inr rfl)) (((zfv_i kd_4 rfl)).trans (by rw [if_pos rfl])) dX4_join_148 rfl eh8 ?_
      have hF := Option.some.inj hF
      subst hF
      exact z_vret C e1 e2 dX4_join_151
    · have hF := (if_neg c7).symm.trans hF
      refine z_iload_n (q := 138) C dX4_join_137 1 rfl rfl rfl ?_
      refine z_bipush (q := 140) C dX4_join_138 bp_124 rfl ?_
      refine z_icmp_ne (tgt := 147) (q := 143) C dX4_join_140 (by decide) rfl (fun c9 => ?_) (fun c9 => ?_)
      · have hF := (if_neg c9).symm.trans hF
        refine z_iconst (q := 148) C dX4_join_147 rfl ?_
        obtain ⟨h11, eh11, hF⟩ := zlet_e hF
        refine z_putf (q := 151) C clX4 (zon C zo_4) kd_4 (k := 8) (x := 0) (by decide) q_92 rfl rfl (zbn (Or.inl rfl)) (zbf (Or.inl rfl)) (((zfv_i kd_4 rfl)).trans (by rw [if_pos rfl])) dX4_join_148 rfl eh11 ?_
        have hF := Option.some.inj hF
        subst hF
        exact z_vret C e1 e2 dX4_join_151
      · have hF := (if_pos c9).symm.trans hF
        refine z_iconst (q := 144) C dX4_join_143 rfl ?_
        refine z_goto (q := 148) C dX4_join_144 (by decide) ?_
        obtain ⟨h10, eh10, hF⟩ := zlet_e hF
        refine z_putf (q := 151) C clX4 (zon C zo_4) kd_4 (k := 8) (x := 1) (by decide) q_92 rfl rfl (zbn (Or.inr rfl)) (zbf (Or.inr rfl)) (((zfv_i kd_4 rfl)).trans (by rw [if_pos rfl])) dX4_join_148 rfl eh10 ?_
        have hF := Option.some.inj hF
        subst hF
        exact z_vret C e1 e2 dX4_join_151
set_option maxRecDepth 20000 in
set_option maxHeartbeats 4000000 in
theorem J_fX4_join_c47 {κ : zT} (C : zC κ RX4 cX4_join 4 none) {d : Nat} (hR : zR κ = zrm (d + 1)) (hd : 3 ≤ d + 1) {r : zH} (e1 : zrv κ = none) (e2 : zhf κ = r) (l1 : Int) (l2 : Int) (s0 : Int) (h : zH) (hF : fX4_join_c47 l1 l2 s0 h = some r) : Z κ h 47 [(0, .ref (zα κ 4)), (1, .int (zi l1)), (2, .int (zi l2))] [.int (zi s0)] := by
  unfold fX4_join_c47 at hF
  refine z_istore_n (q := 48) C dX4_join_47 (by decide) rfl rfl rfl ?_
  refine z_iload_n (q := 49) C dX4_join_48 2 rfl rfl rfl ?_
  refine z_bipush (q := 51) C dX4_join_49 bp_63 rfl ?_
  refine z_icmp_ne (tgt := 68) (q := 54) C dX4_join_51 (by decide) rfl (fun c1 => ?_) (fun c1 => ?_)
  · have hF := (if_neg c1).symm.trans hF
    refine z_aload_n (q := 69) C dX4_join_68 1 rfl rfl rfl ?_
    refine z_iload_n (q := 70) C dX4_join_69 2 rfl rfl rfl ?_
    obtain ⟨h9, eh9, hF⟩ := zlet_e hF
    refine z_callV (q := 73) (o := 4) (av := [.int (zi l1)]) (rest := []) (stk2 := []) C hR clX4 (zon C zo_4) kd_4 (M_fX4_push (zlv hd rfl) eh9.symm) mY_X4_push q_515 (Nat.le_of_ble_eq_true rfl) dX4_join_70 rfl rfl rfl ?_
    refine z_aload_n (q := 74) C dX4_join_73 1 rfl rfl rfl ?_
    refine z_dup (q := 75) C dX4_join_74 rfl rfl ?_
    refine z_getf (q := 78) C clX4 (zon C zo_4) kd_4 (k := 11) (by decide) q_95 rfl (zfv_i kd_4 rfl) dX4_join_75 rfl ?_
    refine z_iload_n (q := 79) C dX4_join_78 3 rfl rfl rfl ?_
    refine z_ior (q := 80) C dX4_join_79 rfl ?_
    obtain ⟨g10, hF⟩ := zif_none hF
    obtain ⟨h11, eh11, hF⟩ := zlet_e hF
    refine z_putf (q := 83) C clX4 (zon C zo_4) kd_4 (k := 11) (x := zor (h9 4 11) l2) (by decide) q_95 rfl rfl (zbn g10) (zbf g10) (((zfv_i kd_4 rfl)).trans (by rw [if_pos rfl])) dX4_join_80 rfl eh11 ?_
    refine z_aload_n (q := 84) C dX4_join_83 1 rfl rfl rfl ?_
    refine z_iload_n (q := 85) C dX4_join_84 3 rfl rfl rfl ?_
    refine z_if_ne (tgt := 99) (q := 88) C dX4_join_85 (by decide) rfl (fun c12 => ?_) (fun c12 => ?_)
    · have hF := (if_neg c12).symm.trans hF
      refine z_iconst (q := 100) C dX4_join_99 rfl ?_
      refine z_goto (q := 104) C dX4_join_100 (by decide) ?_
      exact z_sub (J_fX4_join_c104 C hR hd e1 e2 _ _ _ _ hF) [1, 2, 0] rfl
    · have hF := (if_pos c12).symm.trans hF
      refine z_aload_n (q := 89) C dX4_join_88 1 rfl rfl rfl ?_
      refine z_getf (q := 92) C clX4 (zon C zo_4) kd_4 (k := 9) (by decide) q_93 rfl (zfv_i kd_4 rfl) dX4_join_89 rfl ?_
      refine z_if_eq (tgt := 103) (q := 95) C dX4_join_92 (by decide) rfl (fun c13 => ?_) (fun c13 => ?_)
      · have hF := (if_pos c13).symm.trans hF
        refine z_iconst (q := 104) C dX4_join_103 rfl ?_
        exact z_sub (J_fX4_join_c104 C hR hd e1 e2 _ _ _ _ hF) [1, 2, 0] rfl
      · have hF := (if_neg c13).symm.trans hF
        refine z_iload_n (q := 96) C dX4_join_95 0 rfl rfl rfl ?_
        refine z_if_ne (tgt := 103) (q := 99) C dX4_join_96 (by decide) rfl (fun c14 => ?_) (fun c14 => ?_)
        · have hF := (if_neg c14).symm.trans hF
          refine z_iconst (q := 104) C dX4_join_103 rfl ?_
          exact z_sub (J_fX4_join_c104 C hR hd e1 e2 _ _ _ _ hF) [1, 2, 0] rfl
        · have hF := (if_pos c14).symm.trans hF
          refine z_iconst (q := 100) C dX4_join_99 rfl ?_
          refine z_goto (q := 104) C dX4_join_100 (by decide) ?_
          exact z_sub (J_fX4_join_c104 C hR hd e1 e2 _ _ _ _ hF) [1, 2, 0] rfl
  · have hF := (if_pos c1).symm.trans hF
    refine z_aload_n (q := 55) C dX4_join_54 1 rfl rfl rfl ?_
    refine z_iload_n (q := 56) C dX4_join_55 2 rfl rfl rfl ?_
    refine z_ineg (q := 57) C dX4_join_56 rfl ?_
    obtain ⟨h2, eh2, hF⟩ := zlet_e hF
    refine z_callV (q := 60) (o := 4) (av := [.int (zi (-l1))]) (rest := []) (stk2 := []) C hR clX4 (zon C zo_4) kd_4 (M_fX4_emit (zlv hd rfl) eh2.symm) mY_X4_emit q_503 (Nat.le_of_ble_eq_true rfl) dX4_join_57 rfl rfl rfl ?_
    refine z_aload_n (q := 61) C dX4_join_60 1 rfl rfl rfl ?_
    refine z_iconst (q := 62) C dX4_join_61 rfl ?_
    obtain ⟨h3, eh3, hF⟩ := zlet_e hF
    refine z_putf (q := 65) C clX4 (zon C zo_4) kd_4 (k := 12) (x := 1) (by decide) q_96 rfl rfl (zbn (Or.inr rfl)) (zbf (Or.inr rfl)) (((zfv_i kd_4 rfl)).trans (by rw [if_pos rfl])) dX4_join_62 rfl eh3 ?_
    refine z_goto (q := 73) C dX4_join_65 (by decide) ?_
    refine z_aload_n (q := 74) C dX4_join_73 1 rfl rfl rfl ?_
    refine z_dup (q := 75) C dX4_join_74 rfl rfl ?_
    refine z_getf (q := 78) C clX4 (zon C zo_4) kd_4 (k := 11) (by decide) q_95 rfl (zfv_i kd_4 rfl) dX4_join_75 rfl ?_
    refine z_iload_n (q := 79) C dX4_join_78 3 rfl rfl rfl ?_
    refine z_ior (q := 80) C dX4_join_79 rfl ?_
    obtain ⟨g4, hF⟩ := zif_none hF
    obtain ⟨h5, eh5, hF⟩ := zlet_e hF
    refine z_putf (q := 83) C clX4 (zon C zo_4) kd_4 (k := 11) (x := zor (h3 4 11) l2) (by decide) q_95 rfl rfl (zbn g4) (zbf g4) (((zfv_i kd_4 rfl)).trans (by rw [if_pos rfl])) dX4_join_80 rfl eh5 ?_
    refine z_aload_n (q := 84) C dX4_join_83 1 rfl rfl rfl ?_
    refine z_iload_n (q := 85) C dX4_join_84 3 rfl rfl rfl ?_
    refine z_if_ne (tgt := 99) (q := 88) C dX4_join_85 (by decide) rfl (fun c6 => ?_) (fun c6 => ?_)
    · have hF := (if_neg c6).symm.trans hF
      refine z_iconst (q := 100) C dX4_join_99 rfl ?_
      refine z_goto (q := 104) C dX4_join_100 (by decide) ?_
      exact z_sub (J_fX4_join_c104 C hR hd e1 e2 _ _ _ _ hF) [1, 2, 0] rfl
    · have hF := (if_pos c6).symm.trans hF
      refine z_aload_n (q := 89) C dX4_join_88 1 rfl rfl rfl ?_
      refine z_getf (q := 92) C clX4 (zon C zo_4) kd_4 (k := 9) (by decide) q_93 rfl (zfv_i kd_4 rfl) dX4_join_89 rfl ?_
      refine z_if_eq (tgt := 103) (q := 95) C dX4_join_92 (by decide) rfl (fun c7 => ?_) (fun c7 => ?_)
      · have hF := (if_pos c7).symm.trans hF
        refine z_iconst (q := 104) C dX4_join_103 rfl ?_
        exact z_sub (J_fX4_join_c104 C hR hd e1 e2 _ _ _ _ hF) [1, 2, 0] rfl
      · have hF := (if_neg c7).symm.trans hF
        refine z_iload_n (q := 96) C dX4_join_95 0 rfl rfl rfl ?_
        refine z_if_ne (tgt := 103) (q := 99) C dX4_join_96 (by decide) rfl (fun c8 => ?_) (fun c8 => ?_)
        · have hF := (if_neg c8).symm.trans hF
          refine z_iconst (q := 104) C dX4_join_103 rfl ?_
          exact z_sub (J_fX4_join_c104 C hR hd e1 e2 _ _ _ _ hF) [1, 2, 0] rfl
        · have hF := (if_pos c8).symm.trans hF
          refine z_iconst (q := 100) C dX4_join_99 rfl ?_
          refine z_goto (q := 104) C dX4_join_100 (by decide) ?_
          exact z_sub (J_fX4_join_c104 C hR hd e1 e2 _ _ _ _ hF) [1, 2, 0] rfl
set_option maxRecDepth 20000 in
set_option maxHeartbeats 4000000 in
theorem J_fX4_join_c18 {κ : zT} (C : zC κ RX4 cX4_join 4 none) {d : Nat} (hR : zR κ = zrm (d + 1)) (hd : 3 ≤ d + 1) {r : zH} (e1 : zrv κ = none) (e2 : zhf κ = r) (l1 : Int) (h : zH) (hF : fX4_join_c18 l1 h = some r) : Z κ h 18 [(0, .ref (zα κ 4)), (1, .int (zi l1))] [] := by
  unfold fX4_join_c18 at hF
  refine z_iconst (q := 19) C dX4_join_18 rfl ?_
  refine z_goto (q := 23) C dX4_join_19 (by decide) ?_
  refine z_istore_n (q := 24) C dX4_join_23 (by decide) rfl rfl rfl ?_
  refine z_iload_n (q := 25) C dX4_join_24 2 rfl rfl rfl ?_
  refine z_bipush (q := 27) C dX4_join_25 bp_38 rfl ?_
  refine z_icmp_eq (tgt := 42) (q := 30) C dX4_join_27 (by decide) rfl (fun c1 => ?_) (fun c1 => ?_)
  · have hF := (if_pos c1).symm.trans hF
    refine z_iconst (q := 43) C dX4_join_42 rfl ?_
    refine z_goto (q := 47) C dX4_join_43 (by decide) ?_
    exact z_sub (J_fX4_join_c47 C hR hd e1 e2 _ _ _ _ hF) [1, 2, 0] rfl
  · have hF := (if_neg c1).symm.trans hF
    refine z_iload_n (q := 31) C dX4_join_30 2 rfl rfl rfl ?_
    refine z_bipush (q := 33) C dX4_join_31 bp_124 rfl ?_
    refine z_icmp_eq (tgt := 42) (q := 36) C dX4_join_33 (by decide) rfl (fun c2 => ?_) (fun c2 => ?_)
    · have hF := (if_pos c2).symm.trans hF
      refine z_iconst (q := 43) C dX4_join_42 rfl ?_
      refine z_goto (q := 47) C dX4_join_43 (by decide) ?_
      exact z_sub (J_fX4_join_c47 C hR hd e1 e2 _ _ _ _ hF) [1, 2, 0] rfl
    · have hF := (if_neg c2).symm.trans hF
      refine z_iload_n (q := 37) C dX4_join_36 2 rfl rfl rfl ?_
      refine z_bipush (q := 39) C dX4_join_37 bp_63 rfl ?_
      refine z_icmp_ne (tgt := 46) (q := 42) C dX4_join_39 (by decide) rfl (fun c3 => ?_) (fun c3 => ?_)
      · have hF := (if_neg c3).symm.trans hF
        refine z_iconst (q := 47) C dX4_join_46 rfl ?_
        exact z_sub (J_fX4_join_c47 C hR hd e1 e2 _ _ _ _ hF) [1, 2, 0] rfl
      · have hF := (if_pos c3).symm.trans hF
        refine z_iconst (q := 43) C dX4_join_42 rfl ?_
        refine z_goto (q := 47) C dX4_join_43 (by decide) ?_
        exact z_sub (J_fX4_join_c47 C hR hd e1 e2 _ _ _ _ hF) [1, 2, 0] rfl
set_option maxRecDepth 20000 in
set_option maxHeartbeats 4000000 in
theorem J_fX4_join {κ : zT} (C : zC κ RX4 cX4_join 4 none) {d : Nat} (hR : zR κ = zrm (d + 1)) (hd : 3 ≤ d + 1) {r : zH} (e1 : zrv κ = none) (e2 : zhf κ = r) {a1 : Int} {h : zH} (hF : fX4_join a1 h = some r) : Z κ h 0 [(0, .ref (zα κ 4)), (1, .int (zi a1))] [] := by
  unfold fX4_join at hF
  refine z_iload_n (q := 1) C dX4_join_0 1 rfl rfl rfl ?_
  refine z_bipush (q := 3) C dX4_join_1 bp_61 rfl ?_
  refine z_icmp_eq (tgt := 18) (q := 6) C dX4_join_3 (by decide) rfl (fun c1 => ?_) (fun c1 => ?_)
  · have hF := (if_pos c1).symm.trans hF
    exact z_sub (J_fX4_join_c18 C hR hd e1 e2 _ _ hF) [0, 1] rfl
  · have hF := (if_neg c1).symm.trans hF
    refine z_iload_n (q := 7) C dX4_join_6 1 rfl rfl rfl ?_
    refine z_bipush (q := 9) C dX4_join_7 bp_60 rfl ?_
    refine z_icmp_eq (tgt := 18) (q := 12) C dX4_join_9 (by decide) rfl (fun c2 => ?_) (fun c2 => ?_)
    · have hF := (if_pos c2).symm.trans hF
      exact z_sub (J_fX4_join_c18 C hR hd e1 e2 _ _ hF) [0, 1] rfl
    · have hF := (if_neg c2).symm.trans hF
      refine z_iload_n (q := 13) C dX4_join_12 1 rfl rfl rfl ?_
      refine z_bipush (q := 15) C dX4_join_13 bp_62 rfl ?_
      refine z_icmp_ne (tgt := 22) (q := 18) C dX4_join_15 (by decide) rfl (fun c3 => ?_) (fun c3 => ?_)
      · have hF := (if_neg c3).symm.trans hF
        refine z_iconst (q := 23) C dX4_join_22 rfl ?_
        refine z_istore_n (q := 24) C dX4_join_23 (by decide) rfl rfl rfl ?_
        refine z_iload_n (q := 25) C dX4_join_24 2 rfl rfl rfl ?_
        refine z_bipush (q := 27) C dX4_join_25 bp_38 rfl ?_
        refine z_icmp_eq (tgt := 42) (q := 30) C dX4_join_27 (by decide) rfl (fun c4 => ?_) (fun c4 => ?_)
        · have hF := (if_pos c4).symm.trans hF
          refine z_iconst (q := 43) C dX4_join_42 rfl ?_
          refine z_goto (q := 47) C dX4_join_43 (by decide) ?_
          exact z_sub (J_fX4_join_c47 C hR hd e1 e2 _ _ _ _ hF) [1, 2, 0] rfl
        · have hF := (if_neg c4).symm.trans hF
          refine z_iload_n (q := 31) C dX4_join_30 2 rfl rfl rfl ?_
          refine z_bipush (q := 33) C dX4_join_31 bp_124 rfl ?_
          refine z_icmp_eq (tgt := 42) (q := 36) C dX4_join_33 (by decide) rfl (fun c5 => ?_) (fun c5 => ?_)
          · have hF := (if_pos c5).symm.trans hF
            refine z_iconst (q := 43) C dX4_join_42 rfl ?_
            refine z_goto (q := 47) C dX4_join_43 (by decide) ?_
            exact z_sub (J_fX4_join_c47 C hR hd e1 e2 _ _ _ _ hF) [1, 2, 0] rfl
          · have hF := (if_neg c5).symm.trans hF
            refine z_iload_n (q := 37) C dX4_join_36 2 rfl rfl rfl ?_
            refine z_bipush (q := 39) C dX4_join_37 bp_63 rfl ?_
            refine z_icmp_ne (tgt := 46) (q := 42) C dX4_join_39 (by decide) rfl (fun c6 => ?_) (fun c6 => ?_)
            · have hF := (if_neg c6).symm.trans hF
              refine z_iconst (q := 47) C dX4_join_46 rfl ?_
              exact z_sub (J_fX4_join_c47 C hR hd e1 e2 _ _ _ _ hF) [1, 2, 0] rfl
            · have hF := (if_pos c6).symm.trans hF
              refine z_iconst (q := 43) C dX4_join_42 rfl ?_
              refine z_goto (q := 47) C dX4_join_43 (by decide) ?_
              exact z_sub (J_fX4_join_c47 C hR hd e1 e2 _ _ _ _ hF) [1, 2, 0] rfl
      · have hF := (if_pos c3).symm.trans hF
        exact z_sub (J_fX4_join_c18 C hR hd e1 e2 _ _ hF) [0, 1] rfl
set_option maxRecDepth 20000 in
set_option maxHeartbeats 4000000 in
theorem M_fX4_join {l : Launch} {D : va_G} {cy : ClassId} {α : Nat → Nat} {n : Nat} {σ : zSg} {d : Nat} (hd : 3 ≤ d) {a1 : Int} {h : zH} {g : zH} (hF : fX4_join a1 h = some g) : zMet l yX4_join cX4_join 4 none (zrm d) D cy α n σ [.ref (α 4), .int (zi a1)] h (none) g := by
  obtain ⟨d, rfl⟩ : ∃ e, d = e + 1 := ⟨d - 1, by omega⟩
  refine z_met (by decide +kernel) (Nat.le_of_ble_eq_true rfl) (fun κ k1 k2 k3 k4 k5 k6 k7 k8 k9 C => ?_)
  subst k1 k3 k4 k5 k6 k7
  exact J_fX4_join C k2 hd k8 k9 hF
set_option maxRecDepth 20000 in
set_option maxHeartbeats 4000000 in
theorem J_fX4_readJoint {κ : zT} (C : zC κ RX4 cX4_readJoint 3 (some .boolean)) {d : Nat} (hR : zR κ = zrm (d + 1)) (hd : 4 ≤ d + 1) {N : Nat} {r : Int × zH} (e1 : zrv κ = some (.int (zi r.1))) (e2 : zhf κ = r.2) {h : zH} (hF : fX4_readJoint N h = some r) : Z κ h 0 [(0, .ref (zα κ 4)), (1, .ref (zα κ 1))] [] := by
  unfold fX4_readJoint at hF
  refine z_aload_n (q := 1) C dX4_readJoint_0 1 rfl rfl rfl ?_
  obtain ⟨v2, h1, ev2, hF⟩ := z2_e hF
  refine z_callV (q := 4) (o := 1) (av := []) (rest := []) (stk2 := [.int (zi v2)]) C hR clX9 (zon C zo_1) kd_1 (M_fX9_next (zlv hd rfl) ev2) mY_X9_next q_498 (Nat.le_of_ble_eq_true rfl) dX4_readJoint_1 rfl rfl rfl ?_
  refine z_istore_n (q := 5) C dX4_readJoint_4 (by decide) rfl rfl rfl ?_
  refine z_aload_n (q := 6) C dX4_readJoint_5 2 rfl rfl rfl ?_
  refine z_getf (q := 9) C clX9 (zon C zo_1) kd_1 (k := 3) (by decide) q_48 rfl (zfv_i kd_1 rfl) dX4_readJoint_6 rfl ?_
  refine z_iconst (q := 10) C dX4_readJoint_9 rfl ?_
  refine z_icmp_ne (tgt := 21) (q := 13) C dX4_readJoint_10 (by decide) rfl (fun c3 => ?_) (fun c3 => ?_)
  · have hF := (if_neg c3).symm.trans hF
    refine z_aload_n (q := 22) C dX4_readJoint_21 2 rfl rfl rfl ?_
    refine z_aload_n (q := 23) C dX4_readJoint_22 2 rfl rfl rfl ?_
    refine z_getf (q := 26) C clX9 (zon C zo_1) kd_1 (k := 2) (by decide) q_44 rfl (zfv_i kd_1 rfl) dX4_readJoint_23 rfl ?_
    obtain ⟨h17, eh17, hF⟩ := zlet_e hF
    refine z_callV (q := 29) (o := 1) (av := [.int (zi (h1 1 2))]) (rest := []) (stk2 := []) C hR clX9 (zon C zo_1) kd_1 (M_fX9_blame (zlv hd rfl) eh17.symm) mY_X9_blame q_493 (Nat.le_of_ble_eq_true rfl) dX4_readJoint_26 rfl rfl rfl ?_
    refine z_iconst (q := 30) C dX4_readJoint_29 rfl ?_
    have hF := Option.some.inj hF
    subst hF
    exact z_zret C (zb01 (Or.inl rfl)) e1 e2 dX4_readJoint_30
  · have hF := (if_pos c3).symm.trans hF
    refine z_aload_n (q := 14) C dX4_readJoint_13 1 rfl rfl rfl ?_
    refine z_iload_n (q := 15) C dX4_readJoint_14 0 rfl rfl rfl ?_
    refine z_callV (q := 18) (o := 4) (av := [.int (zi v2)]) (rest := []) (stk2 := [.int (zi (fX4_fits v2 h1))]) C hR clX4 (zon C zo_4) kd_4 (M_fX4_fits (zlv hd rfl) rfl) mY_X4_fits q_523 (Nat.le_of_ble_eq_true rfl) dX4_readJoint_15 rfl rfl rfl ?_
    refine z_if_ne (tgt := 31) (q := 21) C dX4_readJoint_18 (by decide) rfl (fun c4 => ?_) (fun c4 => ?_)
    · have hF := (if_neg c4).symm.trans hF
      refine z_aload_n (q := 32) C dX4_readJoint_31 1 rfl rfl rfl ?_
      refine z_iload_n (q := 33) C dX4_readJoint_32 0 rfl rfl rfl ?_
      refine z_callS (q := 36) (av := [.int (zi v2)]) (rest := [.ref (zα κ 4)]) (stk2 := [.int (zi (fX4_rank v2)), .ref (zα κ 4)]) C hR (M_fX4_rank (zlv hd rfl) rfl) mY_X4_rank q_527 (Nat.le_of_ble_eq_true rfl) dX4_readJoint_33 rfl rfl rfl ?_
      refine z_iconst (q := 37) C dX4_readJoint_36 rfl ?_
      refine z_callS (q := 40) (av := [.int (zi (fX4_rank v2)), .int (zi 1)]) (rest := [.ref (zα κ 4)]) (stk2 := [.int (zi (fJ9_max_7cf53 (fX4_rank v2) 1)), .ref (zα κ 4)]) C hR (M_fJ9_max_7cf53 (zlv hd rfl) rfl) mY_J9_max_7cf53 q_530 (Nat.le_of_ble_eq_true rfl) dX4_readJoint_37 rfl rfl rfl ?_
      obtain ⟨h6, eh6, hF⟩ := zb_e hF
      refine z_callV (q := 43) (o := 4) (av := [.int (zi (fJ9_max_7cf53 (fX4_rank v2) 1))]) (rest := []) (stk2 := []) C hR clX4 (zon C zo_4) kd_4 (M_fX4_reduce (zlv hd rfl) eh6) mY_X4_reduce q_531 (Nat.le_of_ble_eq_true rfl) dX4_readJoint_40 rfl rfl rfl ?_
      refine z_iload_n (q := 44) C dX4_readJoint_43 0 rfl rfl rfl ?_
      refine z_bipush (q := 46) C dX4_readJoint_44 bp_59 rfl ?_
      refine z_icmp_eq (tgt := 54) (q := 49) C dX4_readJoint_46 (by decide) rfl (fun c7 => ?_) (fun c7 => ?_)
      · have hF := (if_pos c7).symm.trans hF
        refine z_aload_n (q := 55) C dX4_readJoint_54 1 rfl rfl rfl ?_
        refine z_bipush (q := 57) C dX4_readJoint_55 bp_m59 rfl ?_
        obtain ⟨h8, eh8, hF⟩ := zlet_e hF
        refine z_callV (q := 60) (o := 4) (av := [.int (zi (-59))]) (rest := []) (stk2 := []) C hR clX4 (zon C zo_4) kd_4 (M_fX4_emit (zlv hd rfl) eh8.symm) mY_X4_emit q_503 (Nat.le_of_ble_eq_true rfl) dX4_readJoint_57 rfl rfl rfl ?_
        refine z_iconst (q := 61) C dX4_readJoint_60 rfl ?_
        have hF := Option.some.inj hF
        subst hF
        exact z_zret C (zb01 (Or.inl rfl)) e1 e2 dX4_readJoint_61
      · have hF := (if_neg c7).symm.trans hF
        refine z_iload_n (q := 50) C dX4_readJoint_49 0 rfl rfl rfl ?_
        refine z_iconst (q := 51) C dX4_readJoint_50 rfl ?_
        refine z_icmp_ne (tgt := 62) (q := 54) C dX4_readJoint_51 (by decide) rfl (fun c9 => ?_) (fun c9 => ?_)
        · have hF := (if_neg c9).symm.trans hF
          refine z_aload_n (q := 63) C dX4_readJoint_62 2 rfl rfl rfl ?_
          refine z_dup (q := 64) C dX4_readJoint_63 rfl rfl ?_
          refine z_getf (q := 67) C clX9 (zon C zo_1) kd_1 (k := 2) (by decide) q_44 rfl (zfv_i kd_1 rfl) dX4_readJoint_64 rfl ?_
          refine z_iconst (q := 68) C dX4_readJoint_67 rfl ?_
          refine z_iadd (q := 69) C dX4_readJoint_68 rfl ?_
          obtain ⟨h11, eh11, hF⟩ := zlet_e hF
          refine z_putf (q := 72) C clX9 (zon C zo_1) kd_1 (k := 2) (x := (h6 1 2) + 1) (by decide) q_44 rfl rfl rfl rfl (((zfv_i kd_1 rfl)).trans (by rw [if_pos rfl])) dX4_readJoint_69 rfl eh11 ?_
          refine z_iload_n (q := 73) C dX4_readJoint_72 0 rfl rfl rfl ?_
          refine z_bipush (q := 75) C dX4_readJoint_73 bp_41 rfl ?_
          refine z_icmp_eq (tgt := 84) (q := 78) C dX4_readJoint_75 (by decide) rfl (fun c12 => ?_) (fun c12 => ?_)
          · have hF := (if_pos c12).symm.trans hF
            refine z_aload_n (q := 85) C dX4_readJoint_84 1 rfl rfl rfl ?_
            refine z_iload_n (q := 86) C dX4_readJoint_85 0 rfl rfl rfl ?_
            obtain ⟨h13, eh13, hF⟩ := zlet_e hF
            refine z_callV (q := 89) (o := 4) (av := [.int (zi v2)]) (rest := []) (stk2 := []) C hR clX4 (zon C zo_4) kd_4 (M_fX4_shut (zlv hd rfl) eh13.symm) mY_X4_shut q_536 (Nat.le_of_ble_eq_true rfl) dX4_readJoint_86 rfl rfl rfl ?_
            refine z_goto (q := 97) C dX4_readJoint_89 (by decide) ?_
            refine z_iconst (q := 98) C dX4_readJoint_97 rfl ?_
            have hF := Option.some.inj hF
            subst hF
            exact z_zret C (zb01 (Or.inr rfl)) e1 e2 dX4_readJoint_98
          · have hF := (if_neg c12).symm.trans hF
            refine z_iload_n (q := 79) C dX4_readJoint_78 0 rfl rfl rfl ?_
            refine z_bipush (q := 81) C dX4_readJoint_79 bp_93 rfl ?_
            refine z_icmp_ne (tgt := 92) (q := 84) C dX4_readJoint_81 (by decide) rfl (fun c14 => ?_) (fun c14 => ?_)
            · have hF := (if_neg c14).symm.trans hF
              refine z_aload_n (q := 93) C dX4_readJoint_92 1 rfl rfl rfl ?_
              refine z_iload_n (q := 94) C dX4_readJoint_93 0 rfl rfl rfl ?_
              obtain ⟨h16, eh16, hF⟩ := zb_e hF
              refine z_callV (q := 97) (o := 4) (av := [.int (zi v2)]) (rest := []) (stk2 := []) C hR clX4 (zon C zo_4) kd_4 (M_fX4_join (zlv hd rfl) eh16) mY_X4_join q_540 (Nat.le_of_ble_eq_true rfl) dX4_readJoint_94 rfl rfl rfl ?_
              refine z_iconst (q := 98) C dX4_readJoint_97 rfl ?_
              have hF := Option.some.inj hF
              subst hF
              exact z_zret C (zb01 (Or.inr rfl)) e1 e2 dX4_readJoint_98
            · have hF := (if_pos c14).symm.trans hF
              refine z_aload_n (q := 85) C dX4_readJoint_84 1 rfl rfl rfl ?_
              refine z_iload_n (q := 86) C dX4_readJoint_85 0 rfl rfl rfl ?_
              obtain ⟨h15, eh15, hF⟩ := zlet_e hF
              refine z_callV (q := 89) (o := 4) (av := [.int (zi v2)]) (rest := []) (stk2 := []) C hR clX4 (zon C zo_4) kd_4 (M_fX4_shut (zlv hd rfl) eh15.symm) mY_X4_shut q_536 (Nat.le_of_ble_eq_true rfl) dX4_readJoint_86 rfl rfl rfl ?_
              refine z_goto (q := 97) C dX4_readJoint_89 (by decide) ?_
              refine z_iconst (q := 98) C dX4_readJoint_97 rfl ?_
              have hF := Option.some.inj hF
              subst hF
              exact z_zret C (zb01 (Or.inr rfl)) e1 e2 dX4_readJoint_98
        · have hF := (if_pos c9).symm.trans hF
          refine z_aload_n (q := 55) C dX4_readJoint_54 1 rfl rfl rfl ?_
          refine z_bipush (q := 57) C dX4_readJoint_55 bp_m59 rfl ?_
          obtain ⟨h10, eh10, hF⟩ := zlet_e hF
          refine z_callV (q := 60) (o := 4) (av := [.int (zi (-59))]) (rest := []) (stk2 := []) C hR clX4 (zon C zo_4) kd_4 (M_fX4_emit (zlv hd rfl) eh10.symm) mY_X4_emit q_503 (Nat.le_of_ble_eq_true rfl) dX4_readJoint_57 rfl rfl rfl ?_
          refine z_iconst (q := 61) C dX4_readJoint_60 rfl ?_
          have hF := Option.some.inj hF
          subst hF
          exact z_zret C (zb01 (Or.inl rfl)) e1 e2 dX4_readJoint_61
    · have hF := (if_pos c4).symm.trans hF
      refine z_aload_n (q := 22) C dX4_readJoint_21 2 rfl rfl rfl ?_
      refine z_aload_n (q := 23) C dX4_readJoint_22 2 rfl rfl rfl ?_
      refine z_getf (q := 26) C clX9 (zon C zo_1) kd_1 (k := 2) (by decide) q_44 rfl (zfv_i kd_1 rfl) dX4_readJoint_23 rfl ?_
      obtain ⟨h5, eh5, hF⟩ := zlet_e hF
      refine z_callV (q := 29) (o := 1) (av := [.int (zi (h1 1 2))]) (rest := []) (stk2 := []) C hR clX9 (zon C zo_1) kd_1 (M_fX9_blame (zlv hd rfl) eh5.symm) mY_X9_blame q_493 (Nat.le_of_ble_eq_true rfl) dX4_readJoint_26 rfl rfl rfl ?_
      refine z_iconst (q := 30) C dX4_readJoint_29 rfl ?_
      have hF := Option.some.inj hF
      subst hF
      exact z_zret C (zb01 (Or.inl rfl)) e1 e2 dX4_readJoint_30
set_option maxRecDepth 20000 in
set_option maxHeartbeats 4000000 in
theorem M_fX4_readJoint {l : Launch} {D : va_G} {cy : ClassId} {α : Nat → Nat} {n : Nat} {σ : zSg} {d : Nat} (hd : 4 ≤ d) {N : Nat} {h : zH} {r : Int} {g : zH} (hF : fX4_readJoint N h = some (r, g)) : zMet l yX4_readJoint cX4_readJoint 3 (some .boolean) (zrm d) D cy α n σ [.ref (α 4), .ref (α 1)] h (some (.int (zi r))) g := by
  obtain ⟨d, rfl⟩ : ∃ e, d = e + 1 := ⟨d - 1, by omega⟩
  refine z_met (by decide +kernel) (Nat.le_of_ble_eq_true rfl) (fun κ k1 k2 k3 k4 k5 k6 k7 k8 k9 C => ?_)
  subst k1 k3 k4 k5 k6 k7
  exact J_fX4_readJoint C k2 hd k8 k9 hF
set_option maxRecDepth 20000 in
set_option maxHeartbeats 4000000 in
theorem J_fX4_readClause_c92b {κ : zT} (C : zC κ RX4 cX4_readClause 4 none) {d : Nat} (hR : zR κ = zrm (d + 1)) (hd : 9 ≤ d + 1) {N : Nat} {r : zH} (e1 : zrv κ = none) (e2 : zhf κ = r) {K92 : Int → Int → zH → Option zH} (hK92 : ∀ (l2 : Int) (l3 : Int) (h : zH), K92 l2 l3 h = some r → Z κ h 92 [(0, .ref (zα κ 4)), (1, .ref (zα κ 1)), (2, .int (zi l2)), (3, .int (zi l3))] []) (l2 : Int) (l3 : Int) (h : zH) (hF : fX4_readClause_c92b N K92 l2 l3 h = some r) : Z κ h 92 [(0, .ref (zα κ 4)), (1, .ref (zα κ 1)), (2, .int (zi l2)), (3, .int (zi l3))] [] := by
  unfold fX4_readClause_c92b at hF
  refine z_iload_n (q := 93) C dX4_readClause_92 3 rfl rfl rfl ?_
  refine z_sipush (q := 96) C dX4_readClause_93 sp_240 rfl ?_
  refine z_icmp_ge (tgt := 130) (q := 99) C dX4_readClause_96 (by decide) rfl (fun c1 => ?_) (fun c1 => ?_)
  · have hF := (if_pos c1).symm.trans hF
    have hF := Option.some.inj hF
    subst hF
    exact z_vret C e1 e2 dX4_readClause_130
  · have hF := (if_neg c1).symm.trans hF
    refine z_iload_n (q := 100) C dX4_readClause_99 2 rfl rfl rfl ?_
    refine z_if_eq (tgt := 130) (q := 103) C dX4_readClause_100 (by decide) rfl (fun c2 => ?_) (fun c2 => ?_)
    · have hF := (if_pos c2).symm.trans hF
      have hF := Option.some.inj hF
      subst hF
      exact z_vret C e1 e2 dX4_readClause_130
    · have hF := (if_neg c2).symm.trans hF
      refine z_aload_n (q := 104) C dX4_readClause_103 0 rfl rfl rfl ?_
      refine z_getf (q := 107) C clX4 (zon C zo_4) kd_4 (k := 7) (by decide) q_91 rfl (zfv_i kd_4 rfl) dX4_readClause_104 rfl ?_
      refine z_if_eq (tgt := 118) (q := 110) C dX4_readClause_107 (by decide) rfl (fun c3 => ?_) (fun c3 => ?_)
      · have hF := (if_pos c3).symm.trans hF
        refine z_aload_n (q := 119) C dX4_readClause_118 0 rfl rfl rfl ?_
        refine z_aload_n (q := 120) C dX4_readClause_119 1 rfl rfl rfl ?_
        obtain ⟨v5, h4, ev5, hF⟩ := z2_e hF
        refine z_callV (q := 123) (o := 4) (av := [.ref (zα κ 1)]) (rest := []) (stk2 := [.int (zi v5)]) C hR clX4 (zon C zo_4) kd_4 (M_fX4_readJoint (zlv hd rfl) ev5) mY_X4_readJoint q_519 (Nat.le_of_ble_eq_true rfl) dX4_readClause_120 rfl rfl rfl ?_
        refine z_istore_n (q := 124) C dX4_readClause_123 (by decide) rfl rfl rfl ?_
        refine z_iinc (q := 127) (x := l3) C dX4_readClause_124 (j := 3) rfl (by decide) rfl rfl ?_
        refine z_goto (q := 92) C dX4_readClause_127 (by decide) ?_
        exact z_sub (hK92 _ _ _ hF) [2, 3, 1, 0] rfl
      · have hF := (if_neg c3).symm.trans hF
        refine z_aload_n (q := 111) C dX4_readClause_110 0 rfl rfl rfl ?_
        refine z_aload_n (q := 112) C dX4_readClause_111 1 rfl rfl rfl ?_
        obtain ⟨v7, h6, ev7, hF⟩ := z2_e hF
        refine z_callV (q := 115) (o := 4) (av := [.ref (zα κ 1)]) (rest := []) (stk2 := [.int (zi v7)]) C hR clX4 (zon C zo_4) kd_4 (M_fX4_readOperand (zlv hd rfl) ev7) mY_X4_readOperand q_494 (Nat.le_of_ble_eq_true rfl) dX4_readClause_112 rfl rfl rfl ?_
        refine z_goto (q := 123) C dX4_readClause_115 (by decide) ?_
        refine z_istore_n (q := 124) C dX4_readClause_123 (by decide) rfl rfl rfl ?_
        refine z_iinc (q := 127) (x := l3) C dX4_readClause_124 (j := 3) rfl (by decide) rfl rfl ?_
        refine z_goto (q := 92) C dX4_readClause_127 (by decide) ?_
        exact z_sub (hK92 _ _ _ hF) [2, 3, 1, 0] rfl
set_option maxRecDepth 20000 in
set_option maxHeartbeats 4000000 in
theorem J_fX4_readClause_c92 {κ : zT} (C : zC κ RX4 cX4_readClause 4 none) {d : Nat} (hR : zR κ = zrm (d + 1)) (hd : 9 ≤ d + 1) {N : Nat} {r : zH} (e1 : zrv κ = none) (e2 : zhf κ = r) : ∀ (k : Nat) (l2 : Int) (l3 : Int) (h : zH), fX4_readClause_c92 N k l2 l3 h = some r → Z κ h 92 [(0, .ref (zα κ 4)), (1, .ref (zα κ 1)), (2, .int (zi l2)), (3, .int (zi l3))] [] := by
  intro k
  induction k with
  | zero => intro l2 l3 h hF; cases hF
  | succ k ih => intro l2 l3 h hF; exact J_fX4_readClause_c92b C hR hd e1 e2 ih l2 l3 h hF
set_option maxRecDepth 20000 in
set_option maxHeartbeats 4000000 in
theorem J_fX4_readClause {κ : zT} (C : zC κ RX4 cX4_readClause 4 none) {d : Nat} (hR : zR κ = zrm (d + 1)) (hd : 9 ≤ d + 1) {N : Nat} {r : zH} (e1 : zrv κ = none) (e2 : zhf κ = r) {h : zH} (hF : fX4_readClause N h = some r) : Z κ h 0 [(0, .ref (zα κ 4)), (1, .ref (zα κ 1))] [] := by
  unfold fX4_readClause at hF
  refine z_aload_n (q := 1) C dX4_readClause_0 0 rfl rfl rfl ?_
  refine z_iconst (q := 2) C dX4_readClause_1 rfl ?_
  obtain ⟨h1, eh1, hF⟩ := zlet_e hF
  refine z_putf (q := 5) C clX4 (zon C zo_4) kd_4 (k := 3) (x := 0) (by decide) q_87 rfl rfl rfl rfl (((zfv_i kd_4 rfl)).trans (by rw [if_pos rfl])) dX4_readClause_2 rfl eh1 ?_
  refine z_aload_n (q := 6) C dX4_readClause_5 0 rfl rfl rfl ?_
  refine z_iconst (q := 7) C dX4_readClause_6 rfl ?_
  obtain ⟨h2, eh2, hF⟩ := zlet_e hF
  refine z_putf (q := 10) C clX4 (zon C zo_4) kd_4 (k := 4) (x := 0) (by decide) q_88 rfl rfl rfl rfl (((zfv_i kd_4 rfl)).trans (by rw [if_pos rfl])) dX4_readClause_7 rfl eh2 ?_
  refine z_aload_n (q := 11) C dX4_readClause_10 0 rfl rfl rfl ?_
  refine z_iconst (q := 12) C dX4_readClause_11 rfl ?_
  obtain ⟨h3, eh3, hF⟩ := zlet_e hF
  refine z_putf (q := 15) C clX4 (zon C zo_4) kd_4 (k := 5) (x := 0) (by decide) q_89 rfl rfl rfl rfl (((zfv_i kd_4 rfl)).trans (by rw [if_pos rfl])) dX4_readClause_12 rfl eh3 ?_
  refine z_aload_n (q := 16) C dX4_readClause_15 0 rfl rfl rfl ?_
  refine z_iconst (q := 17) C dX4_readClause_16 rfl ?_
  obtain ⟨h4, eh4, hF⟩ := zlet_e hF
  refine z_putf (q := 20) C clX4 (zon C zo_4) kd_4 (k := 6) (x := 0) (by decide) q_90 rfl rfl rfl rfl (((zfv_i kd_4 rfl)).trans (by rw [if_pos rfl])) dX4_readClause_17 rfl eh4 ?_
  refine z_aload_n (q := 21) C dX4_readClause_20 0 rfl rfl rfl ?_
  refine z_iconst (q := 22) C dX4_readClause_21 rfl ?_
  obtain ⟨h5, eh5, hF⟩ := zlet_e hF
  refine z_putf (q := 25) C clX4 (zon C zo_4) kd_4 (k := 7) (x := 1) (by decide) q_91 rfl rfl (zbn (Or.inr rfl)) (zbf (Or.inr rfl)) (((zfv_i kd_4 rfl)).trans (by rw [if_pos rfl])) dX4_readClause_22 rfl eh5 ?_
  refine z_aload_n (q := 26) C dX4_readClause_25 0 rfl rfl rfl ?_
  refine z_iconst (q := 27) C dX4_readClause_26 rfl ?_
  obtain ⟨h6, eh6, hF⟩ := zlet_e hF
  refine z_putf (q := 30) C clX4 (zon C zo_4) kd_4 (k := 8) (x := 1) (by decide) q_92 rfl rfl (zbn (Or.inr rfl)) (zbf (Or.inr rfl)) (((zfv_i kd_4 rfl)).trans (by rw [if_pos rfl])) dX4_readClause_27 rfl eh6 ?_
  refine z_aload_n (q := 31) C dX4_readClause_30 0 rfl rfl rfl ?_
  refine z_iconst (q := 32) C dX4_readClause_31 rfl ?_
  obtain ⟨h7, eh7, hF⟩ := zlet_e hF
  refine z_putf (q := 35) C clX4 (zon C zo_4) kd_4 (k := 9) (x := 0) (by decide) q_93 rfl rfl (zbn (Or.inl rfl)) (zbf (Or.inl rfl)) (((zfv_i kd_4 rfl)).trans (by rw [if_pos rfl])) dX4_readClause_32 rfl eh7 ?_
  refine z_aload_n (q := 36) C dX4_readClause_35 0 rfl rfl rfl ?_
  refine z_iconst (q := 37) C dX4_readClause_36 rfl ?_
  obtain ⟨h8, eh8, hF⟩ := zlet_e hF
  refine z_putf (q := 40) C clX4 (zon C zo_4) kd_4 (k := 10) (x := 0) (by decide) q_94 rfl rfl (zbn (Or.inl rfl)) (zbf (Or.inl rfl)) (((zfv_i kd_4 rfl)).trans (by rw [if_pos rfl])) dX4_readClause_37 rfl eh8 ?_
  refine z_aload_n (q := 41) C dX4_readClause_40 0 rfl rfl rfl ?_
  refine z_iconst (q := 42) C dX4_readClause_41 rfl ?_
  obtain ⟨h9, eh9, hF⟩ := zlet_e hF
  refine z_putf (q := 45) C clX4 (zon C zo_4) kd_4 (k := 11) (x := 0) (by decide) q_95 rfl rfl (zbn (Or.inl rfl)) (zbf (Or.inl rfl)) (((zfv_i kd_4 rfl)).trans (by rw [if_pos rfl])) dX4_readClause_42 rfl eh9 ?_
  refine z_aload_n (q := 46) C dX4_readClause_45 0 rfl rfl rfl ?_
  refine z_iconst (q := 47) C dX4_readClause_46 rfl ?_
  obtain ⟨h10, eh10, hF⟩ := zlet_e hF
  refine z_putf (q := 50) C clX4 (zon C zo_4) kd_4 (k := 12) (x := 0) (by decide) q_96 rfl rfl (zbn (Or.inl rfl)) (zbf (Or.inl rfl)) (((zfv_i kd_4 rfl)).trans (by rw [if_pos rfl])) dX4_readClause_47 rfl eh10 ?_
  refine z_aload_n (q := 51) C dX4_readClause_50 1 rfl rfl rfl ?_
  refine z_bipush (q := 53) C dX4_readClause_51 bp_121 rfl ?_
  obtain ⟨v12, h11, ev12, hF⟩ := z2_e hF
  refine z_callV (q := 56) (o := 1) (av := [.int (zi 121)]) (rest := []) (stk2 := [.int (zi v12)]) C hR clX9 (zon C zo_1) kd_1 (M_fX9_take (zlv hd rfl) ev12) mY_X9_take q_492 (Nat.le_of_ble_eq_true rfl) dX4_readClause_53 rfl rfl rfl ?_
  refine z_if_eq (tgt := 68) (q := 59) C dX4_readClause_56 (by decide) rfl (fun c13 => ?_) (fun c13 => ?_)
  · have hF := (if_pos c13).symm.trans hF
    refine z_aload_n (q := 69) C dX4_readClause_68 1 rfl rfl rfl ?_
    refine z_aload_n (q := 70) C dX4_readClause_69 1 rfl rfl rfl ?_
    refine z_getf (q := 73) C clX9 (zon C zo_1) kd_1 (k := 2) (by decide) q_44 rfl (zfv_i kd_1 rfl) dX4_readClause_70 rfl ?_
    obtain ⟨h14, eh14, hF⟩ := zlet_e hF
    refine z_callV (q := 76) (o := 1) (av := [.int (zi (h11 1 2))]) (rest := []) (stk2 := []) C hR clX9 (zon C zo_1) kd_1 (M_fX9_blame (zlv hd rfl) eh14.symm) mY_X9_blame q_493 (Nat.le_of_ble_eq_true rfl) dX4_readClause_73 rfl rfl rfl ?_
    refine z_aload_n (q := 77) C dX4_readClause_76 1 rfl rfl rfl ?_
    refine z_getf (q := 80) C clX9 (zon C zo_1) kd_1 (k := 3) (by decide) q_48 rfl (zfv_i kd_1 rfl) dX4_readClause_77 rfl ?_
    refine z_iconst (q := 81) C dX4_readClause_80 rfl ?_
    refine z_icmp_ne (tgt := 88) (q := 84) C dX4_readClause_81 (by decide) rfl (fun c15 => ?_) (fun c15 => ?_)
    · have hF := (if_neg c15).symm.trans hF
      refine z_iconst (q := 89) C dX4_readClause_88 rfl ?_
      refine z_istore_n (q := 90) C dX4_readClause_89 (by decide) rfl rfl rfl ?_
      refine z_iconst (q := 91) C dX4_readClause_90 rfl ?_
      refine z_istore_n (q := 92) C dX4_readClause_91 (by decide) rfl rfl rfl ?_
      exact z_sub (J_fX4_readClause_c92 C hR hd e1 e2 N _ _ _ hF) [2, 3, 1, 0] rfl
    · have hF := (if_pos c15).symm.trans hF
      refine z_iconst (q := 85) C dX4_readClause_84 rfl ?_
      refine z_goto (q := 89) C dX4_readClause_85 (by decide) ?_
      refine z_istore_n (q := 90) C dX4_readClause_89 (by decide) rfl rfl rfl ?_
      refine z_iconst (q := 91) C dX4_readClause_90 rfl ?_
      refine z_istore_n (q := 92) C dX4_readClause_91 (by decide) rfl rfl rfl ?_
      exact z_sub (J_fX4_readClause_c92 C hR hd e1 e2 N _ _ _ hF) [2, 3, 1, 0] rfl
  · have hF := (if_neg c13).symm.trans hF
    refine z_aload_n (q := 60) C dX4_readClause_59 1 rfl rfl rfl ?_
    refine z_bipush (q := 62) C dX4_readClause_60 bp_58 rfl ?_
    obtain ⟨v17, h16, ev17, hF⟩ := z2_e hF
    refine z_callV (q := 65) (o := 1) (av := [.int (zi 58)]) (rest := []) (stk2 := [.int (zi v17)]) C hR clX9 (zon C zo_1) kd_1 (M_fX9_take (zlv hd rfl) ev17) mY_X9_take q_492 (Nat.le_of_ble_eq_true rfl) dX4_readClause_62 rfl rfl rfl ?_
    refine z_if_ne (tgt := 76) (q := 68) C dX4_readClause_65 (by decide) rfl (fun c18 => ?_) (fun c18 => ?_)
    · have hF := (if_neg c18).symm.trans hF
      refine z_aload_n (q := 77) C dX4_readClause_76 1 rfl rfl rfl ?_
      refine z_getf (q := 80) C clX9 (zon C zo_1) kd_1 (k := 3) (by decide) q_48 rfl (zfv_i kd_1 rfl) dX4_readClause_77 rfl ?_
      refine z_iconst (q := 81) C dX4_readClause_80 rfl ?_
      refine z_icmp_ne (tgt := 88) (q := 84) C dX4_readClause_81 (by decide) rfl (fun c21 => ?_) (fun c21 => ?_)
      · have hF := (if_neg c21).symm.trans hF
        refine z_iconst (q := 89) C dX4_readClause_88 rfl ?_
        refine z_istore_n (q := 90) C dX4_readClause_89 (by decide) rfl rfl rfl ?_
        refine z_iconst (q := 91) C dX4_readClause_90 rfl ?_
        refine z_istore_n (q := 92) C dX4_readClause_91 (by decide) rfl rfl rfl ?_
        exact z_sub (J_fX4_readClause_c92 C hR hd e1 e2 N _ _ _ hF) [2, 3, 1, 0] rfl
      · have hF := (if_pos c21).symm.trans hF
        refine z_iconst (q := 85) C dX4_readClause_84 rfl ?_
        refine z_goto (q := 89) C dX4_readClause_85 (by decide) ?_
        refine z_istore_n (q := 90) C dX4_readClause_89 (by decide) rfl rfl rfl ?_
        refine z_iconst (q := 91) C dX4_readClause_90 rfl ?_
        refine z_istore_n (q := 92) C dX4_readClause_91 (by decide) rfl rfl rfl ?_
        exact z_sub (J_fX4_readClause_c92 C hR hd e1 e2 N _ _ _ hF) [2, 3, 1, 0] rfl
    · have hF := (if_pos c18).symm.trans hF
      refine z_aload_n (q := 69) C dX4_readClause_68 1 rfl rfl rfl ?_
      refine z_aload_n (q := 70) C dX4_readClause_69 1 rfl rfl rfl ?_
      refine z_getf (q := 73) C clX9 (zon C zo_1) kd_1 (k := 2) (by decide) q_44 rfl (zfv_i kd_1 rfl) dX4_readClause_70 rfl ?_
      obtain ⟨h19, eh19, hF⟩ := zlet_e hF
      refine z_callV (q := 76) (o := 1) (av := [.int (zi (h16 1 2))]) (rest := []) (stk2 := []) C hR clX9 (zon C zo_1) kd_1 (M_fX9_blame (zlv hd rfl) eh19.symm) mY_X9_blame q_493 (Nat.le_of_ble_eq_true rfl) dX4_readClause_73 rfl rfl rfl ?_
      refine z_aload_n (q := 77) C dX4_readClause_76 1 rfl rfl rfl ?_
      refine z_getf (q := 80) C clX9 (zon C zo_1) kd_1 (k := 3) (by decide) q_48 rfl (zfv_i kd_1 rfl) dX4_readClause_77 rfl ?_
      refine z_iconst (q := 81) C dX4_readClause_80 rfl ?_
      refine z_icmp_ne (tgt := 88) (q := 84) C dX4_readClause_81 (by decide) rfl (fun c20 => ?_) (fun c20 => ?_)
      · have hF := (if_neg c20).symm.trans hF
        refine z_iconst (q := 89) C dX4_readClause_88 rfl ?_
        refine z_istore_n (q := 90) C dX4_readClause_89 (by decide) rfl rfl rfl ?_
        refine z_iconst (q := 91) C dX4_readClause_90 rfl ?_
        refine z_istore_n (q := 92) C dX4_readClause_91 (by decide) rfl rfl rfl ?_
        exact z_sub (J_fX4_readClause_c92 C hR hd e1 e2 N _ _ _ hF) [2, 3, 1, 0] rfl
      · have hF := (if_pos c20).symm.trans hF
        refine z_iconst (q := 85) C dX4_readClause_84 rfl ?_
        refine z_goto (q := 89) C dX4_readClause_85 (by decide) ?_
        refine z_istore_n (q := 90) C dX4_readClause_89 (by decide) rfl rfl rfl ?_
        refine z_iconst (q := 91) C dX4_readClause_90 rfl ?_
        refine z_istore_n (q := 92) C dX4_readClause_91 (by decide) rfl rfl rfl ?_
        exact z_sub (J_fX4_readClause_c92 C hR hd e1 e2 N _ _ _ hF) [2, 3, 1, 0] rfl
set_option maxRecDepth 20000 in
set_option maxHeartbeats 4000000 in
theorem M_fX4_readClause {l : Launch} {D : va_G} {cy : ClassId} {α : Nat → Nat} {n : Nat} {σ : zSg} {d : Nat} (hd : 9 ≤ d) {N : Nat} {h : zH} {g : zH} (hF : fX4_readClause N h = some g) : zMet l yX4_readClause cX4_readClause 4 none (zrm d) D cy α n σ [.ref (α 4), .ref (α 1)] h (none) g := by
  obtain ⟨d, rfl⟩ : ∃ e, d = e + 1 := ⟨d - 1, by omega⟩
  refine z_met (by decide +kernel) (Nat.le_of_ble_eq_true rfl) (fun κ k1 k2 k3 k4 k5 k6 k7 k8 k9 C => ?_)
  subst k1 k3 k4 k5 k6 k7
  exact J_fX4_readClause C k2 hd k8 k9 hF
set_option maxRecDepth 20000 in
set_option maxHeartbeats 4000000 in
theorem J_fX4_read_c16b {κ : zT} (C : zC κ RX4 cX4_read 3 (some .int)) {d : Nat} (hR : zR κ = zrm (d + 1)) (hd : 10 ≤ d + 1) {N : Nat} {r : Int × zH} (e1 : zrv κ = some (.int (zi r.1))) (e2 : zhf κ = r.2) {K16 : Int → zH → Option (Int × zH)} (hK16 : ∀ (l2 : Int) (h : zH), K16 l2 h = some r → Z κ h 16 [(0, .ref (zα κ 4)), (1, .ref (zα κ 1)), (2, .int (zi l2))] []) (l2 : Int) (h : zH) (hF : fX4_read_c16b N K16 l2 h = some r) : Z κ h 16 [(0, .ref (zα κ 4)), (1, .ref (zα κ 1)), (2, .int (zi l2))] [] := by
  unfold fX4_read_c16b at hF
  refine z_iload_n (q := 17) C dX4_read_16 2 rfl rfl rfl ?_
  refine z_sipush (q := 20) C dX4_read_17 sp_240 rfl ?_
  refine z_icmp_ge (tgt := 43) (q := 23) C dX4_read_20 (by decide) rfl (fun c1 => ?_) (fun c1 => ?_)
  · have hF := (if_pos c1).symm.trans hF
    refine z_aload_n (q := 44) C dX4_read_43 1 rfl rfl rfl ?_
    obtain ⟨v3, h2, ev3, hF⟩ := z2_e hF
    refine z_callV (q := 47) (o := 1) (av := []) (rest := []) (stk2 := [.int (zi v3)]) C hR clX9 (zon C zo_1) kd_1 (M_fX9_close (zlv hd rfl) ev3) mY_X9_close q_544 (Nat.le_of_ble_eq_true rfl) dX4_read_44 rfl rfl rfl ?_
    have hF := Option.some.inj hF
    subst hF
    exact z_iret C e1 e2 dX4_read_47
  · have hF := (if_neg c1).symm.trans hF
    refine z_aload_n (q := 24) C dX4_read_23 1 rfl rfl rfl ?_
    refine z_bipush (q := 26) C dX4_read_24 bp_59 rfl ?_
    obtain ⟨v5, h4, ev5, hF⟩ := z2_e hF
    refine z_callV (q := 29) (o := 1) (av := [.int (zi 59)]) (rest := []) (stk2 := [.int (zi v5)]) C hR clX9 (zon C zo_1) kd_1 (M_fX9_take (zlv hd rfl) ev5) mY_X9_take q_492 (Nat.le_of_ble_eq_true rfl) dX4_read_26 rfl rfl rfl ?_
    refine z_if_eq (tgt := 43) (q := 32) C dX4_read_29 (by decide) rfl (fun c6 => ?_) (fun c6 => ?_)
    · have hF := (if_pos c6).symm.trans hF
      refine z_aload_n (q := 44) C dX4_read_43 1 rfl rfl rfl ?_
      obtain ⟨v8, h7, ev8, hF⟩ := z2_e hF
      refine z_callV (q := 47) (o := 1) (av := []) (rest := []) (stk2 := [.int (zi v8)]) C hR clX9 (zon C zo_1) kd_1 (M_fX9_close (zlv hd rfl) ev8) mY_X9_close q_544 (Nat.le_of_ble_eq_true rfl) dX4_read_44 rfl rfl rfl ?_
      have hF := Option.some.inj hF
      subst hF
      exact z_iret C e1 e2 dX4_read_47
    · have hF := (if_neg c6).symm.trans hF
      refine z_aload_n (q := 33) C dX4_read_32 0 rfl rfl rfl ?_
      refine z_aload_n (q := 34) C dX4_read_33 1 rfl rfl rfl ?_
      obtain ⟨h9, eh9, hF⟩ := zb_e hF
      refine z_callV (q := 37) (o := 4) (av := [.ref (zα κ 1)]) (rest := []) (stk2 := []) C hR clX4 (zon C zo_4) kd_4 (M_fX4_readClause (zlv hd rfl) eh9) mY_X4_readClause q_488 (Nat.le_of_ble_eq_true rfl) dX4_read_34 rfl rfl rfl ?_
      refine z_iinc (q := 40) (x := l2) C dX4_read_37 (j := 2) rfl (by decide) rfl rfl ?_
      refine z_goto (q := 16) C dX4_read_40 (by decide) ?_
      exact z_sub (hK16 _ _ hF) [1, 2, 0] rfl
set_option maxRecDepth 20000 in
set_option maxHeartbeats 4000000 in
theorem J_fX4_read_c16 {κ : zT} (C : zC κ RX4 cX4_read 3 (some .int)) {d : Nat} (hR : zR κ = zrm (d + 1)) (hd : 10 ≤ d + 1) {N : Nat} {r : Int × zH} (e1 : zrv κ = some (.int (zi r.1))) (e2 : zhf κ = r.2) : ∀ (k : Nat) (l2 : Int) (h : zH), fX4_read_c16 N k l2 h = some r → Z κ h 16 [(0, .ref (zα κ 4)), (1, .ref (zα κ 1)), (2, .int (zi l2))] [] := by
  intro k
  induction k with
  | zero => intro l2 h hF; cases hF
  | succ k ih => intro l2 h hF; exact J_fX4_read_c16b C hR hd e1 e2 ih l2 h hF
set_option maxRecDepth 20000 in
set_option maxHeartbeats 4000000 in
theorem J_fX4_read {κ : zT} (C : zC κ RX4 cX4_read 3 (some .int)) {d : Nat} (hR : zR κ = zrm (d + 1)) (hd : 10 ≤ d + 1) {N : Nat} {r : Int × zH} (e1 : zrv κ = some (.int (zi r.1))) (e2 : zhf κ = r.2) {h : zH} (hF : fX4_read N h = some r) : Z κ h 0 [(0, .ref (zα κ 4)), (1, .ref (zα κ 1))] [] := by
  unfold fX4_read at hF
  refine z_aload_n (q := 1) C dX4_read_0 1 rfl rfl rfl ?_
  obtain ⟨h1, eh1, hF⟩ := zlet_e hF
  refine z_callV (q := 4) (o := 1) (av := []) (rest := []) (stk2 := []) C hR clX9 (zon C zo_1) kd_1 (M_fX9_rewind (zlv hd rfl) eh1.symm) mY_X9_rewind q_487 (Nat.le_of_ble_eq_true rfl) dX4_read_1 rfl rfl rfl ?_
  refine z_aload_n (q := 5) C dX4_read_4 0 rfl rfl rfl ?_
  refine z_iconst (q := 6) C dX4_read_5 rfl ?_
  obtain ⟨h2, eh2, hF⟩ := zlet_e hF
  refine z_putf (q := 9) C clX4 (zon C zo_4) kd_4 (k := 1) (x := 0) (by decide) q_84 rfl rfl rfl rfl (((zfv_i kd_4 rfl)).trans (by rw [if_pos rfl])) dX4_read_6 rfl eh2 ?_
  refine z_aload_n (q := 10) C dX4_read_9 0 rfl rfl rfl ?_
  refine z_aload_n (q := 11) C dX4_read_10 1 rfl rfl rfl ?_
  obtain ⟨h3, eh3, hF⟩ := zb_e hF
  refine z_callV (q := 14) (o := 4) (av := [.ref (zα κ 1)]) (rest := []) (stk2 := []) C hR clX4 (zon C zo_4) kd_4 (M_fX4_readClause (zlv hd rfl) eh3) mY_X4_readClause q_488 (Nat.le_of_ble_eq_true rfl) dX4_read_11 rfl rfl rfl ?_
  refine z_iconst (q := 15) C dX4_read_14 rfl ?_
  refine z_istore_n (q := 16) C dX4_read_15 (by decide) rfl rfl rfl ?_
  exact z_sub (J_fX4_read_c16 C hR hd e1 e2 N _ _ hF) [1, 2, 0] rfl
set_option maxRecDepth 20000 in
set_option maxHeartbeats 4000000 in
theorem M_fX4_read {l : Launch} {D : va_G} {cy : ClassId} {α : Nat → Nat} {n : Nat} {σ : zSg} {d : Nat} (hd : 10 ≤ d) {N : Nat} {h : zH} {r : Int} {g : zH} (hF : fX4_read N h = some (r, g)) : zMet l yX4_read cX4_read 3 (some .int) (zrm d) D cy α n σ [.ref (α 4), .ref (α 1)] h (some (.int (zi r))) g := by
  obtain ⟨d, rfl⟩ : ∃ e, d = e + 1 := ⟨d - 1, by omega⟩
  refine z_met (by decide +kernel) (Nat.le_of_ble_eq_true rfl) (fun κ k1 k2 k3 k4 k5 k6 k7 k8 k9 C => ?_)
  subst k1 k3 k4 k5 k6 k7
  exact J_fX4_read C k2 hd k8 k9 hF
set_option maxRecDepth 20000 in
set_option maxHeartbeats 4000000 in
theorem J_fX2_readDigit {κ : zT} (C : zC κ RX2 cX2_readDigit 2 (some .int)) {d : Nat} (hR : zR κ = zrm (d + 1)) (hd : 3 ≤ d + 1) {N : Nat} {r : Int × zH} (e1 : zrv κ = some (.int (zi r.1))) (e2 : zhf κ = r.2) {h : zH} (hF : fX2_readDigit N h = some r) : Z κ h 0 [(0, .ref (zα κ 1))] [] := by
  unfold fX2_readDigit at hF
  refine z_aload_n (q := 1) C dX2_readDigit_0 0 rfl rfl rfl ?_
  obtain ⟨v2, h1, ev2, hF⟩ := z2_e hF
  refine z_callV (q := 4) (o := 1) (av := []) (rest := []) (stk2 := [.int (zi v2)]) C hR clX9 (zon C zo_1) kd_1 (M_fX9_next (zlv hd rfl) ev2) mY_X9_next q_555 (Nat.le_of_ble_eq_true rfl) dX2_readDigit_1 rfl rfl rfl ?_
  refine z_istore_n (q := 5) C dX2_readDigit_4 (by decide) rfl rfl rfl ?_
  refine z_iload_n (q := 6) C dX2_readDigit_5 0 rfl rfl rfl ?_
  refine z_callS (q := 9) (av := [.int (zi v2)]) (rest := []) (stk2 := [.int (zi (fX9_isDigit v2))]) C hR (M_fX9_isDigit (zlv hd rfl) rfl) mY_X9_isDigit q_562 (Nat.le_of_ble_eq_true rfl) dX2_readDigit_6 rfl rfl rfl ?_
  refine z_if_ne (tgt := 22) (q := 12) C dX2_readDigit_9 (by decide) rfl (fun c3 => ?_) (fun c3 => ?_)
  · have hF := (if_neg c3).symm.trans hF
    refine z_aload_n (q := 23) C dX2_readDigit_22 1 rfl rfl rfl ?_
    refine z_dup (q := 24) C dX2_readDigit_23 rfl rfl ?_
    refine z_getf (q := 27) C clX9 (zon C zo_1) kd_1 (k := 2) (by decide) q_43 rfl (zfv_i kd_1 rfl) dX2_readDigit_24 rfl ?_
    refine z_iconst (q := 28) C dX2_readDigit_27 rfl ?_
    refine z_iadd (q := 29) C dX2_readDigit_28 rfl ?_
    obtain ⟨h5, eh5, hF⟩ := zlet_e hF
    refine z_putf (q := 32) C clX9 (zon C zo_1) kd_1 (k := 2) (x := (h1 1 2) + 1) (by decide) q_43 rfl rfl rfl rfl (((zfv_i kd_1 rfl)).trans (by rw [if_pos rfl])) dX2_readDigit_29 rfl eh5 ?_
    refine z_iload_n (q := 33) C dX2_readDigit_32 0 rfl rfl rfl ?_
    refine z_bipush (q := 35) C dX2_readDigit_33 bp_48 rfl ?_
    refine z_isub (q := 36) C dX2_readDigit_35 rfl ?_
    have hF := Option.some.inj hF
    subst hF
    exact z_iret C e1 e2 dX2_readDigit_36
  · have hF := (if_pos c3).symm.trans hF
    refine z_aload_n (q := 13) C dX2_readDigit_12 1 rfl rfl rfl ?_
    refine z_aload_n (q := 14) C dX2_readDigit_13 1 rfl rfl rfl ?_
    refine z_getf (q := 17) C clX9 (zon C zo_1) kd_1 (k := 2) (by decide) q_43 rfl (zfv_i kd_1 rfl) dX2_readDigit_14 rfl ?_
    obtain ⟨h4, eh4, hF⟩ := zlet_e hF
    refine z_callV (q := 20) (o := 1) (av := [.int (zi (h1 1 2))]) (rest := []) (stk2 := []) C hR clX9 (zon C zo_1) kd_1 (M_fX9_blame (zlv hd rfl) eh4.symm) mY_X9_blame q_557 (Nat.le_of_ble_eq_true rfl) dX2_readDigit_17 rfl rfl rfl ?_
    refine z_iconst (q := 21) C dX2_readDigit_20 rfl ?_
    have hF := Option.some.inj hF
    subst hF
    exact z_iret C e1 e2 dX2_readDigit_21
set_option maxRecDepth 20000 in
set_option maxHeartbeats 4000000 in
theorem M_fX2_readDigit {l : Launch} {D : va_G} {cy : ClassId} {α : Nat → Nat} {n : Nat} {σ : zSg} {d : Nat} (hd : 3 ≤ d) {N : Nat} {h : zH} {r : Int} {g : zH} (hF : fX2_readDigit N h = some (r, g)) : zMet l yX2_readDigit cX2_readDigit 2 (some .int) (zrm d) D cy α n σ [.ref (α 1)] h (some (.int (zi r))) g := by
  obtain ⟨d, rfl⟩ : ∃ e, d = e + 1 := ⟨d - 1, by omega⟩
  refine z_met (by decide +kernel) (Nat.le_of_ble_eq_true rfl) (fun κ k1 k2 k3 k4 k5 k6 k7 k8 k9 C => ?_)
  subst k1 k3 k4 k5 k6 k7
  exact J_fX2_readDigit C k2 hd k8 k9 hF
set_option maxRecDepth 20000 in
set_option maxHeartbeats 4000000 in
theorem J_fX2_readStep_c72 {κ : zT} (C : zC κ RX2 cX2_readStep 3 none) {d : Nat} (hR : zR κ = zrm (d + 1)) (hd : 8 ≤ d + 1) {N : Nat} {r : zH} (e1 : zrv κ = none) (e2 : zhf κ = r) (l2 : Int) (s0 : Int) (s1 : Int) (h : zH) (hF : fX2_readStep_c72 N l2 s0 s1 h = some r) : Z κ h 72 [(0, .ref (zα κ 6)), (1, .ref (zα κ 1)), (2, .int (zi l2))] [.int (zi s0), .int (zi s1), .ref (zα κ 29)] := by
  unfold fX2_readStep_c72 at hF
  obtain ⟨h1, eh1, hF⟩ := zlet_e hF
  refine z_callSN (q := 75) (av := [.ref (zα κ 29), .int (zi s1), .int (zi s0)]) (rest := []) (stk2 := []) C hR (M_fX10_put (zlv hd rfl) zo_29 kd_29 eh1.symm) mY_X10_put q_558 (Nat.le_of_ble_eq_true rfl) dX2_readStep_72 rfl rfl rfl ?_
  refine z_aload_n (q := 76) C dX2_readStep_75 0 rfl rfl rfl ?_
  refine z_getf (q := 79) C clX2 (zon C zo_6) kd_6 (k := 3) (by decide) q_162 rfl (zfv_r kd_6 rfl fr_6_3) dX2_readStep_76 rfl ?_
  refine z_aload_n (q := 80) C dX2_readStep_79 0 rfl rfl rfl ?_
  refine z_getf (q := 83) C clX2 (zon C zo_6) kd_6 (k := 4) (by decide) q_163 rfl (zfv_i kd_6 rfl) dX2_readStep_80 rfl ?_
  refine z_iconst (q := 84) C dX2_readStep_83 rfl ?_
  refine z_imul (q := 85) C dX2_readStep_84 rfl ?_
  refine z_iconst (q := 86) C dX2_readStep_85 rfl ?_
  refine z_iadd (q := 87) C dX2_readStep_86 rfl ?_
  refine z_iload_n (q := 88) C dX2_readStep_87 2 rfl rfl rfl ?_
  refine z_if_ne (tgt := 98) (q := 91) C dX2_readStep_88 (by decide) rfl (fun c2 => ?_) (fun c2 => ?_)
  · have hF := (if_neg c2).symm.trans hF
    refine z_iconst (q := 99) C dX2_readStep_98 rfl ?_
    obtain ⟨h7, eh7, hF⟩ := zlet_e hF
    refine z_callSN (q := 102) (av := [.ref (zα κ 29), .int (zi (((h1 6 4) * 3) + 2)), .int (zi (-1))]) (rest := []) (stk2 := []) C hR (M_fX10_put (zlv hd rfl) zo_29 kd_29 eh7.symm) mY_X10_put q_558 (Nat.le_of_ble_eq_true rfl) dX2_readStep_99 rfl rfl rfl ?_
    refine z_aload_n (q := 103) C dX2_readStep_102 0 rfl rfl rfl ?_
    refine z_dup (q := 104) C dX2_readStep_103 rfl rfl ?_
    refine z_getf (q := 107) C clX2 (zon C zo_6) kd_6 (k := 4) (by decide) q_163 rfl (zfv_i kd_6 rfl) dX2_readStep_104 rfl ?_
    refine z_iconst (q := 108) C dX2_readStep_107 rfl ?_
    refine z_iadd (q := 109) C dX2_readStep_108 rfl ?_
    obtain ⟨h8, eh8, hF⟩ := zlet_e hF
    refine z_putf (q := 112) C clX2 (zon C zo_6) kd_6 (k := 4) (x := (h7 6 4) + 1) (by decide) q_163 rfl rfl rfl rfl (((zfv_i kd_6 rfl)).trans (by rw [if_pos rfl])) dX2_readStep_109 rfl eh8 ?_
    have hF := Option.some.inj hF
    subst hF
    exact z_vret C e1 e2 dX2_readStep_112
  · have hF := (if_pos c2).symm.trans hF
    refine z_aload_n (q := 92) C dX2_readStep_91 1 rfl rfl rfl ?_
    obtain ⟨v4, h3, ev4, hF⟩ := z2_e hF
    refine z_callS (q := 95) (av := [.ref (zα κ 1)]) (rest := [.int (zi (((h1 6 4) * 3) + 2)), .ref (zα κ 29)]) (stk2 := [.int (zi v4), .int (zi (((h1 6 4) * 3) + 2)), .ref (zα κ 29)]) C hR (M_fX2_readDigit (zlv hd rfl) ev4) mY_X2_readDigit q_559 (Nat.le_of_ble_eq_true rfl) dX2_readStep_92 rfl rfl rfl ?_
    refine z_goto (q := 99) C dX2_readStep_95 (by decide) ?_
    obtain ⟨h5, eh5, hF⟩ := zlet_e hF
    refine z_callSN (q := 102) (av := [.ref (zα κ 29), .int (zi (((h1 6 4) * 3) + 2)), .int (zi v4)]) (rest := []) (stk2 := []) C hR (M_fX10_put (zlv hd rfl) zo_29 kd_29 eh5.symm) mY_X10_put q_558 (Nat.le_of_ble_eq_true rfl) dX2_readStep_99 rfl rfl rfl ?_
    refine z_aload_n (q := 103) C dX2_readStep_102 0 rfl rfl rfl ?_
    refine z_dup (q := 104) C dX2_readStep_103 rfl rfl ?_
    refine z_getf (q := 107) C clX2 (zon C zo_6) kd_6 (k := 4) (by decide) q_163 rfl (zfv_i kd_6 rfl) dX2_readStep_104 rfl ?_
    refine z_iconst (q := 108) C dX2_readStep_107 rfl ?_
    refine z_iadd (q := 109) C dX2_readStep_108 rfl ?_
    obtain ⟨h6, eh6, hF⟩ := zlet_e hF
    refine z_putf (q := 112) C clX2 (zon C zo_6) kd_6 (k := 4) (x := (h5 6 4) + 1) (by decide) q_163 rfl rfl rfl rfl (((zfv_i kd_6 rfl)).trans (by rw [if_pos rfl])) dX2_readStep_109 rfl eh6 ?_
    have hF := Option.some.inj hF
    subst hF
    exact z_vret C e1 e2 dX2_readStep_112
set_option maxRecDepth 20000 in
set_option maxHeartbeats 4000000 in
theorem J_fX2_readStep {κ : zT} (C : zC κ RX2 cX2_readStep 3 none) {d : Nat} (hR : zR κ = zrm (d + 1)) (hd : 8 ≤ d + 1) {N : Nat} {r : zH} (e1 : zrv κ = none) (e2 : zhf κ = r) {h : zH} (hF : fX2_readStep N h = some r) : Z κ h 0 [(0, .ref (zα κ 6)), (1, .ref (zα κ 1))] [] := by
  unfold fX2_readStep at hF
  refine z_ldcS (q := 2) (i := 3) C (by decide) rfl rfl dX2_readStep_0 rfl ?_
  refine z_aload_n (q := 3) C dX2_readStep_2 1 rfl rfl rfl ?_
  obtain ⟨v2, h1, ev2, hF⟩ := z2_e hF
  refine z_callV (q := 6) (o := 1) (av := []) (rest := [.ref ((zσ κ).2.1 3)]) (stk2 := [.int (zi v2), .ref ((zσ κ).2.1 3)]) C hR clX9 (zon C zo_1) kd_1 (M_fX9_next (zlv hd rfl) ev2) mY_X9_next q_555 (Nat.le_of_ble_eq_true rfl) dX2_readStep_3 rfl rfl rfl ?_
  obtain ⟨v3, ev3, hF⟩ := zb_e hF
  refine z_callSN (q := 9) (av := [.ref ((zσ κ).2.1 3), .int (zi v2)]) (rest := []) (stk2 := [.int (zi v3)]) C hR (M_fX10_placeIn (zlv hd rfl) (by decide) ev3) mY_X10_placeIn q_556 (Nat.le_of_ble_eq_true rfl) dX2_readStep_6 rfl rfl rfl ?_
  refine z_istore_n (q := 10) C dX2_readStep_9 (by decide) rfl rfl rfl ?_
  refine z_iload_n (q := 11) C dX2_readStep_10 0 rfl rfl rfl ?_
  refine z_if_ge (tgt := 23) (q := 14) C dX2_readStep_11 (by decide) rfl (fun c4 => ?_) (fun c4 => ?_)
  · have hF := (if_pos c4).symm.trans hF
    refine z_aload_n (q := 24) C dX2_readStep_23 2 rfl rfl rfl ?_
    refine z_dup (q := 25) C dX2_readStep_24 rfl rfl ?_
    refine z_getf (q := 28) C clX9 (zon C zo_1) kd_1 (k := 2) (by decide) q_43 rfl (zfv_i kd_1 rfl) dX2_readStep_25 rfl ?_
    refine z_iconst (q := 29) C dX2_readStep_28 rfl ?_
    refine z_iadd (q := 30) C dX2_readStep_29 rfl ?_
    obtain ⟨h5, eh5, hF⟩ := zlet_e hF
    refine z_putf (q := 33) C clX9 (zon C zo_1) kd_1 (k := 2) (x := (h1 1 2) + 1) (by decide) q_43 rfl rfl rfl rfl (((zfv_i kd_1 rfl)).trans (by rw [if_pos rfl])) dX2_readStep_30 rfl eh5 ?_
    refine z_aload_n (q := 34) C dX2_readStep_33 1 rfl rfl rfl ?_
    refine z_getf (q := 37) C clX2 (zon C zo_6) kd_6 (k := 3) (by decide) q_162 rfl (zfv_r kd_6 rfl fr_6_3) dX2_readStep_34 rfl ?_
    refine z_aload_n (q := 38) C dX2_readStep_37 1 rfl rfl rfl ?_
    refine z_getf (q := 41) C clX2 (zon C zo_6) kd_6 (k := 4) (by decide) q_163 rfl (zfv_i kd_6 rfl) dX2_readStep_38 rfl ?_
    refine z_iconst (q := 42) C dX2_readStep_41 rfl ?_
    refine z_imul (q := 43) C dX2_readStep_42 rfl ?_
    refine z_iload_n (q := 44) C dX2_readStep_43 0 rfl rfl rfl ?_
    obtain ⟨h6, eh6, hF⟩ := zlet_e hF
    refine z_callSN (q := 47) (av := [.ref (zα κ 29), .int (zi ((h5 6 4) * 3)), .int (zi v3)]) (rest := []) (stk2 := []) C hR (M_fX10_put (zlv hd rfl) zo_29 kd_29 eh6.symm) mY_X10_put q_558 (Nat.le_of_ble_eq_true rfl) dX2_readStep_44 rfl rfl rfl ?_
    refine z_aload_n (q := 48) C dX2_readStep_47 1 rfl rfl rfl ?_
    refine z_getf (q := 51) C clX2 (zon C zo_6) kd_6 (k := 3) (by decide) q_162 rfl (zfv_r kd_6 rfl fr_6_3) dX2_readStep_48 rfl ?_
    refine z_aload_n (q := 52) C dX2_readStep_51 1 rfl rfl rfl ?_
    refine z_getf (q := 55) C clX2 (zon C zo_6) kd_6 (k := 4) (by decide) q_163 rfl (zfv_i kd_6 rfl) dX2_readStep_52 rfl ?_
    refine z_iconst (q := 56) C dX2_readStep_55 rfl ?_
    refine z_imul (q := 57) C dX2_readStep_56 rfl ?_
    refine z_iconst (q := 58) C dX2_readStep_57 rfl ?_
    refine z_iadd (q := 59) C dX2_readStep_58 rfl ?_
    refine z_iload_n (q := 60) C dX2_readStep_59 0 rfl rfl rfl ?_
    refine z_iconst (q := 61) C dX2_readStep_60 rfl ?_
    refine z_icmp_ne (tgt := 68) (q := 64) C dX2_readStep_61 (by decide) rfl (fun c7 => ?_) (fun c7 => ?_)
    · have hF := (if_neg c7).symm.trans hF
      refine z_aload_n (q := 69) C dX2_readStep_68 2 rfl rfl rfl ?_
      obtain ⟨v9, h8, ev9, hF⟩ := z2_e hF
      refine z_callS (q := 72) (av := [.ref (zα κ 1)]) (rest := [.int (zi (((h6 6 4) * 3) + 1)), .ref (zα κ 29)]) (stk2 := [.int (zi v9), .int (zi (((h6 6 4) * 3) + 1)), .ref (zα κ 29)]) C hR (M_fX2_readDigit (zlv hd rfl) ev9) mY_X2_readDigit q_559 (Nat.le_of_ble_eq_true rfl) dX2_readStep_69 rfl rfl rfl ?_
      exact z_sub (J_fX2_readStep_c72 C hR hd e1 e2 _ _ _ _ hF) [1, 2, 0] rfl
    · have hF := (if_pos c7).symm.trans hF
      refine z_iconst (q := 65) C dX2_readStep_64 rfl ?_
      refine z_goto (q := 72) C dX2_readStep_65 (by decide) ?_
      exact z_sub (J_fX2_readStep_c72 C hR hd e1 e2 _ _ _ _ hF) [1, 2, 0] rfl
  · have hF := (if_neg c4).symm.trans hF
    refine z_aload_n (q := 15) C dX2_readStep_14 2 rfl rfl rfl ?_
    refine z_aload_n (q := 16) C dX2_readStep_15 2 rfl rfl rfl ?_
    refine z_getf (q := 19) C clX9 (zon C zo_1) kd_1 (k := 2) (by decide) q_43 rfl (zfv_i kd_1 rfl) dX2_readStep_16 rfl ?_
    obtain ⟨h10, eh10, hF⟩ := zlet_e hF
    refine z_callV (q := 22) (o := 1) (av := [.int (zi (h1 1 2))]) (rest := []) (stk2 := []) C hR clX9 (zon C zo_1) kd_1 (M_fX9_blame (zlv hd rfl) eh10.symm) mY_X9_blame q_557 (Nat.le_of_ble_eq_true rfl) dX2_readStep_19 rfl rfl rfl ?_
    have hF := Option.some.inj hF
    subst hF
    exact z_vret C e1 e2 dX2_readStep_22
set_option maxRecDepth 20000 in
set_option maxHeartbeats 4000000 in
theorem M_fX2_readStep {l : Launch} {D : va_G} {cy : ClassId} {α : Nat → Nat} {n : Nat} {σ : zSg} {d : Nat} (hd : 8 ≤ d) {N : Nat} {h : zH} {g : zH} (hF : fX2_readStep N h = some g) : zMet l yX2_readStep cX2_readStep 3 none (zrm d) D cy α n σ [.ref (α 6), .ref (α 1)] h (none) g := by
  obtain ⟨d, rfl⟩ : ∃ e, d = e + 1 := ⟨d - 1, by omega⟩
  refine z_met (by decide +kernel) (Nat.le_of_ble_eq_true rfl) (fun κ k1 k2 k3 k4 k5 k6 k7 k8 k9 C => ?_)
  subst k1 k3 k4 k5 k6 k7
  exact J_fX2_readStep C k2 hd k8 k9 hF
set_option maxRecDepth 20000 in
set_option maxHeartbeats 4000000 in
theorem J_fX2_read_c16b {κ : zT} (C : zC κ RX2 cX2_read 3 (some .int)) {d : Nat} (hR : zR κ = zrm (d + 1)) (hd : 9 ≤ d + 1) {N : Nat} {r : Int × zH} (e1 : zrv κ = some (.int (zi r.1))) (e2 : zhf κ = r.2) {K16 : Int → zH → Option (Int × zH)} (hK16 : ∀ (l2 : Int) (h : zH), K16 l2 h = some r → Z κ h 16 [(0, .ref (zα κ 6)), (1, .ref (zα κ 1)), (2, .int (zi l2))] []) (l2 : Int) (h : zH) (hF : fX2_read_c16b N K16 l2 h = some r) : Z κ h 16 [(0, .ref (zα κ 6)), (1, .ref (zα κ 1)), (2, .int (zi l2))] [] := by
  unfold fX2_read_c16b at hF
  refine z_iload_n (q := 17) C dX2_read_16 2 rfl rfl rfl ?_
  refine z_bipush (q := 19) C dX2_read_17 bp_16 rfl ?_
  refine z_icmp_ge (tgt := 42) (q := 22) C dX2_read_19 (by decide) rfl (fun c1 => ?_) (fun c1 => ?_)
  · have hF := (if_pos c1).symm.trans hF
    refine z_aload_n (q := 43) C dX2_read_42 1 rfl rfl rfl ?_
    obtain ⟨v3, h2, ev3, hF⟩ := z2_e hF
    refine z_callV (q := 46) (o := 1) (av := []) (rest := []) (stk2 := [.int (zi v3)]) C hR clX9 (zon C zo_1) kd_1 (M_fX9_close (zlv hd rfl) ev3) mY_X9_close q_564 (Nat.le_of_ble_eq_true rfl) dX2_read_43 rfl rfl rfl ?_
    have hF := Option.some.inj hF
    subst hF
    exact z_iret C e1 e2 dX2_read_46
  · have hF := (if_neg c1).symm.trans hF
    refine z_aload_n (q := 23) C dX2_read_22 1 rfl rfl rfl ?_
    refine z_bipush (q := 25) C dX2_read_23 bp_59 rfl ?_
    obtain ⟨v5, h4, ev5, hF⟩ := z2_e hF
    refine z_callV (q := 28) (o := 1) (av := [.int (zi 59)]) (rest := []) (stk2 := [.int (zi v5)]) C hR clX9 (zon C zo_1) kd_1 (M_fX9_take (zlv hd rfl) ev5) mY_X9_take q_563 (Nat.le_of_ble_eq_true rfl) dX2_read_25 rfl rfl rfl ?_
    refine z_if_eq (tgt := 42) (q := 31) C dX2_read_28 (by decide) rfl (fun c6 => ?_) (fun c6 => ?_)
    · have hF := (if_pos c6).symm.trans hF
      refine z_aload_n (q := 43) C dX2_read_42 1 rfl rfl rfl ?_
      obtain ⟨v8, h7, ev8, hF⟩ := z2_e hF
      refine z_callV (q := 46) (o := 1) (av := []) (rest := []) (stk2 := [.int (zi v8)]) C hR clX9 (zon C zo_1) kd_1 (M_fX9_close (zlv hd rfl) ev8) mY_X9_close q_564 (Nat.le_of_ble_eq_true rfl) dX2_read_43 rfl rfl rfl ?_
      have hF := Option.some.inj hF
      subst hF
      exact z_iret C e1 e2 dX2_read_46
    · have hF := (if_neg c6).symm.trans hF
      refine z_aload_n (q := 32) C dX2_read_31 0 rfl rfl rfl ?_
      refine z_aload_n (q := 33) C dX2_read_32 1 rfl rfl rfl ?_
      obtain ⟨h9, eh9, hF⟩ := zb_e hF
      refine z_callV (q := 36) (o := 6) (av := [.ref (zα κ 1)]) (rest := []) (stk2 := []) C hR clX2 (zon C zo_6) kd_6 (M_fX2_readStep (zlv hd rfl) eh9) mY_X2_readStep q_550 (Nat.le_of_ble_eq_true rfl) dX2_read_33 rfl rfl rfl ?_
      refine z_iinc (q := 39) (x := l2) C dX2_read_36 (j := 2) rfl (by decide) rfl rfl ?_
      refine z_goto (q := 16) C dX2_read_39 (by decide) ?_
      exact z_sub (hK16 _ _ hF) [1, 2, 0] rfl
set_option maxRecDepth 20000 in
set_option maxHeartbeats 4000000 in
theorem J_fX2_read_c16 {κ : zT} (C : zC κ RX2 cX2_read 3 (some .int)) {d : Nat} (hR : zR κ = zrm (d + 1)) (hd : 9 ≤ d + 1) {N : Nat} {r : Int × zH} (e1 : zrv κ = some (.int (zi r.1))) (e2 : zhf κ = r.2) : ∀ (k : Nat) (l2 : Int) (h : zH), fX2_read_c16 N k l2 h = some r → Z κ h 16 [(0, .ref (zα κ 6)), (1, .ref (zα κ 1)), (2, .int (zi l2))] [] := by
  intro k
  induction k with
  | zero => intro l2 h hF; cases hF
  | succ k ih => intro l2 h hF; exact J_fX2_read_c16b C hR hd e1 e2 ih l2 h hF
set_option maxRecDepth 20000 in
set_option maxHeartbeats 4000000 in
theorem J_fX2_read {κ : zT} (C : zC κ RX2 cX2_read 3 (some .int)) {d : Nat} (hR : zR κ = zrm (d + 1)) (hd : 9 ≤ d + 1) {N : Nat} {r : Int × zH} (e1 : zrv κ = some (.int (zi r.1))) (e2 : zhf κ = r.2) {h : zH} (hF : fX2_read N h = some r) : Z κ h 0 [(0, .ref (zα κ 6)), (1, .ref (zα κ 1))] [] := by
  unfold fX2_read at hF
  refine z_aload_n (q := 1) C dX2_read_0 1 rfl rfl rfl ?_
  obtain ⟨h1, eh1, hF⟩ := zlet_e hF
  refine z_callV (q := 4) (o := 1) (av := []) (rest := []) (stk2 := []) C hR clX9 (zon C zo_1) kd_1 (M_fX9_rewind (zlv hd rfl) eh1.symm) mY_X9_rewind q_549 (Nat.le_of_ble_eq_true rfl) dX2_read_1 rfl rfl rfl ?_
  refine z_aload_n (q := 5) C dX2_read_4 0 rfl rfl rfl ?_
  refine z_iconst (q := 6) C dX2_read_5 rfl ?_
  obtain ⟨h2, eh2, hF⟩ := zlet_e hF
  refine z_putf (q := 9) C clX2 (zon C zo_6) kd_6 (k := 4) (x := 0) (by decide) q_163 rfl rfl rfl rfl (((zfv_i kd_6 rfl)).trans (by rw [if_pos rfl])) dX2_read_6 rfl eh2 ?_
  refine z_aload_n (q := 10) C dX2_read_9 0 rfl rfl rfl ?_
  refine z_aload_n (q := 11) C dX2_read_10 1 rfl rfl rfl ?_
  obtain ⟨h3, eh3, hF⟩ := zb_e hF
  refine z_callV (q := 14) (o := 6) (av := [.ref (zα κ 1)]) (rest := []) (stk2 := []) C hR clX2 (zon C zo_6) kd_6 (M_fX2_readStep (zlv hd rfl) eh3) mY_X2_readStep q_550 (Nat.le_of_ble_eq_true rfl) dX2_read_11 rfl rfl rfl ?_
  refine z_iconst (q := 15) C dX2_read_14 rfl ?_
  refine z_istore_n (q := 16) C dX2_read_15 (by decide) rfl rfl rfl ?_
  exact z_sub (J_fX2_read_c16 C hR hd e1 e2 N _ _ hF) [1, 2, 0] rfl
set_option maxRecDepth 20000 in
set_option maxHeartbeats 4000000 in
theorem M_fX2_read {l : Launch} {D : va_G} {cy : ClassId} {α : Nat → Nat} {n : Nat} {σ : zSg} {d : Nat} (hd : 9 ≤ d) {N : Nat} {h : zH} {r : Int} {g : zH} (hF : fX2_read N h = some (r, g)) : zMet l yX2_read cX2_read 3 (some .int) (zrm d) D cy α n σ [.ref (α 6), .ref (α 1)] h (some (.int (zi r))) g := by
  obtain ⟨d, rfl⟩ : ∃ e, d = e + 1 := ⟨d - 1, by omega⟩
  refine z_met (by decide +kernel) (Nat.le_of_ble_eq_true rfl) (fun κ k1 k2 k3 k4 k5 k6 k7 k8 k9 C => ?_)
  subst k1 k3 k4 k5 k6 k7
  exact J_fX2_read C k2 hd k8 k9 hF
set_option maxRecDepth 20000 in
set_option maxHeartbeats 4000000 in
theorem J_fX10_fault {κ : zT} (C : zC κ RX10 cX10_fault 2 (some .int)) {d : Nat} (hR : zR κ = zrm (d + 1)) (hd : 11 ≤ d + 1) {N : Nat} {r : Int × zH} (e1 : zrv κ = some (.int (zi r.1))) (e2 : zhf κ = r.2) {a1 : Int} {h : zH} (hF : fX10_fault N a1 h = some r) : Z κ h 0 [(0, .ref (zα κ 0)), (1, .int (zi a1))] [] := by
  unfold fX10_fault at hF
  refine z_iload_n (q := 1) C dX10_fault_0 1 rfl rfl rfl ?_
  refine z_if_ne (tgt := 16) (q := 4) C dX10_fault_1 (by decide) rfl (fun c1 => ?_) (fun c1 => ?_)
  · have hF := (if_neg c1).symm.trans hF
    refine z_iload_n (q := 17) C dX10_fault_16 1 rfl rfl rfl ?_
    refine z_iconst (q := 18) C dX10_fault_17 rfl ?_
    refine z_icmp_ne (tgt := 33) (q := 21) C dX10_fault_18 (by decide) rfl (fun c4 => ?_) (fun c4 => ?_)
    · have hF := (if_neg c4).symm.trans hF
      refine z_iload_n (q := 34) C dX10_fault_33 1 rfl rfl rfl ?_
      refine z_iconst (q := 35) C dX10_fault_34 rfl ?_
      refine z_icmp_ne (tgt := 52) (q := 38) C dX10_fault_35 (by decide) rfl (fun c7 => ?_) (fun c7 => ?_)
      · have hF := (if_neg c7).symm.trans hF
        refine z_bipush (q := 54) C dX10_fault_52 bp_m2 rfl ?_
        have hF := Option.some.inj hF
        subst hF
        exact z_iret C e1 e2 dX10_fault_54
      · have hF := (if_pos c7).symm.trans hF
        refine z_aload_n (q := 39) C dX10_fault_38 0 rfl rfl rfl ?_
        refine z_getf (q := 42) C clX10 (zon C zo_0) kd_0 (k := 5) (by decide) q_276 rfl (zfv_r kd_0 rfl fr_0_5) dX10_fault_39 rfl ?_
        refine z_aload_n (q := 43) C dX10_fault_42 0 rfl rfl rfl ?_
        refine z_getf (q := 46) C clX10 (zon C zo_0) kd_0 (k := 0) (by decide) q_271 rfl (zfv_r kd_0 rfl fr_0_0) dX10_fault_43 rfl ?_
        obtain ⟨v9, h8, ev9, hF⟩ := z2_e hF
        refine z_callV (q := 49) (o := 6) (av := [.ref (zα κ 1)]) (rest := []) (stk2 := [.int (zi v9)]) C hR clX2 (zon C zo_6) kd_6 (M_fX2_read (zlv hd rfl) ev9) mY_X2_read q_545 (Nat.le_of_ble_eq_true rfl) dX10_fault_46 rfl rfl rfl ?_
        refine z_goto (q := 54) C dX10_fault_49 (by decide) ?_
        have hF := Option.some.inj hF
        subst hF
        exact z_iret C e1 e2 dX10_fault_54
    · have hF := (if_pos c4).symm.trans hF
      refine z_aload_n (q := 22) C dX10_fault_21 0 rfl rfl rfl ?_
      refine z_getf (q := 25) C clX10 (zon C zo_0) kd_0 (k := 3) (by decide) q_274 rfl (zfv_r kd_0 rfl fr_0_3) dX10_fault_22 rfl ?_
      refine z_aload_n (q := 26) C dX10_fault_25 0 rfl rfl rfl ?_
      refine z_getf (q := 29) C clX10 (zon C zo_0) kd_0 (k := 0) (by decide) q_271 rfl (zfv_r kd_0 rfl fr_0_0) dX10_fault_26 rfl ?_
      obtain ⟨v6, h5, ev6, hF⟩ := z2_e hF
      refine z_callV (q := 32) (o := 4) (av := [.ref (zα κ 1)]) (rest := []) (stk2 := [.int (zi v6)]) C hR clX4 (zon C zo_4) kd_4 (M_fX4_read (zlv hd rfl) ev6) mY_X4_read q_483 (Nat.le_of_ble_eq_true rfl) dX10_fault_29 rfl rfl rfl ?_
      have hF := Option.some.inj hF
      subst hF
      exact z_iret C e1 e2 dX10_fault_32
  · have hF := (if_pos c1).symm.trans hF
    refine z_aload_n (q := 5) C dX10_fault_4 0 rfl rfl rfl ?_
    refine z_getf (q := 8) C clX10 (zon C zo_0) kd_0 (k := 2) (by decide) q_273 rfl (zfv_r kd_0 rfl fr_0_2) dX10_fault_5 rfl ?_
    refine z_aload_n (q := 9) C dX10_fault_8 0 rfl rfl rfl ?_
    refine z_getf (q := 12) C clX10 (zon C zo_0) kd_0 (k := 0) (by decide) q_271 rfl (zfv_r kd_0 rfl fr_0_0) dX10_fault_9 rfl ?_
    obtain ⟨v3, h2, ev3, hF⟩ := z2_e hF
    refine z_callV (q := 15) (o := 3) (av := [.ref (zα κ 1)]) (rest := []) (stk2 := [.int (zi v3)]) C hR clX1 (zon C zo_3) kd_3 (M_fX1_read (zlv hd rfl) zo_3 kd_3 ev3) mY_X1_read q_342 (Nat.le_of_ble_eq_true rfl) dX10_fault_12 rfl rfl rfl ?_
    have hF := Option.some.inj hF
    subst hF
    exact z_iret C e1 e2 dX10_fault_15
set_option maxRecDepth 20000 in
set_option maxHeartbeats 4000000 in
theorem M_fX10_fault {l : Launch} {D : va_G} {cy : ClassId} {α : Nat → Nat} {n : Nat} {σ : zSg} {d : Nat} (hd : 11 ≤ d) {N : Nat} {a1 : Int} {h : zH} {r : Int} {g : zH} (hF : fX10_fault N a1 h = some (r, g)) : zMet l yX10_fault cX10_fault 2 (some .int) (zrm d) D cy α n σ [.ref (α 0), .int (zi a1)] h (some (.int (zi r))) g := by
  obtain ⟨d, rfl⟩ : ∃ e, d = e + 1 := ⟨d - 1, by omega⟩
  refine z_met (by decide +kernel) (Nat.le_of_ble_eq_true rfl) (fun κ k1 k2 k3 k4 k5 k6 k7 k8 k9 C => ?_)
  subst k1 k3 k4 k5 k6 k7
  exact J_fX10_fault C k2 hd k8 k9 hF
set_option maxRecDepth 20000 in
set_option maxHeartbeats 4000000 in
theorem J_fX5_add_c12b {κ : zT} (C : zC κ RX5 cX5_add 3 (some .int)) {d : Nat} (hR : zR κ = zrm (d + 1)) (hd : 2 ≤ d + 1) {N : Nat} {r : Int × zH} (e1 : zrv κ = some (.int (zi r.1))) (e2 : zhf κ = r.2) {K12 : Int → zH → Option (Int × zH)} (hK12 : ∀ (l2 : Int) (h : zH), K12 l2 h = some r → Z κ h 12 [(0, .ref (zα κ 5)), (1, .ref (zα κ 4)), (2, .int (zi l2))] []) (l2 : Int) (h : zH) (hF : fX5_add_c12b N K12 l2 h = some r) : Z κ h 12 [(0, .ref (zα κ 5)), (1, .ref (zα κ 4)), (2, .int (zi l2))] [] := by
  unfold fX5_add_c12b at hF
  refine z_iload_n (q := 13) C dX5_add_12 2 rfl rfl rfl ?_
  refine z_aload_n (q := 14) C dX5_add_13 1 rfl rfl rfl ?_
  refine z_getf (q := 17) C clX4 (zon C zo_4) kd_4 (k := 1) (by decide) q_85 rfl (zfv_i kd_4 rfl) dX5_add_14 rfl ?_
  refine z_icmp_ge (tgt := 51) (q := 20) C dX5_add_17 (by decide) rfl (fun c1 => ?_) (fun c1 => ?_)
  · have hF := (if_pos c1).symm.trans hF
    refine z_aload_n (q := 52) C dX5_add_51 0 rfl rfl rfl ?_
    refine z_getf (q := 55) C clX5 (zon C zo_5) kd_5 (k := 3) (by decide) q_136 rfl (zfv_r kd_5 rfl fr_5_3) dX5_add_52 rfl ?_
    refine z_aload_n (q := 56) C dX5_add_55 0 rfl rfl rfl ?_
    refine z_getf (q := 59) C clX5 (zon C zo_5) kd_5 (k := 0) (by decide) q_130 rfl (zfv_i kd_5 rfl) dX5_add_56 rfl ?_
    refine z_aload_n (q := 60) C dX5_add_59 1 rfl rfl rfl ?_
    refine z_getf (q := 63) C clX4 (zon C zo_4) kd_4 (k := 1) (by decide) q_85 rfl (zfv_i kd_4 rfl) dX5_add_60 rfl ?_
    obtain ⟨h2, eh2, hF⟩ := zlet_e hF
    refine z_callSN (q := 66) (av := [.ref (zα κ 25), .int (zi (h 5 0)), .int (zi (h 4 1))]) (rest := []) (stk2 := []) C hR (M_fX10_put (zlv hd rfl) zo_25 kd_25 eh2.symm) mY_X10_put q_576 (Nat.le_of_ble_eq_true rfl) dX5_add_63 rfl rfl rfl ?_
    refine z_aload_n (q := 67) C dX5_add_66 0 rfl rfl rfl ?_
    refine z_dup (q := 68) C dX5_add_67 rfl rfl ?_
    refine z_getf (q := 71) C clX5 (zon C zo_5) kd_5 (k := 0) (by decide) q_130 rfl (zfv_i kd_5 rfl) dX5_add_68 rfl ?_
    refine z_iconst (q := 72) C dX5_add_71 rfl ?_
    refine z_iadd (q := 73) C dX5_add_72 rfl ?_
    obtain ⟨h3, eh3, hF⟩ := zlet_e hF
    refine z_putf (q := 76) C clX5 (zon C zo_5) kd_5 (k := 0) (x := (h2 5 0) + 1) (by decide) q_130 rfl rfl rfl rfl (((zfv_i kd_5 rfl)).trans (by rw [if_pos rfl])) dX5_add_73 rfl eh3 ?_
    refine z_aload_n (q := 77) C dX5_add_76 0 rfl rfl rfl ?_
    refine z_getf (q := 80) C clX5 (zon C zo_5) kd_5 (k := 0) (by decide) q_130 rfl (zfv_i kd_5 rfl) dX5_add_77 rfl ?_
    refine z_iconst (q := 81) C dX5_add_80 rfl ?_
    refine z_isub (q := 82) C dX5_add_81 rfl ?_
    have hF := Option.some.inj hF
    subst hF
    exact z_iret C e1 e2 dX5_add_82
  · have hF := (if_neg c1).symm.trans hF
    refine z_aload_n (q := 21) C dX5_add_20 0 rfl rfl rfl ?_
    refine z_getf (q := 24) C clX5 (zon C zo_5) kd_5 (k := 2) (by decide) q_135 rfl (zfv_r kd_5 rfl fr_5_2) dX5_add_21 rfl ?_
    refine z_aload_n (q := 25) C dX5_add_24 0 rfl rfl rfl ?_
    refine z_getf (q := 28) C clX5 (zon C zo_5) kd_5 (k := 0) (by decide) q_130 rfl (zfv_i kd_5 rfl) dX5_add_25 rfl ?_
    refine z_sipush (q := 31) C dX5_add_28 sp_240 rfl ?_
    refine z_imul (q := 32) C dX5_add_31 rfl ?_
    refine z_iload_n (q := 33) C dX5_add_32 2 rfl rfl rfl ?_
    refine z_iadd (q := 34) C dX5_add_33 rfl ?_
    refine z_aload_n (q := 35) C dX5_add_34 1 rfl rfl rfl ?_
    refine z_getf (q := 38) C clX4 (zon C zo_4) kd_4 (k := 0) (by decide) q_83 rfl (zfv_r kd_4 rfl fr_4_0) dX5_add_35 rfl ?_
    refine z_iload_n (q := 39) C dX5_add_38 2 rfl rfl rfl ?_
    refine z_callSN (q := 42) (av := [.ref (zα κ 22), .int (zi l2)]) (rest := [.int (zi (((h 5 0) * 240) + l2)), .ref (zα κ 24)]) (stk2 := [.int (zi (fX10_at 22 l2 h)), .int (zi (((h 5 0) * 240) + l2)), .ref (zα κ 24)]) C hR (M_fX10_at (zlv hd rfl) zo_22 kd_22 rfl) mY_X10_at q_575 (Nat.le_of_ble_eq_true rfl) dX5_add_39 rfl rfl rfl ?_
    obtain ⟨h4, eh4, hF⟩ := zlet_e hF
    refine z_callSN (q := 45) (av := [.ref (zα κ 24), .int (zi (((h 5 0) * 240) + l2)), .int (zi (fX10_at 22 l2 h))]) (rest := []) (stk2 := []) C hR (M_fX10_put (zlv hd rfl) zo_24 kd_24 eh4.symm) mY_X10_put q_576 (Nat.le_of_ble_eq_true rfl) dX5_add_42 rfl rfl rfl ?_
    refine z_iinc (q := 48) (x := l2) C dX5_add_45 (j := 2) rfl (by decide) rfl rfl ?_
    refine z_goto (q := 12) C dX5_add_48 (by decide) ?_
    exact z_sub (hK12 _ _ hF) [1, 2, 0] rfl
set_option maxRecDepth 20000 in
set_option maxHeartbeats 4000000 in
theorem J_fX5_add_c12 {κ : zT} (C : zC κ RX5 cX5_add 3 (some .int)) {d : Nat} (hR : zR κ = zrm (d + 1)) (hd : 2 ≤ d + 1) {N : Nat} {r : Int × zH} (e1 : zrv κ = some (.int (zi r.1))) (e2 : zhf κ = r.2) : ∀ (k : Nat) (l2 : Int) (h : zH), fX5_add_c12 N k l2 h = some r → Z κ h 12 [(0, .ref (zα κ 5)), (1, .ref (zα κ 4)), (2, .int (zi l2))] [] := by
  intro k
  induction k with
  | zero => intro l2 h hF; cases hF
  | succ k ih => intro l2 h hF; exact J_fX5_add_c12b C hR hd e1 e2 ih l2 h hF
set_option maxRecDepth 20000 in
set_option maxHeartbeats 4000000 in
theorem J_fX5_add {κ : zT} (C : zC κ RX5 cX5_add 3 (some .int)) {d : Nat} (hR : zR κ = zrm (d + 1)) (hd : 2 ≤ d + 1) {N : Nat} {r : Int × zH} (e1 : zrv κ = some (.int (zi r.1))) (e2 : zhf κ = r.2) {h : zH} (hF : fX5_add N h = some r) : Z κ h 0 [(0, .ref (zα κ 5)), (1, .ref (zα κ 4))] [] := by
  unfold fX5_add at hF
  refine z_aload_n (q := 1) C dX5_add_0 0 rfl rfl rfl ?_
  refine z_getf (q := 4) C clX5 (zon C zo_5) kd_5 (k := 0) (by decide) q_130 rfl (zfv_i kd_5 rfl) dX5_add_1 rfl ?_
  refine z_iconst (q := 5) C dX5_add_4 rfl ?_
  refine z_icmp_lt (tgt := 10) (q := 8) C dX5_add_5 (by decide) rfl (fun c1 => ?_) (fun c1 => ?_)
  · have hF := (if_pos c1).symm.trans hF
    refine z_iconst (q := 11) C dX5_add_10 rfl ?_
    refine z_istore_n (q := 12) C dX5_add_11 (by decide) rfl rfl rfl ?_
    exact z_sub (J_fX5_add_c12 C hR hd e1 e2 N _ _ hF) [1, 2, 0] rfl
  · have hF := (if_neg c1).symm.trans hF
    refine z_iconst (q := 9) C dX5_add_8 rfl ?_
    have hF := Option.some.inj hF
    subst hF
    exact z_iret C e1 e2 dX5_add_9
set_option maxRecDepth 20000 in
set_option maxHeartbeats 4000000 in
theorem M_fX5_add {l : Launch} {D : va_G} {cy : ClassId} {α : Nat → Nat} {n : Nat} {σ : zSg} {d : Nat} (hd : 2 ≤ d) {N : Nat} {h : zH} {r : Int} {g : zH} (hF : fX5_add N h = some (r, g)) : zMet l yX5_add cX5_add 3 (some .int) (zrm d) D cy α n σ [.ref (α 5), .ref (α 4)] h (some (.int (zi r))) g := by
  obtain ⟨d, rfl⟩ : ∃ e, d = e + 1 := ⟨d - 1, by omega⟩
  refine z_met (by decide +kernel) (Nat.le_of_ble_eq_true rfl) (fun κ k1 k2 k3 k4 k5 k6 k7 k8 k9 C => ?_)
  subst k1 k3 k4 k5 k6 k7
  exact J_fX5_add C k2 hd k8 k9 hF
set_option maxRecDepth 20000 in
set_option maxHeartbeats 4000000 in
theorem J_fX2_add_c12b {κ : zT} (C : zC κ RX2 cX2_add 2 (some .int)) {d : Nat} (hR : zR κ = zrm (d + 1)) (hd : 2 ≤ d + 1) {N : Nat} {r : Int × zH} (e1 : zrv κ = some (.int (zi r.1))) (e2 : zhf κ = r.2) {K12 : Int → zH → Option (Int × zH)} (hK12 : ∀ (l1 : Int) (h : zH), K12 l1 h = some r → Z κ h 12 [(0, .ref (zα κ 6)), (1, .int (zi l1))] []) (l1 : Int) (h : zH) (hF : fX2_add_c12b N K12 l1 h = some r) : Z κ h 12 [(0, .ref (zα κ 6)), (1, .int (zi l1))] [] := by
  unfold fX2_add_c12b at hF
  refine z_iload_n (q := 13) C dX2_add_12 1 rfl rfl rfl ?_
  refine z_aload_n (q := 14) C dX2_add_13 0 rfl rfl rfl ?_
  refine z_getf (q := 17) C clX2 (zon C zo_6) kd_6 (k := 4) (by decide) q_163 rfl (zfv_i kd_6 rfl) dX2_add_14 rfl ?_
  refine z_iconst (q := 18) C dX2_add_17 rfl ?_
  refine z_imul (q := 19) C dX2_add_18 rfl ?_
  refine z_icmp_ge (tgt := 52) (q := 22) C dX2_add_19 (by decide) rfl (fun c1 => ?_) (fun c1 => ?_)
  · have hF := (if_pos c1).symm.trans hF
    refine z_aload_n (q := 53) C dX2_add_52 0 rfl rfl rfl ?_
    refine z_getf (q := 56) C clX2 (zon C zo_6) kd_6 (k := 2) (by decide) q_161 rfl (zfv_r kd_6 rfl fr_6_2) dX2_add_53 rfl ?_
    refine z_aload_n (q := 57) C dX2_add_56 0 rfl rfl rfl ?_
    refine z_getf (q := 60) C clX2 (zon C zo_6) kd_6 (k := 0) (by decide) q_158 rfl (zfv_i kd_6 rfl) dX2_add_57 rfl ?_
    refine z_aload_n (q := 61) C dX2_add_60 0 rfl rfl rfl ?_
    refine z_getf (q := 64) C clX2 (zon C zo_6) kd_6 (k := 4) (by decide) q_163 rfl (zfv_i kd_6 rfl) dX2_add_61 rfl ?_
    obtain ⟨h2, eh2, hF⟩ := zlet_e hF
    refine z_callSN (q := 67) (av := [.ref (zα κ 28), .int (zi (h 6 0)), .int (zi (h 6 4))]) (rest := []) (stk2 := []) C hR (M_fX10_put (zlv hd rfl) zo_28 kd_28 eh2.symm) mY_X10_put q_558 (Nat.le_of_ble_eq_true rfl) dX2_add_64 rfl rfl rfl ?_
    refine z_aload_n (q := 68) C dX2_add_67 0 rfl rfl rfl ?_
    refine z_dup (q := 69) C dX2_add_68 rfl rfl ?_
    refine z_getf (q := 72) C clX2 (zon C zo_6) kd_6 (k := 0) (by decide) q_158 rfl (zfv_i kd_6 rfl) dX2_add_69 rfl ?_
    refine z_iconst (q := 73) C dX2_add_72 rfl ?_
    refine z_iadd (q := 74) C dX2_add_73 rfl ?_
    obtain ⟨h3, eh3, hF⟩ := zlet_e hF
    refine z_putf (q := 77) C clX2 (zon C zo_6) kd_6 (k := 0) (x := (h2 6 0) + 1) (by decide) q_158 rfl rfl rfl rfl (((zfv_i kd_6 rfl)).trans (by rw [if_pos rfl])) dX2_add_74 rfl eh3 ?_
    refine z_aload_n (q := 78) C dX2_add_77 0 rfl rfl rfl ?_
    refine z_getf (q := 81) C clX2 (zon C zo_6) kd_6 (k := 0) (by decide) q_158 rfl (zfv_i kd_6 rfl) dX2_add_78 rfl ?_
    refine z_iconst (q := 82) C dX2_add_81 rfl ?_
    refine z_isub (q := 83) C dX2_add_82 rfl ?_
    have hF := Option.some.inj hF
    subst hF
    exact z_iret C e1 e2 dX2_add_83
  · have hF := (if_neg c1).symm.trans hF
    refine z_aload_n (q := 23) C dX2_add_22 0 rfl rfl rfl ?_
    refine z_getf (q := 26) C clX2 (zon C zo_6) kd_6 (k := 1) (by decide) q_160 rfl (zfv_r kd_6 rfl fr_6_1) dX2_add_23 rfl ?_
    refine z_aload_n (q := 27) C dX2_add_26 0 rfl rfl rfl ?_
    refine z_getf (q := 30) C clX2 (zon C zo_6) kd_6 (k := 0) (by decide) q_158 rfl (zfv_i kd_6 rfl) dX2_add_27 rfl ?_
    refine z_bipush (q := 32) C dX2_add_30 bp_48 rfl ?_
    refine z_imul (q := 33) C dX2_add_32 rfl ?_
    refine z_iload_n (q := 34) C dX2_add_33 1 rfl rfl rfl ?_
    refine z_iadd (q := 35) C dX2_add_34 rfl ?_
    refine z_aload_n (q := 36) C dX2_add_35 0 rfl rfl rfl ?_
    refine z_getf (q := 39) C clX2 (zon C zo_6) kd_6 (k := 3) (by decide) q_162 rfl (zfv_r kd_6 rfl fr_6_3) dX2_add_36 rfl ?_
    refine z_iload_n (q := 40) C dX2_add_39 1 rfl rfl rfl ?_
    refine z_callSN (q := 43) (av := [.ref (zα κ 29), .int (zi l1)]) (rest := [.int (zi (((h 6 0) * 48) + l1)), .ref (zα κ 27)]) (stk2 := [.int (zi (fX10_at 29 l1 h)), .int (zi (((h 6 0) * 48) + l1)), .ref (zα κ 27)]) C hR (M_fX10_at (zlv hd rfl) zo_29 kd_29 rfl) mY_X10_at q_581 (Nat.le_of_ble_eq_true rfl) dX2_add_40 rfl rfl rfl ?_
    obtain ⟨h4, eh4, hF⟩ := zlet_e hF
    refine z_callSN (q := 46) (av := [.ref (zα κ 27), .int (zi (((h 6 0) * 48) + l1)), .int (zi (fX10_at 29 l1 h))]) (rest := []) (stk2 := []) C hR (M_fX10_put (zlv hd rfl) zo_27 kd_27 eh4.symm) mY_X10_put q_558 (Nat.le_of_ble_eq_true rfl) dX2_add_43 rfl rfl rfl ?_
    refine z_iinc (q := 49) (x := l1) C dX2_add_46 (j := 1) rfl (by decide) rfl rfl ?_
    refine z_goto (q := 12) C dX2_add_49 (by decide) ?_
    exact z_sub (hK12 _ _ hF) [1, 0] rfl
set_option maxRecDepth 20000 in
set_option maxHeartbeats 4000000 in
theorem J_fX2_add_c12 {κ : zT} (C : zC κ RX2 cX2_add 2 (some .int)) {d : Nat} (hR : zR κ = zrm (d + 1)) (hd : 2 ≤ d + 1) {N : Nat} {r : Int × zH} (e1 : zrv κ = some (.int (zi r.1))) (e2 : zhf κ = r.2) : ∀ (k : Nat) (l1 : Int) (h : zH), fX2_add_c12 N k l1 h = some r → Z κ h 12 [(0, .ref (zα κ 6)), (1, .int (zi l1))] [] := by
  intro k
  induction k with
  | zero => intro l1 h hF; cases hF
  | succ k ih => intro l1 h hF; exact J_fX2_add_c12b C hR hd e1 e2 ih l1 h hF
set_option maxRecDepth 20000 in
set_option maxHeartbeats 4000000 in
theorem J_fX2_add {κ : zT} (C : zC κ RX2 cX2_add 2 (some .int)) {d : Nat} (hR : zR κ = zrm (d + 1)) (hd : 2 ≤ d + 1) {N : Nat} {r : Int × zH} (e1 : zrv κ = some (.int (zi r.1))) (e2 : zhf κ = r.2) {h : zH} (hF : fX2_add N h = some r) : Z κ h 0 [(0, .ref (zα κ 6))] [] := by
  unfold fX2_add at hF
  refine z_aload_n (q := 1) C dX2_add_0 0 rfl rfl rfl ?_
  refine z_getf (q := 4) C clX2 (zon C zo_6) kd_6 (k := 0) (by decide) q_158 rfl (zfv_i kd_6 rfl) dX2_add_1 rfl ?_
  refine z_iconst (q := 5) C dX2_add_4 rfl ?_
  refine z_icmp_lt (tgt := 10) (q := 8) C dX2_add_5 (by decide) rfl (fun c1 => ?_) (fun c1 => ?_)
  · have hF := (if_pos c1).symm.trans hF
    refine z_iconst (q := 11) C dX2_add_10 rfl ?_
    refine z_istore_n (q := 12) C dX2_add_11 (by decide) rfl rfl rfl ?_
    exact z_sub (J_fX2_add_c12 C hR hd e1 e2 N _ _ hF) [1, 0] rfl
  · have hF := (if_neg c1).symm.trans hF
    refine z_iconst (q := 9) C dX2_add_8 rfl ?_
    have hF := Option.some.inj hF
    subst hF
    exact z_iret C e1 e2 dX2_add_9
set_option maxRecDepth 20000 in
set_option maxHeartbeats 4000000 in
theorem M_fX2_add {l : Launch} {D : va_G} {cy : ClassId} {α : Nat → Nat} {n : Nat} {σ : zSg} {d : Nat} (hd : 2 ≤ d) {N : Nat} {h : zH} {r : Int} {g : zH} (hF : fX2_add N h = some (r, g)) : zMet l yX2_add cX2_add 2 (some .int) (zrm d) D cy α n σ [.ref (α 6)] h (some (.int (zi r))) g := by
  obtain ⟨d, rfl⟩ : ∃ e, d = e + 1 := ⟨d - 1, by omega⟩
  refine z_met (by decide +kernel) (Nat.le_of_ble_eq_true rfl) (fun κ k1 k2 k3 k4 k5 k6 k7 k8 k9 C => ?_)
  subst k1 k3 k4 k5 k6 k7
  exact J_fX2_add C k2 hd k8 k9 hF
set_option maxRecDepth 20000 in
set_option maxHeartbeats 4000000 in
theorem J_fX1_take {κ : zT} (C : zC κ RX1 cX1_take 2 none) {d : Nat} (hR : zR κ = zrm (d + 1)) (hd : 1 ≤ d + 1) {o0 : Nat} (ho0 : o0 < zN) (hd0 : zkd o0 = 1) {o1 : Nat} (ho1 : o1 < zN) (hd1 : zkd o1 = 1) {r : zH} (e1 : zrv κ = none) (e2 : zhf κ = r) {h : zH} (hF : fX1_take o0 o1 h = some r) : Z κ h 0 [(0, .ref (zα κ o0)), (1, .ref (zα κ o1))] [] := by
  unfold fX1_take at hF
  refine z_aload_n (q := 1) C dX1_take_0 1 rfl rfl rfl ?_
  refine z_getf (q := 4) C clX1 (zon C ho1) hd1 (k := 0) (by decide) q_66 rfl (zfv_r hd1 rfl rfl) dX1_take_1 rfl ?_
  refine z_iconst (q := 5) C dX1_take_4 rfl ?_
  refine z_aload_n (q := 6) C dX1_take_5 0 rfl rfl rfl ?_
  refine z_getf (q := 9) C clX1 (zon C ho0) hd0 (k := 0) (by decide) q_66 rfl (zfv_r hd0 rfl rfl) dX1_take_6 rfl ?_
  refine z_iconst (q := 10) C dX1_take_9 rfl ?_
  refine z_aload_n (q := 11) C dX1_take_10 0 rfl rfl rfl ?_
  refine z_getf (q := 14) C clX1 (zon C ho0) hd0 (k := 0) (by decide) q_66 rfl (zfv_r hd0 rfl rfl) dX1_take_11 rfl ?_
  refine z_alen (q := 15) C (zon C (frl_1_0 ho0 hd0)) (frk_1_0 ho0 hd0) dX1_take_14 rfl ?_
  refine z_topE (y := 128) (by rw [(frn_1_0 ho0 hd0)]; rfl) ?_
  obtain ⟨g2, hF⟩ := zif_none hF
  obtain ⟨h1, eh1, hF⟩ := zlet_e hF
  refine z_copy (q := 18) (o := zfr o1 0) (o2 := zfr o0 0) C hR (zon C (frl_1_0 ho1 hd1)) (frk_1_0 ho1 hd1) (zon C (frl_1_0 ho0 hd0)) (frk_1_0 ho0 hd0) g2.1 g2.2.1 g2.2.2.1 (by rw [(frn_1_0 ho1 hd1)]; exact g2.2.2.2.1) (by rw [(frn_1_0 ho0 hd0)]; exact g2.2.2.2.2) q_590 (Nat.le_of_ble_eq_true rfl) dX1_take_15 rfl eh1 ?_
  refine z_aload_n (q := 19) C dX1_take_18 1 rfl rfl rfl ?_
  refine z_getf (q := 22) C clX1 (zon C ho1) hd1 (k := 1) (by decide) q_67 rfl (zfv_r hd1 rfl rfl) dX1_take_19 rfl ?_
  refine z_iconst (q := 23) C dX1_take_22 rfl ?_
  refine z_aload_n (q := 24) C dX1_take_23 0 rfl rfl rfl ?_
  refine z_getf (q := 27) C clX1 (zon C ho0) hd0 (k := 1) (by decide) q_67 rfl (zfv_r hd0 rfl rfl) dX1_take_24 rfl ?_
  refine z_iconst (q := 28) C dX1_take_27 rfl ?_
  refine z_aload_n (q := 29) C dX1_take_28 0 rfl rfl rfl ?_
  refine z_getf (q := 32) C clX1 (zon C ho0) hd0 (k := 1) (by decide) q_67 rfl (zfv_r hd0 rfl rfl) dX1_take_29 rfl ?_
  refine z_alen (q := 33) C (zon C (frl_1_1 ho0 hd0)) (frk_1_1 ho0 hd0) dX1_take_32 rfl ?_
  refine z_topE (y := 4) (by rw [(frn_1_1 ho0 hd0)]; rfl) ?_
  obtain ⟨g4, hF⟩ := zif_none hF
  obtain ⟨h3, eh3, hF⟩ := zlet_e hF
  refine z_copy (q := 36) (o := zfr o1 1) (o2 := zfr o0 1) C hR (zon C (frl_1_1 ho1 hd1)) (frk_1_1 ho1 hd1) (zon C (frl_1_1 ho0 hd0)) (frk_1_1 ho0 hd0) g4.1 g4.2.1 g4.2.2.1 (by rw [(frn_1_1 ho1 hd1)]; exact g4.2.2.2.1) (by rw [(frn_1_1 ho0 hd0)]; exact g4.2.2.2.2) q_590 (Nat.le_of_ble_eq_true rfl) dX1_take_33 rfl eh3 ?_
  refine z_aload_n (q := 37) C dX1_take_36 1 rfl rfl rfl ?_
  refine z_getf (q := 40) C clX1 (zon C ho1) hd1 (k := 2) (by decide) q_68 rfl (zfv_r hd1 rfl rfl) dX1_take_37 rfl ?_
  refine z_iconst (q := 41) C dX1_take_40 rfl ?_
  refine z_aload_n (q := 42) C dX1_take_41 0 rfl rfl rfl ?_
  refine z_getf (q := 45) C clX1 (zon C ho0) hd0 (k := 2) (by decide) q_68 rfl (zfv_r hd0 rfl rfl) dX1_take_42 rfl ?_
  refine z_iconst (q := 46) C dX1_take_45 rfl ?_
  refine z_aload_n (q := 47) C dX1_take_46 0 rfl rfl rfl ?_
  refine z_getf (q := 50) C clX1 (zon C ho0) hd0 (k := 2) (by decide) q_68 rfl (zfv_r hd0 rfl rfl) dX1_take_47 rfl ?_
  refine z_alen (q := 51) C (zon C (frl_1_2 ho0 hd0)) (frk_1_2 ho0 hd0) dX1_take_50 rfl ?_
  refine z_topE (y := 8) (by rw [(frn_1_2 ho0 hd0)]; rfl) ?_
  obtain ⟨g6, hF⟩ := zif_none hF
  obtain ⟨h5, eh5, hF⟩ := zlet_e hF
  refine z_copy (q := 54) (o := zfr o1 2) (o2 := zfr o0 2) C hR (zon C (frl_1_2 ho1 hd1)) (frk_1_2 ho1 hd1) (zon C (frl_1_2 ho0 hd0)) (frk_1_2 ho0 hd0) g6.1 g6.2.1 g6.2.2.1 (by rw [(frn_1_2 ho1 hd1)]; exact g6.2.2.2.1) (by rw [(frn_1_2 ho0 hd0)]; exact g6.2.2.2.2) q_590 (Nat.le_of_ble_eq_true rfl) dX1_take_51 rfl eh5 ?_
  have hF := Option.some.inj hF
  subst hF
  exact z_vret C e1 e2 dX1_take_54
set_option maxRecDepth 20000 in
set_option maxHeartbeats 4000000 in
theorem M_fX1_take {l : Launch} {D : va_G} {cy : ClassId} {α : Nat → Nat} {n : Nat} {σ : zSg} {d : Nat} (hd : 1 ≤ d) {o0 : Nat} (ho0 : o0 < zN) (hd0 : zkd o0 = 1) {o1 : Nat} (ho1 : o1 < zN) (hd1 : zkd o1 = 1) {h : zH} {g : zH} (hF : fX1_take o0 o1 h = some g) : zMet l yX1_take cX1_take 2 none (zrm d) D cy α n σ [.ref (α o0), .ref (α o1)] h (none) g := by
  obtain ⟨d, rfl⟩ : ∃ e, d = e + 1 := ⟨d - 1, by omega⟩
  refine z_met (by decide +kernel) (Nat.le_of_ble_eq_true rfl) (fun κ k1 k2 k3 k4 k5 k6 k7 k8 k9 C => ?_)
  subst k1 k3 k4 k5 k6 k7
  exact J_fX1_take C k2 hd ho0 hd0 ho1 hd1 k8 k9 hF
set_option maxRecDepth 20000 in
set_option maxHeartbeats 4000000 in
theorem J_fX8_set {κ : zT} (C : zC κ RX8 cX8_set 4 none) {d : Nat} (hR : zR κ = zrm (d + 1)) (hd : 2 ≤ d + 1) {o0 : Nat} (ho0 : o0 < zN) (hd0 : zkd o0 = 8) {r : zH} (e1 : zrv κ = none) (e2 : zhf κ = r) {a1 : Int} {a2 : Int} {a3 : Int} {h : zH} (hF : fX8_set o0 a1 a2 a3 h = r) : Z κ h 0 [(0, .ref (zα κ o0)), (1, .int (zi a1)), (2, .int (zi a2)), (3, .int (zi a3))] [] := by
  unfold fX8_set at hF
  refine z_aload_n (q := 1) C dX8_set_0 0 rfl rfl rfl ?_
  refine z_getf (q := 4) C clX8 (zon C ho0) hd0 (k := 0) (by decide) q_184 rfl (zfv_r hd0 rfl rfl) dX8_set_1 rfl ?_
  refine z_iload_n (q := 5) C dX8_set_4 1 rfl rfl rfl ?_
  refine z_bipush (q := 7) C dX8_set_5 bp_6 rfl ?_
  refine z_imul (q := 8) C dX8_set_7 rfl ?_
  refine z_iload_n (q := 9) C dX8_set_8 2 rfl rfl rfl ?_
  refine z_iadd (q := 10) C dX8_set_9 rfl ?_
  refine z_iload_n (q := 11) C dX8_set_10 3 rfl rfl rfl ?_
  obtain ⟨h1, eh1, hF⟩ := zlet_e hF
  refine z_callSN (q := 14) (av := [.ref (zα κ (zfr o0 0)), .int (zi ((a1 * 6) + a2)), .int (zi a3)]) (rest := []) (stk2 := []) C hR (M_fX10_put (zlv hd rfl) (frl_8_0 ho0 hd0) (frk_8_0 ho0 hd0) eh1.symm) mY_X10_put q_602 (Nat.le_of_ble_eq_true rfl) dX8_set_11 rfl rfl rfl ?_
  subst hF
  exact z_vret C e1 e2 dX8_set_14
set_option maxRecDepth 20000 in
set_option maxHeartbeats 4000000 in
theorem M_fX8_set {l : Launch} {D : va_G} {cy : ClassId} {α : Nat → Nat} {n : Nat} {σ : zSg} {d : Nat} (hd : 2 ≤ d) {o0 : Nat} (ho0 : o0 < zN) (hd0 : zkd o0 = 8) {a1 : Int} {a2 : Int} {a3 : Int} {h : zH} {g : zH} (hF : fX8_set o0 a1 a2 a3 h = g) : zMet l yX8_set cX8_set 4 none (zrm d) D cy α n σ [.ref (α o0), .int (zi a1), .int (zi a2), .int (zi a3)] h (none) g := by
  obtain ⟨d, rfl⟩ : ∃ e, d = e + 1 := ⟨d - 1, by omega⟩
  refine z_met (by decide +kernel) (Nat.le_of_ble_eq_true rfl) (fun κ k1 k2 k3 k4 k5 k6 k7 k8 k9 C => ?_)
  subst k1 k3 k4 k5 k6 k7
  exact J_fX8_set C k2 hd ho0 hd0 k8 k9 hF
set_option maxRecDepth 20000 in
set_option maxHeartbeats 4000000 in
theorem J_fX8_clear_c10b {κ : zT} (C : zC κ RX8 cX8_clear 2 none) {d : Nat} (hR : zR κ = zrm (d + 1)) (hd : 3 ≤ d + 1) {N : Nat} {o0 : Nat} (ho0 : o0 < zN) (hd0 : zkd o0 = 8) {r : zH} (e1 : zrv κ = none) (e2 : zhf κ = r) {K10 : Int → zH → Option zH} (hK10 : ∀ (l1 : Int) (h : zH), K10 l1 h = some r → Z κ h 10 [(0, .ref (zα κ o0)), (1, .int (zi l1))] []) (l1 : Int) (h : zH) (hF : fX8_clear_c10b N o0 K10 l1 h = some r) : Z κ h 10 [(0, .ref (zα κ o0)), (1, .int (zi l1))] [] := by
  unfold fX8_clear_c10b at hF
  refine z_iload_n (q := 11) C dX8_clear_10 1 rfl rfl rfl ?_
  refine z_bipush (q := 13) C dX8_clear_11 bp_6 rfl ?_
  refine z_icmp_ge (tgt := 37) (q := 16) C dX8_clear_13 (by decide) rfl (fun c1 => ?_) (fun c1 => ?_)
  · have hF := (if_pos c1).symm.trans hF
    have hF := Option.some.inj hF
    subst hF
    exact z_vret C e1 e2 dX8_clear_37
  · have hF := (if_neg c1).symm.trans hF
    refine z_aload_n (q := 17) C dX8_clear_16 0 rfl rfl rfl ?_
    refine z_iconst (q := 18) C dX8_clear_17 rfl ?_
    refine z_iload_n (q := 19) C dX8_clear_18 1 rfl rfl rfl ?_
    refine z_iconst (q := 20) C dX8_clear_19 rfl ?_
    obtain ⟨h2, eh2, hF⟩ := zlet_e hF
    refine z_callV (q := 23) (o := o0) (av := [.int (zi 1), .int (zi l1), .int (zi (-1))]) (rest := []) (stk2 := []) C hR clX8 (zon C ho0) hd0 (M_fX8_set (zlv hd rfl) ho0 hd0 eh2.symm) mY_X8_set q_598 (Nat.le_of_ble_eq_true rfl) dX8_clear_20 rfl rfl rfl ?_
    refine z_aload_n (q := 24) C dX8_clear_23 0 rfl rfl rfl ?_
    refine z_bipush (q := 26) C dX8_clear_24 bp_6 rfl ?_
    refine z_iload_n (q := 27) C dX8_clear_26 1 rfl rfl rfl ?_
    refine z_iconst (q := 28) C dX8_clear_27 rfl ?_
    obtain ⟨h3, eh3, hF⟩ := zlet_e hF
    refine z_callV (q := 31) (o := o0) (av := [.int (zi 6), .int (zi l1), .int (zi (-1))]) (rest := []) (stk2 := []) C hR clX8 (zon C ho0) hd0 (M_fX8_set (zlv hd rfl) ho0 hd0 eh3.symm) mY_X8_set q_598 (Nat.le_of_ble_eq_true rfl) dX8_clear_28 rfl rfl rfl ?_
    refine z_iinc (q := 34) (x := l1) C dX8_clear_31 (j := 1) rfl (by decide) rfl rfl ?_
    refine z_goto (q := 10) C dX8_clear_34 (by decide) ?_
    exact z_sub (hK10 _ _ hF) [1, 0] rfl
set_option maxRecDepth 20000 in
set_option maxHeartbeats 4000000 in
theorem J_fX8_clear_c10 {κ : zT} (C : zC κ RX8 cX8_clear 2 none) {d : Nat} (hR : zR κ = zrm (d + 1)) (hd : 3 ≤ d + 1) {N : Nat} {o0 : Nat} (ho0 : o0 < zN) (hd0 : zkd o0 = 8) {r : zH} (e1 : zrv κ = none) (e2 : zhf κ = r) : ∀ (k : Nat) (l1 : Int) (h : zH), fX8_clear_c10 N o0 k l1 h = some r → Z κ h 10 [(0, .ref (zα κ o0)), (1, .int (zi l1))] [] := by
  intro k
  induction k with
  | zero => intro l1 h hF; cases hF
  | succ k ih => intro l1 h hF; exact J_fX8_clear_c10b C hR hd ho0 hd0 e1 e2 ih l1 h hF
set_option maxRecDepth 20000 in
set_option maxHeartbeats 4000000 in
theorem J_fX8_clear {κ : zT} (C : zC κ RX8 cX8_clear 2 none) {d : Nat} (hR : zR κ = zrm (d + 1)) (hd : 3 ≤ d + 1) {N : Nat} {o0 : Nat} (ho0 : o0 < zN) (hd0 : zkd o0 = 8) {r : zH} (e1 : zrv κ = none) (e2 : zhf κ = r) {h : zH} (hF : fX8_clear N o0 h = some r) : Z κ h 0 [(0, .ref (zα κ o0))] [] := by
  unfold fX8_clear at hF
  refine z_aload_n (q := 1) C dX8_clear_0 0 rfl rfl rfl ?_
  refine z_getf (q := 4) C clX8 (zon C ho0) hd0 (k := 0) (by decide) q_184 rfl (zfv_r hd0 rfl rfl) dX8_clear_1 rfl ?_
  refine z_iconst (q := 5) C dX8_clear_4 rfl ?_
  obtain ⟨h1, eh1, hF⟩ := zb_e hF
  refine z_callS (q := 8) (av := [.ref (zα κ (zfr o0 0)), .int (zi 0)]) (rest := []) (stk2 := []) C hR (M_fJ7_fill_53178 (zlv hd rfl) (frl_8_0 ho0 hd0) (frk_8_0 ho0 hd0) eh1) mY_J7_fill_53178 q_597 (Nat.le_of_ble_eq_true rfl) dX8_clear_5 rfl rfl rfl ?_
  refine z_iconst (q := 9) C dX8_clear_8 rfl ?_
  refine z_istore_n (q := 10) C dX8_clear_9 (by decide) rfl rfl rfl ?_
  exact z_sub (J_fX8_clear_c10 C hR hd ho0 hd0 e1 e2 N _ _ hF) [1, 0] rfl
set_option maxRecDepth 20000 in
set_option maxHeartbeats 4000000 in
theorem M_fX8_clear {l : Launch} {D : va_G} {cy : ClassId} {α : Nat → Nat} {n : Nat} {σ : zSg} {d : Nat} (hd : 3 ≤ d) {N : Nat} {o0 : Nat} (ho0 : o0 < zN) (hd0 : zkd o0 = 8) {h : zH} {g : zH} (hF : fX8_clear N o0 h = some g) : zMet l yX8_clear cX8_clear 2 none (zrm d) D cy α n σ [.ref (α o0)] h (none) g := by
  obtain ⟨d, rfl⟩ : ∃ e, d = e + 1 := ⟨d - 1, by omega⟩
  refine z_met (by decide +kernel) (Nat.le_of_ble_eq_true rfl) (fun κ k1 k2 k3 k4 k5 k6 k7 k8 k9 C => ?_)
  subst k1 k3 k4 k5 k6 k7
  exact J_fX8_clear C k2 hd ho0 hd0 k8 k9 hF
set_option maxRecDepth 20000 in
set_option maxHeartbeats 4000000 in
theorem J_fX0_forget {κ : zT} (C : zC κ RX0 cX0_forget 1 none) {d : Nat} (hR : zR κ = zrm (d + 1)) (hd : 1 ≤ d + 1) {r : zH} (e1 : zrv κ = none) (e2 : zhf κ = r) {h : zH} (hF : fX0_forget h = r) : Z κ h 0 [(0, .ref (zα κ 10))] [] := by
  unfold fX0_forget at hF
  refine z_aload_n (q := 1) C dX0_forget_0 0 rfl rfl rfl ?_
  refine z_iconst (q := 2) C dX0_forget_1 rfl ?_
  obtain ⟨h1, eh1, hF⟩ := zlet_e hF
  refine z_putf (q := 5) C clX0 (zon C zo_10) kd_10 (k := 0) (x := 0) (by decide) q_204 rfl rfl rfl rfl (((zfv_i kd_10 rfl)).trans (by rw [if_pos rfl])) dX0_forget_2 rfl eh1 ?_
  subst hF
  exact z_vret C e1 e2 dX0_forget_5
set_option maxRecDepth 20000 in
set_option maxHeartbeats 4000000 in
theorem M_fX0_forget {l : Launch} {D : va_G} {cy : ClassId} {α : Nat → Nat} {n : Nat} {σ : zSg} {d : Nat} (hd : 1 ≤ d) {h : zH} {g : zH} (hF : fX0_forget h = g) : zMet l yX0_forget cX0_forget 1 none (zrm d) D cy α n σ [.ref (α 10)] h (none) g := by
  obtain ⟨d, rfl⟩ : ∃ e, d = e + 1 := ⟨d - 1, by omega⟩
  refine z_met (by decide +kernel) (Nat.le_of_ble_eq_true rfl) (fun κ k1 k2 k3 k4 k5 k6 k7 k8 k9 C => ?_)
  subst k1 k3 k4 k5 k6 k7
  exact J_fX0_forget C k2 hd k8 k9 hF
set_option maxRecDepth 20000 in
set_option maxHeartbeats 4000000 in
theorem J_fX3_forget {κ : zT} (C : zC κ RX3 cX3_forget 1 none) {d : Nat} (hR : zR κ = zrm (d + 1)) (hd : 2 ≤ d + 1) {N : Nat} {r : zH} (e1 : zrv κ = none) (e2 : zhf κ = r) {h : zH} (hF : fX3_forget N h = some r) : Z κ h 0 [(0, .ref (zα κ 11))] [] := by
  unfold fX3_forget at hF
  refine z_aload_n (q := 1) C dX3_forget_0 0 rfl rfl rfl ?_
  refine z_getf (q := 4) C clX3 (zon C zo_11) kd_11 (k := 0) (by decide) q_221 rfl (zfv_r kd_11 rfl fr_11_0) dX3_forget_1 rfl ?_
  refine z_iconst (q := 5) C dX3_forget_4 rfl ?_
  obtain ⟨h1, eh1, hF⟩ := zb_e hF
  refine z_callS (q := 8) (av := [.ref (zα κ 43), .int (zi 0)]) (rest := []) (stk2 := []) C hR (M_fJ7_fill_53178 (zlv hd rfl) zo_43 kd_43 eh1) mY_J7_fill_53178 q_611 (Nat.le_of_ble_eq_true rfl) dX3_forget_5 rfl rfl rfl ?_
  have hF := Option.some.inj hF
  subst hF
  exact z_vret C e1 e2 dX3_forget_8
set_option maxRecDepth 20000 in
set_option maxHeartbeats 4000000 in
theorem M_fX3_forget {l : Launch} {D : va_G} {cy : ClassId} {α : Nat → Nat} {n : Nat} {σ : zSg} {d : Nat} (hd : 2 ≤ d) {N : Nat} {h : zH} {g : zH} (hF : fX3_forget N h = some g) : zMet l yX3_forget cX3_forget 1 none (zrm d) D cy α n σ [.ref (α 11)] h (none) g := by
  obtain ⟨d, rfl⟩ : ∃ e, d = e + 1 := ⟨d - 1, by omega⟩
  refine z_met (by decide +kernel) (Nat.le_of_ble_eq_true rfl) (fun κ k1 k2 k3 k4 k5 k6 k7 k8 k9 C => ?_)
  subst k1 k3 k4 k5 k6 k7
  exact J_fX3_forget C k2 hd k8 k9 hF
set_option maxRecDepth 20000 in
set_option maxHeartbeats 4000000 in
theorem J_fX6_forget {κ : zT} (C : zC κ RX6 cX6_forget 1 none) {d : Nat} (hR : zR κ = zrm (d + 1)) (hd : 1 ≤ d + 1) {r : zH} (e1 : zrv κ = none) (e2 : zhf κ = r) {h : zH} (hF : fX6_forget h = r) : Z κ h 0 [(0, .ref (zα κ 12))] [] := by
  unfold fX6_forget at hF
  refine z_aload_n (q := 1) C dX6_forget_0 0 rfl rfl rfl ?_
  refine z_iconst (q := 2) C dX6_forget_1 rfl ?_
  obtain ⟨h1, eh1, hF⟩ := zlet_e hF
  refine z_putf (q := 5) C clX6 (zon C zo_12) kd_12 (k := 5) (x := 0) (by decide) q_237 rfl rfl (zbn (Or.inl rfl)) (zbf (Or.inl rfl)) (((zfv_i kd_12 rfl)).trans (by rw [if_pos rfl])) dX6_forget_2 rfl eh1 ?_
  subst hF
  exact z_vret C e1 e2 dX6_forget_5
set_option maxRecDepth 20000 in
set_option maxHeartbeats 4000000 in
theorem M_fX6_forget {l : Launch} {D : va_G} {cy : ClassId} {α : Nat → Nat} {n : Nat} {σ : zSg} {d : Nat} (hd : 1 ≤ d) {h : zH} {g : zH} (hF : fX6_forget h = g) : zMet l yX6_forget cX6_forget 1 none (zrm d) D cy α n σ [.ref (α 12)] h (none) g := by
  obtain ⟨d, rfl⟩ : ∃ e, d = e + 1 := ⟨d - 1, by omega⟩
  refine z_met (by decide +kernel) (Nat.le_of_ble_eq_true rfl) (fun κ k1 k2 k3 k4 k5 k6 k7 k8 k9 C => ?_)
  subst k1 k3 k4 k5 k6 k7
  exact J_fX6_forget C k2 hd k8 k9 hF
set_option maxRecDepth 20000 in
set_option maxHeartbeats 4000000 in
theorem J_fX7_forget {κ : zT} (C : zC κ RX7 cX7_forget 1 none) {d : Nat} (hR : zR κ = zrm (d + 1)) (hd : 1 ≤ d + 1) {r : zH} (e1 : zrv κ = none) (e2 : zhf κ = r) {h : zH} (hF : fX7_forget h = r) : Z κ h 0 [(0, .ref (zα κ 13))] [] := by
  unfold fX7_forget at hF
  refine z_aload_n (q := 1) C dX7_forget_0 0 rfl rfl rfl ?_
  refine z_iconst (q := 2) C dX7_forget_1 rfl ?_
  obtain ⟨h1, eh1, hF⟩ := zlet_e hF
  refine z_putf (q := 5) C clX7 (zon C zo_13) kd_13 (k := 0) (x := 0) (by decide) q_257 rfl rfl rfl rfl (((zfv_i kd_13 rfl)).trans (by rw [if_pos rfl])) dX7_forget_2 rfl eh1 ?_
  subst hF
  exact z_vret C e1 e2 dX7_forget_5
set_option maxRecDepth 20000 in
set_option maxHeartbeats 4000000 in
theorem M_fX7_forget {l : Launch} {D : va_G} {cy : ClassId} {α : Nat → Nat} {n : Nat} {σ : zSg} {d : Nat} (hd : 1 ≤ d) {h : zH} {g : zH} (hF : fX7_forget h = g) : zMet l yX7_forget cX7_forget 1 none (zrm d) D cy α n σ [.ref (α 13)] h (none) g := by
  obtain ⟨d, rfl⟩ : ∃ e, d = e + 1 := ⟨d - 1, by omega⟩
  refine z_met (by decide +kernel) (Nat.le_of_ble_eq_true rfl) (fun κ k1 k2 k3 k4 k5 k6 k7 k8 k9 C => ?_)
  subst k1 k3 k4 k5 k6 k7
  exact J_fX7_forget C k2 hd k8 k9 hF
