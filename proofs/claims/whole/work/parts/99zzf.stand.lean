/-! rows that rest: the methods that see their array (object 76), once it stands -/
theorem zfv_n {α : Nat → Nat} {n o ci k : Nat} {r : Nat → Int} (hn1 : zN < n) (hd : zkd o = ci) (hk : zfk ci k = 3) : zfv α n o r k = .ref (α 76) := by
  subst hd; unfold zfv; rw [hk]; exact if_pos hn1
theorem kd76 : zkd 76 = 100 := rfl
theorem z_ifnonnull {κ : zT} {own : String} {cc : ByteArray} {nL : Nat} {rt : Option FieldType} {h : zH} {pc q : Nat} {lv : List (Nat × Value)} {st : List Value} (C : zC κ own cc nL rt) {x : Nat} {off : Int} (hdg : decode cc pc = .ok (.ifnonnull off, 3)) (ht : (pc : Int) + off = (q : Int)) (k : Z κ h q lv st) : Z κ h pc lv (.ref x :: st) := by
  intro H locs hP hS ls hl; exact lv_ifnonnull C.1 C.2.1 hdg ht (k H locs hP hS ls hl)
theorem z_ifnull {κ : zT} {own : String} {cc : ByteArray} {nL : Nat} {rt : Option FieldType} {h : zH} {pc q : Nat} {lv : List (Nat × Value)} {st : List Value} (C : zC κ own cc nL rt) {x : Nat} {off : Int} (hdg : decode cc pc = .ok (.ifnull off, 3)) (hq : pc + 3 = q) (k : Z κ h q lv st) : Z κ h pc lv (.ref x :: st) := by
  subst hq; intro H locs hP hS ls hl; exact lv_ifnull C.1 C.2.1 hdg (k H locs hP hS ls hl)
set_option maxRecDepth 20000 in
set_option maxHeartbeats 4000000 in
theorem J_putg {κ : zT} (C : zC κ RX10 cX10_put 3 none) {d : Nat} (hR : zR κ = zrm (d + 1)) (hd : 1 ≤ d + 1) {o0 : Nat} (ho0 : o0 < zn κ) (hd0 : zkd o0 = 100) {r : zH} (e1 : zrv κ = none) (e2 : zhf κ = r) {a1 : Int} {a2 : Int} {h : zH} (hF : fX10_put o0 a1 a2 h = r) : Z κ h 0 [(0, .ref (zα κ o0)), (1, .int (zi a1)), (2, .int (zi a2))] [] := by
  unfold fX10_put at hF
  refine z_iload_n (q := 1) C dX10_put_0 1 rfl rfl rfl ?_
  refine z_if_lt (tgt := 14) (q := 4) C dX10_put_1 (by decide) rfl (fun c1 => ?_) (fun c1 => ?_)
  · have hF := (if_pos c1).symm.trans hF
    subst hF
    exact z_vret C e1 e2 dX10_put_14
  · have hF := (if_neg c1).symm.trans hF
    refine z_iload_n (q := 5) C dX10_put_4 1 rfl rfl rfl ?_
    refine z_aload_n (q := 6) C dX10_put_5 0 rfl rfl rfl ?_
    refine z_alen (q := 7) C ho0 hd0 dX10_put_6 rfl ?_
    refine z_icmp_ge (tgt := 14) (q := 10) C dX10_put_7 (by decide) rfl (fun c2 => ?_) (fun c2 => ?_)
    · have hF := (if_pos c2).symm.trans hF
      subst hF
      exact z_vret C e1 e2 dX10_put_14
    · have hF := (if_neg c2).symm.trans hF
      refine z_aload_n (q := 11) C dX10_put_10 0 rfl rfl rfl ?_
      refine z_iload_n (q := 12) C dX10_put_11 1 rfl rfl rfl ?_
      refine z_iload_n (q := 13) C dX10_put_12 2 rfl rfl rfl ?_
      obtain ⟨h3, eh3, hF⟩ := zlet_e hF
      refine z_iast (q := 14) C ho0 hd0 (by omega) (by have := zlnw o0; omega) dX10_put_13 rfl eh3 ?_
      subst hF
      exact z_vret C e1 e2 dX10_put_14
set_option maxRecDepth 20000 in
set_option maxHeartbeats 4000000 in
theorem M_putg {l : Launch} {D : va_G} {cy : ClassId} {α : Nat → Nat} {n : Nat} {σ : zSg} {d : Nat} (hd : 1 ≤ d) {o0 : Nat} (ho0 : o0 < n) (hd0 : zkd o0 = 100) {a1 : Int} {a2 : Int} {h : zH} {g : zH} (hF : fX10_put o0 a1 a2 h = g) : zMet l yX10_put cX10_put 3 none (zrm d) D cy α n σ [.ref (α o0), .int (zi a1), .int (zi a2)] h (none) g := by
  obtain ⟨d, rfl⟩ : ∃ e, d = e + 1 := ⟨d - 1, by omega⟩
  refine z_met (by decide +kernel) (Nat.le_of_ble_eq_true rfl) (fun κ k1 k2 k3 k4 k5 k6 k7 k8 k9 C => ?_)
  subst k1 k3 k4 k5 k6 k7
  exact J_putg C k2 hd ho0 hd0 k8 k9 hF
set_option maxRecDepth 20000 in
set_option maxHeartbeats 4000000 in
theorem J_atg {κ : zT} (C : zC κ RX10 cX10_at 2 (some .int)) {d : Nat} (hR : zR κ = zrm (d + 1)) (hd : 1 ≤ d + 1) {o0 : Nat} (ho0 : o0 < zn κ) (hd0 : zkd o0 = 100) {h : zH} {r : Int} (e1 : zrv κ = some (.int (zi r))) (e2 : zhf κ = h) {a1 : Int} (hF : fX10_at o0 a1 h = r) : Z κ h 0 [(0, .ref (zα κ o0)), (1, .int (zi a1))] [] := by
  unfold fX10_at at hF
  refine z_iload_n (q := 1) C dX10_at_0 1 rfl rfl rfl ?_
  refine z_if_lt (tgt := 16) (q := 4) C dX10_at_1 (by decide) rfl (fun c1 => ?_) (fun c1 => ?_)
  · have hF := (if_pos c1).symm.trans hF
    refine z_iconst (q := 17) C dX10_at_16 rfl ?_
    subst hF
    exact z_iret C e1 e2 dX10_at_17
  · have hF := (if_neg c1).symm.trans hF
    refine z_iload_n (q := 5) C dX10_at_4 1 rfl rfl rfl ?_
    refine z_aload_n (q := 6) C dX10_at_5 0 rfl rfl rfl ?_
    refine z_alen (q := 7) C ho0 hd0 dX10_at_6 rfl ?_
    refine z_icmp_ge (tgt := 16) (q := 10) C dX10_at_7 (by decide) rfl (fun c2 => ?_) (fun c2 => ?_)
    · have hF := (if_pos c2).symm.trans hF
      refine z_iconst (q := 17) C dX10_at_16 rfl ?_
      subst hF
      exact z_iret C e1 e2 dX10_at_17
    · have hF := (if_neg c2).symm.trans hF
      refine z_aload_n (q := 11) C dX10_at_10 0 rfl rfl rfl ?_
      refine z_iload_n (q := 12) C dX10_at_11 1 rfl rfl rfl ?_
      refine z_iald (q := 13) C ho0 hd0 (by omega) (by have := zlnw o0; omega) dX10_at_12 rfl ?_
      refine z_goto (q := 17) C dX10_at_13 (by decide) ?_
      subst hF
      exact z_iret C e1 e2 dX10_at_17
set_option maxRecDepth 20000 in
set_option maxHeartbeats 4000000 in
theorem M_atg {l : Launch} {D : va_G} {cy : ClassId} {α : Nat → Nat} {n : Nat} {σ : zSg} {d : Nat} (hd : 1 ≤ d) {o0 : Nat} (ho0 : o0 < n) (hd0 : zkd o0 = 100) {a1 : Int} {h : zH} {r : Int} (hF : fX10_at o0 a1 h = r) : zMet l yX10_at cX10_at 2 (some .int) (zrm d) D cy α n σ [.ref (α o0), .int (zi a1)] h (some (.int (zi r))) h := by
  obtain ⟨d, rfl⟩ : ∃ e, d = e + 1 := ⟨d - 1, by omega⟩
  refine z_met (by decide +kernel) (Nat.le_of_ble_eq_true rfl) (fun κ k1 k2 k3 k4 k5 k6 k7 k8 k9 C => ?_)
  subst k1 k3 k4 k5 k6 k7
  exact J_atg C k2 hd ho0 hd0 k8 k9 hF
set_option maxRecDepth 20000 in
set_option maxHeartbeats 4000000 in
theorem J_fX6_findRests_c66b {κ : zT} (C : zC κ RX6 cX6_findRests 5 (some .int)) {d : Nat} (hR : zR κ = zrm (d + 1)) (hd : 5 ≤ d + 1) (hn1 : zN < zn κ) {N : Nat} {o1 : Nat} (ho1 : o1 < zN) (hd1 : zkd o1 = 1) {r : Int × zH} (e1 : zrv κ = some (.int (zi r.1))) (e2 : zhf κ = r.2) {K66 : Int → Int → zH → Option (Int × zH)} (hK66 : ∀ (l2 : Int) (l3 : Int) (h : zH), K66 l2 l3 h = some r → Z κ h 66 [(0, .ref (zα κ 12)), (1, .ref (zα κ o1)), (2, .int (zi l2)), (3, .int (zi l3))] []) (l2 : Int) (l3 : Int) (h : zH) (hF : fX6_findRests_c66b N o1 K66 l2 l3 h = some r) : Z κ h 66 [(0, .ref (zα κ 12)), (1, .ref (zα κ o1)), (2, .int (zi l2)), (3, .int (zi l3))] [] := by
  unfold fX6_findRests_c66b at hF
  refine z_iload_n (q := 67) C dX6_findRests_66 3 rfl rfl rfl ?_
  refine z_iload_n (q := 68) C dX6_findRests_67 2 rfl rfl rfl ?_
  refine z_icmp_ge (tgt := 116) (q := 71) C dX6_findRests_68 (by decide) rfl (fun c1 => ?_) (fun c1 => ?_)
  · have hF := (if_pos c1).symm.trans hF
    refine z_aload_n (q := 117) C dX6_findRests_116 0 rfl rfl rfl ?_
    refine z_iconst (q := 118) C dX6_findRests_117 rfl ?_
    obtain ⟨h2, eh2, hF⟩ := zlet_e hF
    refine z_putf (q := 121) C clX6 (zon C zo_12) kd_12 (k := 5) (x := 1) (by decide) q_237 rfl rfl (zbn (Or.inr rfl)) (zbf (Or.inr rfl)) (((zfv_i kd_12 rfl)).trans (by rw [if_pos rfl])) dX6_findRests_118 rfl eh2 ?_
    refine z_aload_n (q := 122) C dX6_findRests_121 0 rfl rfl rfl ?_
    refine z_getf (q := 125) C clX6 (zon C zo_12) kd_12 (k := 4) (by decide) q_236 rfl (zfv_i kd_12 rfl) dX6_findRests_122 rfl ?_
    have hF := Option.some.inj hF
    subst hF
    exact z_iret C e1 e2 dX6_findRests_125
  · have hF := (if_neg c1).symm.trans hF
    refine z_aload_n (q := 72) C dX6_findRests_71 0 rfl rfl rfl ?_
    refine z_aload_n (q := 73) C dX6_findRests_72 1 rfl rfl rfl ?_
    refine z_iload_n (q := 74) C dX6_findRests_73 3 rfl rfl rfl ?_
    obtain ⟨v4, h3, ev4, hF⟩ := z2_e hF
    refine z_callV (q := 77) (o := 12) (av := [.ref (zα κ o1), .int (zi l3)]) (rest := []) (stk2 := [.int (zi v4)]) C hR clX6 (zon C zo_12) kd_12 (M_fX6_chooseNth (zlv hd rfl) ho1 hd1 ev4) mY_X6_chooseNth q_956 (Nat.le_of_ble_eq_true rfl) dX6_findRests_74 rfl rfl rfl ?_
    refine z_istore (q := 79) C dX6_findRests_77 (by decide) rfl rfl ?_
    refine z_aload_n (q := 80) C dX6_findRests_79 1 rfl rfl rfl ?_
    refine z_aload_n (q := 81) C dX6_findRests_80 2 rfl rfl rfl ?_
    obtain ⟨v6, h5, ev6, hF⟩ := z2_e hF
    refine z_callV (q := 84) (o := 12) (av := [.ref (zα κ o1)]) (rest := []) (stk2 := [.int (zi v6)]) C hR clX6 (zon C zo_12) kd_12 (M_fX6_isAtRest (zlv hd rfl) ho1 hd1 ev6) mY_X6_isAtRest q_961 (Nat.le_of_ble_eq_true rfl) dX6_findRests_81 rfl rfl rfl ?_
    refine z_if_eq (tgt := 110) (q := 87) C dX6_findRests_84 (by decide) rfl (fun c7 => ?_) (fun c7 => ?_)
    · have hF := (if_pos c7).symm.trans hF
      refine z_iinc (q := 113) (x := l3) C dX6_findRests_110 (j := 4) rfl (by decide) rfl rfl ?_
      refine z_goto (q := 66) C dX6_findRests_113 (by decide) ?_
      exact z_sub (hK66 _ _ _ hF) [2, 3, 4, 0] rfl
    · have hF := (if_neg c7).symm.trans hF
      refine z_aload_n (q := 88) C dX6_findRests_87 1 rfl rfl rfl ?_
      refine z_getf (q := 91) C clX6 (zon C zo_12) kd_12 (k := 3) (by decide) q_235 rfl (zfv_n hn1 kd_12 rfl) dX6_findRests_88 rfl ?_
      refine z_aload_n (q := 92) C dX6_findRests_91 1 rfl rfl rfl ?_
      refine z_getf (q := 95) C clX6 (zon C zo_12) kd_12 (k := 4) (by decide) q_236 rfl (zfv_i kd_12 rfl) dX6_findRests_92 rfl ?_
      refine z_iload (q := 97) C dX6_findRests_95 0 rfl rfl ?_
      obtain ⟨h8, eh8, hF⟩ := zlet_e hF
      refine z_callSN (q := 100) (av := [.ref (zα κ 76), .int (zi (h5 12 4)), .int (zi v4)]) (rest := []) (stk2 := []) C hR (M_putg (zlv hd rfl) hn1 kd76 eh8.symm) mY_X10_put q_942 (Nat.le_of_ble_eq_true rfl) dX6_findRests_97 rfl rfl rfl ?_
      refine z_aload_n (q := 101) C dX6_findRests_100 1 rfl rfl rfl ?_
      refine z_dup (q := 102) C dX6_findRests_101 rfl rfl ?_
      refine z_getf (q := 105) C clX6 (zon C zo_12) kd_12 (k := 4) (by decide) q_236 rfl (zfv_i kd_12 rfl) dX6_findRests_102 rfl ?_
      refine z_iconst (q := 106) C dX6_findRests_105 rfl ?_
      refine z_iadd (q := 107) C dX6_findRests_106 rfl ?_
      obtain ⟨h9, eh9, hF⟩ := zlet_e hF
      refine z_putf (q := 110) C clX6 (zon C zo_12) kd_12 (k := 4) (x := (h8 12 4) + 1) (by decide) q_236 rfl rfl rfl rfl (((zfv_i kd_12 rfl)).trans (by rw [if_pos rfl])) dX6_findRests_107 rfl eh9 ?_
      refine z_iinc (q := 113) (x := l3) C dX6_findRests_110 (j := 4) rfl (by decide) rfl rfl ?_
      refine z_goto (q := 66) C dX6_findRests_113 (by decide) ?_
      exact z_sub (hK66 _ _ _ hF) [2, 3, 4, 0] rfl
set_option maxRecDepth 20000 in
set_option maxHeartbeats 4000000 in
theorem J_fX6_findRests_c66 {κ : zT} (C : zC κ RX6 cX6_findRests 5 (some .int)) {d : Nat} (hR : zR κ = zrm (d + 1)) (hd : 5 ≤ d + 1) (hn1 : zN < zn κ) {N : Nat} {o1 : Nat} (ho1 : o1 < zN) (hd1 : zkd o1 = 1) {r : Int × zH} (e1 : zrv κ = some (.int (zi r.1))) (e2 : zhf κ = r.2) : ∀ (k : Nat) (l2 : Int) (l3 : Int) (h : zH), fX6_findRests_c66 N o1 k l2 l3 h = some r → Z κ h 66 [(0, .ref (zα κ 12)), (1, .ref (zα κ o1)), (2, .int (zi l2)), (3, .int (zi l3))] [] := by
  intro k
  induction k with
  | zero => intro l2 l3 h hF; cases hF
  | succ k ih => intro l2 l3 h hF; exact J_fX6_findRests_c66b C hR hd hn1 ho1 hd1 e1 e2 ih l2 l3 h hF
set_option maxRecDepth 20000 in
set_option maxHeartbeats 4000000 in
theorem J_fX6_findRests_c42b {κ : zT} (C : zC κ RX6 cX6_findRests 5 (some .int)) {d : Nat} (hR : zR κ = zrm (d + 1)) (hd : 5 ≤ d + 1) (hn1 : zN < zn κ) {N : Nat} {o1 : Nat} (ho1 : o1 < zN) (hd1 : zkd o1 = 1) {r : Int × zH} (e1 : zrv κ = some (.int (zi r.1))) (e2 : zhf κ = r.2) {K42 : Int → Int → zH → Option (Int × zH)} (hK42 : ∀ (l2 : Int) (l3 : Int) (h : zH), K42 l2 l3 h = some r → Z κ h 42 [(0, .ref (zα κ 12)), (1, .ref (zα κ o1)), (2, .int (zi l2)), (3, .int (zi l3))] []) (l2 : Int) (l3 : Int) (h : zH) (hF : fX6_findRests_c42b N o1 K42 l2 l3 h = some r) : Z κ h 42 [(0, .ref (zα κ 12)), (1, .ref (zα κ o1)), (2, .int (zi l2)), (3, .int (zi l3))] [] := by
  unfold fX6_findRests_c42b at hF
  refine z_iload_n (q := 43) C dX6_findRests_42 3 rfl rfl rfl ?_
  refine z_aload_n (q := 44) C dX6_findRests_43 1 rfl rfl rfl ?_
  refine z_iconst (q := 45) C dX6_findRests_44 rfl ?_
  refine z_callV (q := 48) (o := o1) (av := [.int (zi 1)]) (rest := [.int (zi l3)]) (stk2 := [.int (zi (fX1_many o1 1 h)), .int (zi l3)]) C hR clX1 (zon C ho1) hd1 (M_fX1_many (zlv hd rfl) ho1 hd1 rfl) mY_X1_many q_939 (Nat.le_of_ble_eq_true rfl) dX6_findRests_45 rfl rfl rfl ?_
  refine z_icmp_ge (tgt := 64) (q := 51) C dX6_findRests_48 (by decide) rfl (fun c1 => ?_) (fun c1 => ?_)
  · have hF := (if_pos c1).symm.trans hF
    refine z_iconst (q := 65) C dX6_findRests_64 rfl ?_
    refine z_istore_n (q := 66) C dX6_findRests_65 (by decide) rfl rfl rfl ?_
    exact z_sub (J_fX6_findRests_c66 C hR hd hn1 ho1 hd1 e1 e2 N _ _ _ hF) [1, 2, 3, 0] rfl
  · have hF := (if_neg c1).symm.trans hF
    refine z_iload_n (q := 52) C dX6_findRests_51 2 rfl rfl rfl ?_
    refine z_aload_n (q := 53) C dX6_findRests_52 0 rfl rfl rfl ?_
    refine z_getf (q := 56) C clX6 (zon C zo_12) kd_12 (k := 2) (by decide) q_234 rfl (zfv_i kd_12 rfl) dX6_findRests_53 rfl ?_
    refine z_imul (q := 57) C dX6_findRests_56 rfl ?_
    obtain ⟨v2, ev2, hF⟩ := zlet_e hF
    refine z_istoreE_n (q := 58) C ev2 dX6_findRests_57 (by decide) rfl rfl rfl ?_
    refine z_iinc (q := 61) (x := l3) C dX6_findRests_58 (j := 3) rfl (by decide) rfl rfl ?_
    refine z_goto (q := 42) C dX6_findRests_61 (by decide) ?_
    exact z_sub (hK42 _ _ _ hF) [2, 3, 1, 0] rfl
set_option maxRecDepth 20000 in
set_option maxHeartbeats 4000000 in
theorem J_fX6_findRests_c42 {κ : zT} (C : zC κ RX6 cX6_findRests 5 (some .int)) {d : Nat} (hR : zR κ = zrm (d + 1)) (hd : 5 ≤ d + 1) (hn1 : zN < zn κ) {N : Nat} {o1 : Nat} (ho1 : o1 < zN) (hd1 : zkd o1 = 1) {r : Int × zH} (e1 : zrv κ = some (.int (zi r.1))) (e2 : zhf κ = r.2) : ∀ (k : Nat) (l2 : Int) (l3 : Int) (h : zH), fX6_findRests_c42 N o1 k l2 l3 h = some r → Z κ h 42 [(0, .ref (zα κ 12)), (1, .ref (zα κ o1)), (2, .int (zi l2)), (3, .int (zi l3))] [] := by
  intro k
  induction k with
  | zero => intro l2 l3 h hF; cases hF
  | succ k ih => intro l2 l3 h hF; exact J_fX6_findRests_c42b C hR hd hn1 ho1 hd1 e1 e2 ih l2 l3 h hF
set_option maxRecDepth 20000 in
set_option maxHeartbeats 4000000 in
theorem J_fX6_findRests {κ : zT} (C : zC κ RX6 cX6_findRests 5 (some .int)) {d : Nat} (hR : zR κ = zrm (d + 1)) (hd : 5 ≤ d + 1) (hn1 : zN < zn κ) {N : Nat} {o1 : Nat} (ho1 : o1 < zN) (hd1 : zkd o1 = 1) {r : Int × zH} (e1 : zrv κ = some (.int (zi r.1))) (e2 : zhf κ = r.2) {h : zH} (hF : fX6_findRests N o1 h = some r) : Z κ h 0 [(0, .ref (zα κ 12)), (1, .ref (zα κ o1))] [] := by
  unfold fX6_findRests at hF
  refine z_aload_n (q := 1) C dX6_findRests_0 0 rfl rfl rfl ?_
  refine z_getf (q := 4) C clX6 (zon C zo_12) kd_12 (k := 5) (by decide) q_237 rfl (zfv_i kd_12 rfl) dX6_findRests_1 rfl ?_
  refine z_if_eq (tgt := 12) (q := 7) C dX6_findRests_4 (by decide) rfl (fun c1 => ?_) (fun c1 => ?_)
  · have hF := (if_pos c1).symm.trans hF
    refine z_aload_n (q := 13) C dX6_findRests_12 0 rfl rfl rfl ?_
    refine z_getf (q := 16) C clX6 (zon C zo_12) kd_12 (k := 3) (by decide) q_235 rfl (zfv_n hn1 kd_12 rfl) dX6_findRests_13 rfl ?_
    refine z_ifnonnull (q := 28) C dX6_findRests_16 (by decide) ?_
    refine z_aload_n (q := 29) C dX6_findRests_28 0 rfl rfl rfl ?_
    refine z_aload_n (q := 30) C dX6_findRests_29 1 rfl rfl rfl ?_
    obtain ⟨h2, eh2, hF⟩ := zb_e hF
    refine z_callV (q := 33) (o := 12) (av := [.ref (zα κ o1)]) (rest := []) (stk2 := []) C hR clX6 (zon C zo_12) kd_12 (M_fX6_listForms (zlv hd rfl) ho1 hd1 eh2) mY_X6_listForms q_952 (Nat.le_of_ble_eq_true rfl) dX6_findRests_30 rfl rfl rfl ?_
    refine z_aload_n (q := 34) C dX6_findRests_33 0 rfl rfl rfl ?_
    refine z_iconst (q := 35) C dX6_findRests_34 rfl ?_
    obtain ⟨h3, eh3, hF⟩ := zlet_e hF
    refine z_putf (q := 38) C clX6 (zon C zo_12) kd_12 (k := 4) (x := 0) (by decide) q_236 rfl rfl rfl rfl (((zfv_i kd_12 rfl)).trans (by rw [if_pos rfl])) dX6_findRests_35 rfl eh3 ?_
    refine z_iconst (q := 39) C dX6_findRests_38 rfl ?_
    refine z_istore_n (q := 40) C dX6_findRests_39 (by decide) rfl rfl rfl ?_
    refine z_iconst (q := 41) C dX6_findRests_40 rfl ?_
    refine z_istore_n (q := 42) C dX6_findRests_41 (by decide) rfl rfl rfl ?_
    exact z_sub (J_fX6_findRests_c42 C hR hd hn1 ho1 hd1 e1 e2 N _ _ _ hF) [2, 3, 1, 0] rfl
  · have hF := (if_neg c1).symm.trans hF
    refine z_aload_n (q := 8) C dX6_findRests_7 0 rfl rfl rfl ?_
    refine z_getf (q := 11) C clX6 (zon C zo_12) kd_12 (k := 4) (by decide) q_236 rfl (zfv_i kd_12 rfl) dX6_findRests_8 rfl ?_
    have hF := Option.some.inj hF
    subst hF
    exact z_iret C e1 e2 dX6_findRests_11
set_option maxRecDepth 20000 in
set_option maxHeartbeats 4000000 in
theorem M_fX6_findRests {l : Launch} {D : va_G} {cy : ClassId} {α : Nat → Nat} {n : Nat} {σ : zSg} {d : Nat} (hd : 5 ≤ d) (hn1 : zN < n) {N : Nat} {o1 : Nat} (ho1 : o1 < zN) (hd1 : zkd o1 = 1) {h : zH} {r : Int} {g : zH} (hF : fX6_findRests N o1 h = some (r, g)) : zMet l yX6_findRests cX6_findRests 5 (some .int) (zrm d) D cy α n σ [.ref (α 12), .ref (α o1)] h (some (.int (zi r))) g := by
  obtain ⟨d, rfl⟩ : ∃ e, d = e + 1 := ⟨d - 1, by omega⟩
  refine z_met (by decide +kernel) (Nat.le_of_ble_eq_true rfl) (fun κ k1 k2 k3 k4 k5 k6 k7 k8 k9 C => ?_)
  subst k1 k3 k4 k5 k6 k7
  exact J_fX6_findRests C k2 hd hn1 ho1 hd1 k8 k9 hF
set_option maxRecDepth 20000 in
set_option maxHeartbeats 4000000 in
theorem J_fX6_rest {κ : zT} (C : zC κ RX6 cX6_rest 2 (some .int)) {d : Nat} (hR : zR κ = zrm (d + 1)) (hd : 2 ≤ d + 1) (hn1 : zN < zn κ) {h : zH} {r : Int} (e1 : zrv κ = some (.int (zi r))) (e2 : zhf κ = h) {a1 : Int} (hF : fX6_rest a1 h = r) : Z κ h 0 [(0, .ref (zα κ 12)), (1, .int (zi a1))] [] := by
  unfold fX6_rest at hF
  refine z_aload_n (q := 1) C dX6_rest_0 0 rfl rfl rfl ?_
  refine z_getf (q := 4) C clX6 (zon C zo_12) kd_12 (k := 3) (by decide) q_235 rfl (zfv_n hn1 kd_12 rfl) dX6_rest_1 rfl ?_
  refine z_ifnull (q := 7) C dX6_rest_4 rfl ?_
  refine z_aload_n (q := 8) C dX6_rest_7 0 rfl rfl rfl ?_
  refine z_getf (q := 11) C clX6 (zon C zo_12) kd_12 (k := 5) (by decide) q_237 rfl (zfv_i kd_12 rfl) dX6_rest_8 rfl ?_
  refine z_if_eq (tgt := 37) (q := 14) C dX6_rest_11 (by decide) rfl (fun c1 => ?_) (fun c1 => ?_)
  · have hF := (if_pos c1).symm.trans hF
    refine z_iconst (q := 38) C dX6_rest_37 rfl ?_
    subst hF
    exact z_iret C e1 e2 dX6_rest_38
  · have hF := (if_neg c1).symm.trans hF
    refine z_iload_n (q := 15) C dX6_rest_14 1 rfl rfl rfl ?_
    refine z_if_lt (tgt := 37) (q := 18) C dX6_rest_15 (by decide) rfl (fun c2 => ?_) (fun c2 => ?_)
    · have hF := (if_pos c2).symm.trans hF
      refine z_iconst (q := 38) C dX6_rest_37 rfl ?_
      subst hF
      exact z_iret C e1 e2 dX6_rest_38
    · have hF := (if_neg c2).symm.trans hF
      refine z_iload_n (q := 19) C dX6_rest_18 1 rfl rfl rfl ?_
      refine z_aload_n (q := 20) C dX6_rest_19 0 rfl rfl rfl ?_
      refine z_getf (q := 23) C clX6 (zon C zo_12) kd_12 (k := 4) (by decide) q_236 rfl (zfv_i kd_12 rfl) dX6_rest_20 rfl ?_
      refine z_icmp_ge (tgt := 37) (q := 26) C dX6_rest_23 (by decide) rfl (fun c3 => ?_) (fun c3 => ?_)
      · have hF := (if_pos c3).symm.trans hF
        refine z_iconst (q := 38) C dX6_rest_37 rfl ?_
        subst hF
        exact z_iret C e1 e2 dX6_rest_38
      · have hF := (if_neg c3).symm.trans hF
        refine z_aload_n (q := 27) C dX6_rest_26 0 rfl rfl rfl ?_
        refine z_getf (q := 30) C clX6 (zon C zo_12) kd_12 (k := 3) (by decide) q_235 rfl (zfv_n hn1 kd_12 rfl) dX6_rest_27 rfl ?_
        refine z_iload_n (q := 31) C dX6_rest_30 1 rfl rfl rfl ?_
        refine z_callSN (q := 34) (av := [.ref (zα κ 76), .int (zi a1)]) (rest := []) (stk2 := [.int (zi (fX10_at 76 a1 h))]) C hR (M_atg (zlv hd rfl) hn1 kd76 rfl) mY_X10_at q_960 (Nat.le_of_ble_eq_true rfl) dX6_rest_31 rfl rfl rfl ?_
        refine z_goto (q := 38) C dX6_rest_34 (by decide) ?_
        subst hF
        exact z_iret C e1 e2 dX6_rest_38
set_option maxRecDepth 20000 in
set_option maxHeartbeats 4000000 in
theorem M_fX6_rest {l : Launch} {D : va_G} {cy : ClassId} {α : Nat → Nat} {n : Nat} {σ : zSg} {d : Nat} (hd : 2 ≤ d) (hn1 : zN < n) {a1 : Int} {h : zH} {r : Int} (hF : fX6_rest a1 h = r) : zMet l yX6_rest cX6_rest 2 (some .int) (zrm d) D cy α n σ [.ref (α 12), .int (zi a1)] h (some (.int (zi r))) h := by
  obtain ⟨d, rfl⟩ : ∃ e, d = e + 1 := ⟨d - 1, by omega⟩
  refine z_met (by decide +kernel) (Nat.le_of_ble_eq_true rfl) (fun κ k1 k2 k3 k4 k5 k6 k7 k8 k9 C => ?_)
  subst k1 k3 k4 k5 k6 k7
  exact J_fX6_rest C k2 hd hn1 k8 k9 hF
set_option maxRecDepth 20000 in
set_option maxHeartbeats 4000000 in
theorem J_fX10_rests {κ : zT} (C : zC κ RX10 cX10_rests 3 (some .int)) {d : Nat} (hR : zR κ = zrm (d + 1)) (hd : 6 ≤ d + 1) (hn1 : zN < zn κ) {N : Nat} {r : Int × zH} (e1 : zrv κ = some (.int (zi r.1))) (e2 : zhf κ = r.2) {a1 : Int} {h : zH} (hF : fX10_rests N a1 h = some r) : Z κ h 0 [(0, .ref (zα κ 0)), (1, .int (zi a1))] [] := by
  unfold fX10_rests at hF
  refine z_aload_n (q := 1) C dX10_rests_0 0 rfl rfl rfl ?_
  refine z_callV (q := 4) (o := 0) (av := []) (rest := []) (stk2 := [.int (zi (fX10_hasHill h))]) C hR clX10 (zon C zo_0) kd_0 (M_fX10_hasHill (zlv hd rfl) rfl) mY_X10_hasHill q_625 (Nat.le_of_ble_eq_true rfl) dX10_rests_1 rfl rfl rfl ?_
  refine z_if_ne (tgt := 9) (q := 7) C dX10_rests_4 (by decide) rfl (fun c1 => ?_) (fun c1 => ?_)
  · have hF := (if_neg c1).symm.trans hF
    refine z_aload_n (q := 10) C dX10_rests_9 0 rfl rfl rfl ?_
    refine z_getf (q := 13) C clX10 (zon C zo_0) kd_0 (k := 1) (by decide) q_272 rfl (zfv_r kd_0 rfl fr_0_1) dX10_rests_10 rfl ?_
    refine z_iconst (q := 14) C dX10_rests_13 rfl ?_
    refine z_callV (q := 17) (o := 2) (av := [.int (zi 1)]) (rest := []) (stk2 := [.int (zi (fX1_many 2 1 h))]) C hR clX1 (zon C zo_2) kd_2 (M_fX1_many (zlv hd rfl) zo_2 kd_2 rfl) mY_X1_many q_620 (Nat.le_of_ble_eq_true rfl) dX10_rests_14 rfl rfl rfl ?_
    refine z_iconst (q := 18) C dX10_rests_17 rfl ?_
    refine z_icmp_le (tgt := 24) (q := 21) C dX10_rests_18 (by decide) rfl (fun c2 => ?_) (fun c2 => ?_)
    · have hF := (if_pos c2).symm.trans hF
      refine z_aload_n (q := 25) C dX10_rests_24 0 rfl rfl rfl ?_
      refine z_getf (q := 28) C clX10 (zon C zo_0) kd_0 (k := 11) (by decide) q_282 rfl (zfv_r kd_0 rfl fr_0_11) dX10_rests_25 rfl ?_
      refine z_aload_n (q := 29) C dX10_rests_28 0 rfl rfl rfl ?_
      refine z_getf (q := 32) C clX10 (zon C zo_0) kd_0 (k := 1) (by decide) q_272 rfl (zfv_r kd_0 rfl fr_0_1) dX10_rests_29 rfl ?_
      obtain ⟨v4, h3, ev4, hF⟩ := z2_e hF
      refine z_callV (q := 35) (o := 12) (av := [.ref (zα κ 2)]) (rest := []) (stk2 := [.int (zi v4)]) C hR clX6 (zon C zo_12) kd_12 (M_fX6_findRests (zlv hd rfl) hn1 zo_2 kd_2 ev4) mY_X6_findRests q_948 (Nat.le_of_ble_eq_true rfl) dX10_rests_32 rfl rfl rfl ?_
      refine z_istore_n (q := 36) C dX10_rests_35 (by decide) rfl rfl rfl ?_
      refine z_iload_n (q := 37) C dX10_rests_36 2 rfl rfl rfl ?_
      refine z_iconst (q := 38) C dX10_rests_37 rfl ?_
      refine z_icmp_ne (tgt := 45) (q := 41) C dX10_rests_38 (by decide) rfl (fun c5 => ?_) (fun c5 => ?_)
      · have hF := (if_neg c5).symm.trans hF
        refine z_aload_n (q := 46) C dX10_rests_45 1 rfl rfl rfl ?_
        refine z_getf (q := 49) C clX10 (zon C zo_0) kd_0 (k := 11) (by decide) q_282 rfl (zfv_r kd_0 rfl fr_0_11) dX10_rests_46 rfl ?_
        refine z_iload_n (q := 50) C dX10_rests_49 2 rfl rfl rfl ?_
        refine z_callV (q := 53) (o := 12) (av := [.int (zi a1)]) (rest := []) (stk2 := [.int (zi (fX6_rest a1 h3))]) C hR clX6 (zon C zo_12) kd_12 (M_fX6_rest (zlv hd rfl) hn1 rfl) mY_X6_rest q_966 (Nat.le_of_ble_eq_true rfl) dX10_rests_50 rfl rfl rfl ?_
        have hF := Option.some.inj hF
        subst hF
        exact z_iret C e1 e2 dX10_rests_53
      · have hF := (if_pos c5).symm.trans hF
        refine z_iload_n (q := 42) C dX10_rests_41 0 rfl rfl rfl ?_
        refine z_goto (q := 53) C dX10_rests_42 (by decide) ?_
        have hF := Option.some.inj hF
        subst hF
        exact z_iret C e1 e2 dX10_rests_53
    · have hF := (if_neg c2).symm.trans hF
      refine z_ldc (q := 23) C kc_RX10_221 dX10_rests_21 rfl ?_
      have hF := Option.some.inj hF
      subst hF
      exact z_iret C e1 e2 dX10_rests_23
  · have hF := (if_pos c1).symm.trans hF
    refine z_iconst (q := 8) C dX10_rests_7 rfl ?_
    have hF := Option.some.inj hF
    subst hF
    exact z_iret C e1 e2 dX10_rests_8
set_option maxRecDepth 20000 in
set_option maxHeartbeats 4000000 in
theorem M_fX10_rests {l : Launch} {D : va_G} {cy : ClassId} {α : Nat → Nat} {n : Nat} {σ : zSg} {d : Nat} (hd : 6 ≤ d) (hn1 : zN < n) {N : Nat} {a1 : Int} {h : zH} {r : Int} {g : zH} (hF : fX10_rests N a1 h = some (r, g)) : zMet l yX10_rests cX10_rests 3 (some .int) (zrm d) D cy α n σ [.ref (α 0), .int (zi a1)] h (some (.int (zi r))) g := by
  obtain ⟨d, rfl⟩ : ∃ e, d = e + 1 := ⟨d - 1, by omega⟩
  refine z_met (by decide +kernel) (Nat.le_of_ble_eq_true rfl) (fun κ k1 k2 k3 k4 k5 k6 k7 k8 k9 C => ?_)
  subst k1 k3 k4 k5 k6 k7
  exact J_fX10_rests C k2 hd hn1 k8 k9 hF
