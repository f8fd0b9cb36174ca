/-! parish: it answers, or it throws and the law's own method catches -/
theorem px_self (vm : Vm) (c : ClassId) : vm.assignable c c = true := by
  show vm.assignableAux (255 + 1) c c = true
  rw [Vm.assignableAux]
  simp only [beq_self_eq_true, Bool.true_or]
theorem px_cast {s : State} {args : Array Value} {E : String} {n : Nat} (h : (Cond.instantiable E n).before args s = true) : (Cond.castable E E).before args s = true := by
  obtain ⟨c1, k, hc1, -⟩ := Cond.instantiable_spec h
  simp [Cond.before, Cond.holds, Cond.value, hc1, px_self]
theorem px_decl {s : State} {args : Array Value} {y : MethodName} {b : ByteArray} {n : Nat} {rt : Option FieldType} (h1 : (Cond.instanceMethod y).before args s = true) (h2 : (Cond.code y b n rt).before args s = true) : (Cond.declares y).before args s = true := by
  obtain ⟨mk, meth, hn, hm, hst, -⟩ := Cond.instanceMethod_spec h1
  obtain ⟨meth2, c2, hm2, -, -, -, -, -, -, hsig⟩ := Cond.code_spec hn h2
  cases Option.some.inj (hm.symm.trans hm2)
  simp [Cond.before, Cond.holds, Cond.value, hn, hm, hst, hsig]
abbrev pxE : String := "java/util/NoSuchElementException"
abbrev pxN : List String := ["java/lang/RuntimeException", "java/lang/Exception"]
def pxL : List Nat := [127, 1164, 1173, 1175, 1178, 1180, 1165, 1166, 138, 139, 1167, 1172, 1176, 1192, 1154, 1193, 1156, 1194, 1158, 1168, 1170, 1160, 1182, 1183, 1184, 1185, 1186, 1187, 1188, 1189, 1190, 1181, 1143, 1151, 1152, 1153, 1155, 1157, 1159, 1163, 1162, 1161]
def pxS : List Cond := pxL.filterMap (fun i => lw_tbl[i]?)
theorem pxS_in : ∀ w ∈ pxS, w ∈ lw_tbl := by
  intro w hw
  obtain ⟨i, -, hi⟩ := List.mem_filterMap.mp hw
  exact List.mem_of_getElem? hi
theorem px_g1 : ∀ w ∈ (vx_at0 RX10 140 pxE pxN).filter goodWord, w ∈ pxS := by decide +kernel
theorem px_g2 : ∀ w ∈ (vx_at0 RX10 140 pxE pxN).filter (fun w => !goodWord w), w ∈ ([.castable pxE pxE, .declares ⟨"java/lang/RuntimeException", "<init>", "()V"⟩, .declares ⟨"java/lang/Exception", "<init>", "()V"⟩, .declares ⟨"java/lang/Throwable", "<init>", "()V"⟩] : List Cond) := by decide +kernel
theorem px_ok : ∀ w ∈ Cond.classLink RX10 138 pxE :: Cond.initialized pxE :: vx_at0 RX10 140 pxE pxN, vx_ot w = true := by decide +kernel
theorem px_hat {s : State} {args : Array Value} (ht : ∀ w ∈ zTb', w.before args s = true) : ∀ w ∈ vx_at0 RX10 140 pxE pxN, w.before args s = true :=
  vx_hat (fun w hw => ht w (z_in (pxS_in w (px_g1 w hw)) (List.mem_filter.mp hw).2)) px_g2 (vx_c (px_cast (ht _ (z_in q_1036 rfl))) (vx_c (px_decl (ht _ (z_in q_1078 rfl)) (ht _ (z_in q_1079 rfl))) (vx_c (px_decl (ht _ (z_in q_1081 rfl)) (ht _ (z_in q_1082 rfl))) (vx_c (px_decl (ht _ (z_in q_1058 rfl)) (ht _ (z_in q_1059 rfl))) vx_n))))
/-! the statics of Throwable -/
def px_Z (A : Nat → Prop) (U : State) (H : Heap) : Prop := ∀ i, i < 3 → vx_Zq (zZq i).1 (zZq i).2.1 (zZq i).2.2 A U H
theorem px_Z.kept {A : Nat → Prop} {U : State} {H H1 : Heap} (h : px_Z A U H) (hq : ∀ a : Nat, a < H.size → ¬ A a → H1[a]? = H[a]?) : px_Z A U H1 := fun i hi => (h i hi).kept hq
theorem px_Z.narrow {A B : Nat → Prop} {U : State} {H : Heap} (h : px_Z A U H) (hAB : ∀ q, B q → A q) : px_Z B U H := fun i hi => (h i hi).narrow hAB
theorem px_Z.warm {A : Nat → Prop} {u U : State} {H : Heap} (hW : u.WarmedH U.vm) (h : px_Z A u H) : px_Z A U H := fun i hi => vx_Zq.moved hW.alike (h i hi)
theorem px_Z.same {A : Nat → Prop} {u U : State} {H : Heap} (hv : U.vm = u.vm) (h : px_Z A u H) : px_Z A U H := fun i hi => vx_Zq.moved (by rw [hv]; exact Vm.Alike.refl _) (h i hi)
/-! SunDesk.parish where it answers -/
set_option maxRecDepth 20000 in
set_option maxHeartbeats 4000000 in
theorem M_parishOk {l : Launch} {D : va_G} {cy : ClassId} {α : Nat → Nat} {n : Nat} {σ : zSg} {d : Nat} (hd : 4 ≤ d) {a1 a2 : Int} {h : zH} {r : Int} (c1 : ¬ zw (fX1_has 2 1 a1 h) = 0) (c2 : ¬ zw a2 < 0) (c3 : zw a2 ≤ zw 8) (hF : (if zw a2 ≤ zw 2 then fX1_item 2 1 a1 a2 h else fX8_of 7 ((a2 - 2) - 1) a1 h) = r) : zMet l yX10_parish cX10_parish 3 (some .int) (zrm d) D cy α n σ [.ref (α 0), .int (zi a1), .int (zi a2)] h (some (.int (zi r))) h := by
  obtain ⟨d, rfl⟩ : ∃ e, d = e + 1 := ⟨d - 1, by omega⟩
  refine z_met (by decide +kernel) (Nat.le_of_ble_eq_true rfl) (fun κ k1 k2 k3 k4 k5 k6 k7 k8 k9 C => ?_)
  subst k1 k3 k4 k5 k6 k7
  have hR := k2
  refine z_aload_n (q := 1) C dX10_parish_0 0 rfl rfl rfl ?_
  refine z_getf (q := 4) C clX10 (zon C zo_0) kd_0 (k := 1) (by decide) q_272 rfl (zfv_r kd_0 rfl fr_0_1) dX10_parish_1 rfl ?_
  refine z_iconst (q := 5) C dX10_parish_4 rfl ?_
  refine z_iload_n (q := 6) C dX10_parish_5 1 rfl rfl rfl ?_
  refine z_callV (q := 9) (o := 2) (av := [.int (zi 1), .int (zi a1)]) (rest := []) (stk2 := [.int (zi (fX1_has 2 1 a1 h))]) C hR clX1 (zon C zo_2) kd_2 (M_fX1_has (zlv hd rfl) zo_2 kd_2 rfl) mY_X1_has q_634 (Nat.le_of_ble_eq_true rfl) dX10_parish_6 rfl rfl rfl ?_
  refine z_if_eq (tgt := 22) (q := 12) C dX10_parish_9 (by decide) rfl (fun e => absurd e c1) (fun _ => ?_)
  refine z_iload_n (q := 13) C dX10_parish_12 2 rfl rfl rfl ?_
  refine z_if_lt (tgt := 22) (q := 16) C dX10_parish_13 (by decide) rfl (fun e => absurd e c2) (fun _ => ?_)
  refine z_iload_n (q := 17) C dX10_parish_16 2 rfl rfl rfl ?_
  refine z_bipush (q := 19) C dX10_parish_17 (by decide) rfl ?_
  refine z_icmp_le (tgt := 30) (q := 22) C dX10_parish_19 (by decide) rfl (fun _ => ?_) (fun e => absurd c3 e)
  refine z_iload_n (q := 31) C dX10_parish_30 2 rfl rfl rfl ?_
  refine z_iconst (q := 32) C dX10_parish_31 rfl ?_
  refine z_icmp_gt (tgt := 48) (q := 35) C dX10_parish_32 (by decide) rfl (fun c4 => ?_) (fun c4 => ?_)
  · have hF := (if_neg (Int.not_le.mpr c4)).symm.trans hF
    refine z_aload_n (q := 49) C dX10_parish_48 0 rfl rfl rfl ?_
    refine z_getf (q := 52) C clX10 (zon C zo_0) kd_0 (k := 6) (by decide) q_277 rfl (zfv_r kd_0 rfl fr_0_6) dX10_parish_49 rfl ?_
    refine z_iload_n (q := 53) C dX10_parish_52 2 rfl rfl rfl ?_
    refine z_iconst (q := 54) C dX10_parish_53 rfl ?_
    refine z_isub (q := 55) C dX10_parish_54 rfl ?_
    refine z_iconst (q := 56) C dX10_parish_55 rfl ?_
    refine z_isub (q := 57) C dX10_parish_56 rfl ?_
    refine z_iload_n (q := 58) C dX10_parish_57 1 rfl rfl rfl ?_
    refine z_callV (q := 61) (o := 7) (av := [.int (zi ((a2 - 2) - 1)), .int (zi a1)]) (rest := []) (stk2 := [.int (zi (fX8_of 7 ((a2 - 2) - 1) a1 h))]) C hR clX8 (zon C zo_7) kd_7 (M_fX8_of (zlv hd rfl) zo_7 kd_7 rfl) mY_X8_of q_786 (Nat.le_of_ble_eq_true rfl) dX10_parish_58 rfl rfl rfl ?_
    subst hF
    exact z_iret C k8 k9 dX10_parish_61
  · have hF := (if_pos (Int.not_lt.mp c4)).symm.trans hF
    refine z_aload_n (q := 36) C dX10_parish_35 0 rfl rfl rfl ?_
    refine z_getf (q := 39) C clX10 (zon C zo_0) kd_0 (k := 1) (by decide) q_272 rfl (zfv_r kd_0 rfl fr_0_1) dX10_parish_36 rfl ?_
    refine z_iconst (q := 40) C dX10_parish_39 rfl ?_
    refine z_iload_n (q := 41) C dX10_parish_40 1 rfl rfl rfl ?_
    refine z_iload_n (q := 42) C dX10_parish_41 2 rfl rfl rfl ?_
    refine z_callV (q := 45) (o := 2) (av := [.int (zi 1), .int (zi a1), .int (zi a2)]) (rest := []) (stk2 := [.int (zi (fX1_item 2 1 a1 a2 h))]) C hR clX1 (zon C zo_2) kd_2 (M_fX1_item (zlv hd rfl) zo_2 kd_2 rfl) mY_X1_item q_629 (Nat.le_of_ble_eq_true rfl) dX10_parish_42 rfl rfl rfl ?_
    refine z_goto (q := 61) C dX10_parish_45 (by decide) ?_
    subst hF
    exact z_iret C k8 k9 dX10_parish_61
/-! SunDesk.parish where it throws -/
def px_rm (d : Nat) : Room := { frames := d, cells := 1, slots := 6, locals := 40 * d }
def px_C (D : va_G) (cy : ClassId) (α : Nat → Nat) (n sz : Nat) (h : zH) : String → State → State → Prop := fun E st t => E = pxE ∧ va_P D vwCl (zws cy α n h) t.heap ∧ va_F (zA α n sz) st t
def px_Q : Array Value → State → Outcome → State → Prop := fun _ _ _ _ => False
def px_P (D : va_G) (cy : ClassId) (α : Nat → Nat) (n : Nat) (σ : zSg) (sz : Nat) (av : List Value) (h : zH) : Array Value → State → Prop := fun v U => zPc D cy α n σ sz av h v U ∧ px_Z (zA α n sz) U U.heap
def px_Met (l : Launch) (d : Nat) (D : va_G) (cy : ClassId) (α : Nat → Nat) (n : Nat) (σ : zSg) (av : List Value) (h : zH) : Prop :=
  ∀ sz, vx_Met l yX10_parish (Cond.code yX10_parish cX10_parish 3 (some .int) :: zTb') (px_rm d) (px_P D cy α n σ sz av h) px_Q (px_C D cy α n sz h) 1 6 (zA α n sz)
theorem px_blind {D : va_G} {cy : ClassId} {α : Nat → Nat} {n : Nat} {σ : zSg} {sz : Nat} {av : List Value} {h : zH} : FrameBlind (px_P D cy α n σ sz av h) := by
  intro a U g mk q
  exact ⟨zPc_blind a U g mk q.1, px_Z.same (u := U) (U := U.calling g mk a) rfl q.2⟩
theorem px_walk {υ : zU} {d n : Nat} {α : Nat → Nat} {σ : zSg} {h : zH} {a1 a2 : Int} (C : wC υ RX10 cX10_parish 3 (some .int) d n 0 0 σ) (hd : 3 ≤ d) (hno : zw (fX1_has 2 1 a1 h) = 0 ∨ zw a2 < 0 ∨ ¬ zw a2 ≤ zw 8) (kk : ∀ lv, Yw υ α n 0 0 h 22 lv []) : Yw υ α n 0 0 h 0 [(0, .ref (α 0)), (1, .int (zi a1)), (2, .int (zi a2))] [] := by
  refine w_aload_n (q := 1) C dX10_parish_0 0 rfl rfl rfl ?_
  refine w_getf (q := 4) C clX10 zo_0 kd_0 (k := 1) (by decide) q_272 rfl (zfv_r kd_0 rfl fr_0_1) dX10_parish_1 rfl ?_
  refine w_iconst (q := 5) C dX10_parish_4 rfl ?_
  refine w_iload_n (q := 6) C dX10_parish_5 1 rfl rfl rfl ?_
  refine w_callV (q := 9) (o := 2) (av := [.int (zi 1), .int (zi a1)]) (rest := []) (stk2 := [.int (zi (fX1_has 2 1 a1 h))]) C clX1 zo_2 kd_2 (M_fX1_has hd zo_2 kd_2 rfl) mY_X1_has q_634 (Nat.le_of_ble_eq_true rfl) dX10_parish_6 rfl rfl rfl ?_
  refine w_if_eq (tgt := 22) (q := 12) C dX10_parish_9 (by decide) rfl (fun _ => kk _) (fun c1 => ?_)
  refine w_iload_n (q := 13) C dX10_parish_12 2 rfl rfl rfl ?_
  intro H locs hP hD hS ls hl
  refine lv_if_lt (tgt := 22) C.1.1 C.1.2.1 dX10_parish_13 (by decide) (fun _ => kk _ H locs hP hD hS ls hl) (fun c2 => ?_)
  have h16 : Yw υ α n 0 0 h 16 [(0, .ref (α 0)), (1, .int (zi a1)), (2, .int (zi a2))] [] := by
    refine w_iload_n (q := 17) C dX10_parish_16 2 rfl rfl rfl ?_
    refine y_bipush (q := 19) (v := zi 8) C.1 dX10_parish_17 (by decide) rfl ?_
    refine w_icmp_le (tgt := 30) (q := 22) C dX10_parish_19 (by decide) rfl (fun c3 => ?_) (fun _ => kk _)
    rcases hno with e | e | e
    · exact absurd e c1
    · exact absurd (zi_l0.mpr e) c2
    · exact absurd c3 e
  exact h16 H locs hP hD hS ls hl
set_option maxRecDepth 20000 in
set_option maxHeartbeats 4000000 in
theorem X_parish {l : Launch} (hfl : l.flags = flags0) {D : va_G} {cy : ClassId} {α : Nat → Nat} {n : Nat} {σ : zSg} {d : Nat} (hd : 6 ≤ d) {a1 a2 : Int} {h : zH} (hno : zw (fX1_has 2 1 a1 h) = 0 ∨ zw a2 < 0 ∨ ¬ zw a2 ≤ zw 8) : px_Met l d D cy α n σ [.ref (α 0), .int (zi a1), .int (zi a2)] h := by
  obtain ⟨d, rfl⟩ : ∃ e, d = e + 1 := ⟨d - 1, by omega⟩
  intro sz
  refine vx_ofW (cc := cX10_parish) (maxL := 3) (ret := some .int) (by decide +kernel) rfl ?_
  intro p e s m args below meth c s₁ B hml htab hv
  obtain ⟨⟨rfl, rfl, hP, hK, hJ, hn, hG⟩, hz⟩ := hv
  have hts := atoms_spec (ws := Cond.code yX10_parish cX10_parish 3 (some .int) :: zTb') B.pre
  have hown : s.vm.findClass RX10 = some m.cls := findClass_of_methodNamed B.named
  have C0 : yV (p, l, e, px_rm (d + 1), s, m, ([.ref (α 0), .int (zi a1), .int (zi a2)] : List Value).toArray, below, meth, c, D, cy, zA α n s.heap.size, vx_MQ below px_Q (px_C D cy α n s.heap.size h) ([.ref (α 0), .int (zi a1), .int (zi a2)] : List Value).toArray s 1 6 (zA α n s.heap.size)) RX10 cX10_parish 3 (some .int) :=
    ⟨B.exec, B.bytes, hml, hown, fun w hw => hts w (List.mem_cons_of_mem _ hw), hK, fun q h => Or.inr h, B.notSynchronized, B.returns, hG.2.2.2.2.2⟩
  have hl := lv_entry [.ref (α 0), .int (zi a1), .int (zi a2)] (n := 3) (Nat.le_of_ble_eq_true rfl)
  rw [lg_entry_eq]
  refine px_walk (υ := (p, l, e, px_rm (d + 1), s, m, ([.ref (α 0), .int (zi a1), .int (zi a2)] : List Value).toArray, below, meth, c, D, cy, zA α n s.heap.size, vx_MQ below px_Q (px_C D cy α n s.heap.size h) ([.ref (α 0), .int (zi a1), .int (zi a2)] : List Value).toArray s 1 6 (zA α n s.heap.size))) (d := d) (α := α) (n := n) (σ := σ) (h := h) ⟨C0, hG, hn, ⟨Nat.le_refl _, by show 40 * d + 40 ≤ 40 * (d + 1); omega⟩, Nat.zero_le _, Nat.zero_le _⟩ (by omega) hno (fun lv => ?_) s.heap [] (by rw [List.append_nil]; exact hP) (by rw [List.append_nil]; exact zws_D hJ) va_S.rf _ ?_
  · intro H locs hP1 hD1 hS1 ls hl1
    rw [List.append_nil] at hP1 hD1
    have hP1 : va_P D vwCl (zws cy α n h) H := hP1
    have hS1 : va_S (zA α n s.heap.size) s.heap H locs := hS1
    exact vx_throw0 (cc := cX10_parish) (pc := 22) (own := RX10) (cls := pxE) (names := pxN) (ik := 138) (ic := 140) (A := zA α n s.heap.size) B.exec B.bytes (by unfold Launch.stackTraces; rw [hfl]; decide +kernel) hown (by decide +kernel) (by decide +kernel) (hts _ (List.mem_cons_of_mem _ (z_in q_1035 rfl))) (hts _ (List.mem_cons_of_mem _ (z_in q_23 rfl))) (px_hat (fun w hw => hts w (List.mem_cons_of_mem _ hw))) px_ok (hz 1 (by decide)) (hz 2 (by decide)) hS1 hl1.1 dX10_parish_22 dX10_parish_25 dX10_parish_26 dX10_parish_29 (fun x hx => (htab x hx).elim) (by show 2 + 3 < d + 1; omega) (by show 0 + (13 * (2 + 1) + 42) ≤ 40 * (d + 1); omega) (Nat.le_refl _) (Nat.le_refl _) B.notSynchronized (fun t ha h1 h2 => ⟨rfl, fun j x hx => (hP1 j x hx).kept (h2 x.1 (hP1 j x hx).lt), Nat.le_trans hS1.1 h1, fun q g1 g2 => (h2 q (Nat.lt_of_lt_of_le g1 hS1.1)).trans (hS1.2.1 q g1 g2)⟩) hS1.2.2 (Nat.le_refl _) (Nat.le_refl _)
  · show lv_has _ c.maxLocals _
    rw [hml]
    exact hl
section PXC
variable {υ : zU} {own : String} {cc : ByteArray} {nL : Nat} {rt : Option FieldType} {k n pc q idx d : Nat} {lv : List (Nat × Value)} {rest stk : List Value} {α : Nat → Nat} {nn : Nat} {σ : zSg} {h : zH} {a1 a2 : Int}
theorem y_callX {ex : va_W} (C : yV υ own cc nL rt) (hG : zG σ (yA υ) (ys υ) (ys υ).heap) (hz : px_Z (yA υ) (ys υ) (ys υ).heap) (hn : zN ≤ nn ∧ nn ≤ zN + 1) (hM : px_Met (yl υ) d (yD υ) (ycy υ) α nn σ [.ref (α 0), .int (zi a1), .int (zi a2)] h) (hR : d + 1 ≤ (yR υ).frames ∧ 40 * d + 40 ≤ (yR υ).locals) (hk : k + 1 ≤ (yR υ).cells ∧ n + 6 ≤ (yR υ).slots) (hw : Cond.methodLink own idx yX10_parish ∈ lw_tbl) (hc : (rest.map fun v => v.category).sum ≤ 8) (hdg : decode cc pc = .ok (.invokevirtual idx, 3)) (hs : stk = .int (zi a2) :: .int (zi a1) :: .ref (α 0) :: rest)
    (kx : ∀ (H : Heap) (locs : List Loc) (q9 : Nat) (ce : Cell), va_P (yD υ) vwCl (zws (ycy υ) α nn h ++ ex) H → va_D (yA υ) (zws (ycy υ) α nn h ++ ex) → va_S (yA υ) (ys υ).heap H locs → H[q9]? = some ce → ce.vm = .none → (ys υ).vm.findClass pxE = some ce.cls → ∀ ls : Array Slot, lv_has ls (yc υ).maxLocals lv → vx_W (yp υ) (yl υ) (ye υ) (yR υ) (ys υ) (ym υ) (yar υ) (ybe υ) (yme υ) (yc υ) H locs (k + 1) (n + 6) (yQ υ) (F0 (ym υ) pc ls rest) q9) : zY υ (zws (ycy υ) α nn h ++ ex) k n pc lv stk := by
  subst hs
  intro H locs hP hD hS ls hl
  have hts := C.2.2.2.2.1
  obtain ⟨⟨y1, y2, y3, y4⟩, y5, y6⟩ := mY_X10_parish
  have hon : 0 < nn := Nat.lt_of_lt_of_le zo_0 hn.1
  have hA1 := yz_A1 C hD hS
  have hr := vx_runV (own := own) (cells := k) (slots := n) (locs := locs) (Ts := zTb') (C := RX10) (p := yp υ) (e := ye υ) (below := ybe υ) (meth := yme υ) (rest := rest) (As := [.int (zi a1), .int (zi a2)]) (b := α 0) (g := F0 (ym υ) pc ls (.int (zi a2) :: .int (zi a1) :: .ref (α 0) :: rest)) ⟨C.1, C.2.1, C.2.2.1, C.2.2.2.1, hts⟩ (hM H.size) ⟨callB_of (R := yR υ) _ hts (z_good y1) rfl rfl rfl (hts _ (z_in y2 rfl)) (hts _ (z_in hw rfl)) y3 ⟨hR.1, by show 8 + (3 + 11) + 40 * d ≤ _; omega⟩, hts _ (z_in y5 rfl), hts _ (z_in y6 rfl)⟩ ⟨px_blind, va_recv C.2.2.2.2.2.1 (yz_P hP).1 (ci := 10) (q0 := 0) clX10.1 (by rw [zws_get hon, zent_o kd_0 clX10.2.2.2.1 clX10.2.2.1]), fun U hU hW => ⟨yz_pre (av := [.ref (α 0), .int (zi a1), .int (zi a2)]) C hG hn hP hD hS U hU hW, by subst hU; exact ((hz.kept (fun a h1 h2 => hS.2.1 a h1 h2)).narrow hA1).warm hW⟩⟩ rfl rfl (hl.1.trans C.2.2.1) rfl (lv_room hc) hdg hk
  intro T0 hT X
  rcases hr T0 hT X with ⟨v, st₀, t, T', L, h0, X', hL, e1, e2, hq, stp⟩ | ⟨q, st₀, t, T', L, E, ce, h0, X', hL, e1, e2, ⟨hE, hP1, hF1⟩, hce, hcv, hcl, stp⟩
  · exact (show False from hq).elim
  · subst hE
    rw [← e1] at hP1 hce
    have hkeep : ∀ x : Nat, x < H.size → ¬ zA α nn H.size x → T'.heap[x]? = H[x]? := fun x g1 g2 => by rw [e1, hF1.2 x (by rw [h0]; exact g1) g2, h0]
    have hS1 : va_S (yA υ) (ys υ).heap T'.heap (locs ++ L) := by
      refine ⟨Nat.le_trans hS.1 (by rw [e1, ← h0]; exact hF1.1), fun x g1 g2 => ?_, fun x hx => ?_⟩
      · rw [hkeep x (Nat.lt_of_lt_of_le g1 hS.1) (fun g3 => g2 (hA1 x g3))]
        exact hS.2.1 x g1 g2
      · rcases List.mem_append.mp hx with g | g
        · exact hS.2.2 x g
        · exact hA1 _ (hL x g)
    have hP2 : va_P (yD υ) vwCl (zws (ycy υ) α nn h ++ ex) T'.heap := va_P.app hP1 (fun j x hx => ((yz_P hP).2 j x hx).kept (hkeep x.1 ((yz_P hP).2 j x hx).lt (fun g => by
      rcases g with ⟨i, hi, g⟩ | g
      · exact yz_ex hD hx i hi g
      · have := ((yz_P hP).2 j x hx).lt
        omega)))
    obtain ⟨t2, a1, b1⟩ := kx T'.heap (locs ++ L) q ce hP2 hD hS1 hce hcv hcl ls hl T' rfl X'
    exact ⟨t2, stp.trans a1, b1⟩
end PXC
/-! the law's own method -/
abbrev pl_W (cy cL : ClassId) (α : Nat → Nat) (n : Nat) (h : zH) (oa : Nat) (f : Nat → Int64) : va_W := zws cy α n h ++ [((oa, .inl (cL, 1, .inr (.inl f))) : Nat × va_E)]
def pl_A (α : Nat → Nat) (n oa sz : Nat) : Nat → Prop := fun q => zA α n sz q ∨ q = oa
theorem pl_at {cy cL : ClassId} {α : Nat → Nat} {n oa : Nat} {h : zH} {f : Nat → Int64} : (pl_W cy cL α n h oa f)[n]? = some ((oa, .inl (cL, 1, .inr (.inl f))) : Nat × va_E) := by
  unfold pl_W
  rw [List.getElem?_append_right (by rw [zws_len]; exact Nat.le_refl _), zws_len, Nat.sub_self]
  rfl
theorem pl_set {cy cL : ClassId} {α : Nat → Nat} {n oa : Nat} {h : zH} {f g : Nat → Int64} : (pl_W cy cL α n h oa f).set n ((oa, .inl (cL, 1, .inr (.inl g))) : Nat × va_E) = pl_W cy cL α n h oa g := by
  apply List.ext_getElem?
  intro i
  rw [List.getElem?_set]
  by_cases e : n = i
  · subst e
    rw [if_pos rfl, if_pos (by rw [List.length_append, zws_len]; show n < n + 1; omega), pl_at]
  · rw [if_neg e]
    unfold pl_W
    by_cases hi : i < n
    · rw [List.getElem?_append_left (by rw [zws_len]; exact hi), List.getElem?_append_left (by rw [zws_len]; exact hi)]
    · rw [List.getElem?_eq_none (by rw [List.length_append, zws_len]; show n + 1 ≤ i; omega), List.getElem?_eq_none (by rw [List.length_append, zws_len]; show n + 1 ≤ i; omega)]
theorem pl_D {A : Nat → Prop} {cy cL : ClassId} {α : Nat → Nat} {n oa sz : Nat} {h : zH} {f : Nat → Int64} (hD : va_D A (pl_W cy cL α n h oa f)) : va_D (pl_A α n oa sz) (pl_W cy cL α n h oa f) := by
  refine ⟨hD.1, fun j x hx => ?_⟩
  unfold pl_W at hx
  by_cases hj : j < n
  · rw [List.getElem?_append_left (by rw [zws_len]; exact hj), zws_get hj] at hx
    cases hx
    exact Or.inl (Or.inl ⟨j, hj, rfl⟩)
  · rw [List.getElem?_append_right (by rw [zws_len]; omega), zws_len] at hx
    have hj1 : j - n < 1 := (List.getElem?_eq_some_iff.mp hx).1
    have hj0 : j - n = 0 := by omega
    rw [hj0] at hx
    cases hx
    exact Or.inr rfl
def pl_P (D : va_G) (cy cL : ClassId) (α : Nat → Nat) (n : Nat) (σ : zSg) (oa : Nat) (f : Nat → Int64) (sz : Nat) (av : List Value) (h : zH) : Array Value → State → Prop := fun v U =>
  v = av.toArray ∧ U.heap.size = sz ∧ va_P D vwCl (pl_W cy cL α n h oa f) U.heap ∧ va_D (pl_A α n oa sz) (pl_W cy cL α n h oa f) ∧ va_K D vwCl [(cy, .int), (cL, .long)] U ∧ (zN ≤ n ∧ n ≤ zN + 1) ∧ zG σ (pl_A α n oa sz) U U.heap ∧ px_Z (pl_A α n oa sz) U U.heap
def pl_Q (D : va_G) (cy cL : ClassId) (α : Nat → Nat) (n oa : Nat) (g : Nat → Int64) (sz : Nat) (r : Int) (h : zH) : Array Value → State → Outcome → State → Prop := fun _ st o t =>
  o = .returned (some (.int (zi r))) ∧ va_P D vwCl (pl_W cy cL α n h oa g) t.heap ∧ va_F (pl_A α n oa sz) st t
def pl_Met (l : Launch) (d : Nat) (D : va_G) (cy cL : ClassId) (α : Nat → Nat) (n : Nat) (σ : zSg) (oa : Nat) (f : Nat → Int64) (av : List Value) (h : zH) (r : Int) (g : Nat → Int64) : Prop :=
  ∀ sz, Met l yL_parish (Cond.codeWith yL_parish cL_parish 5 (some .int) [(0, 10, 13, 13)] :: zTb') (px_rm d) (pl_P D cy cL α n σ oa f sz av h) (pl_Q D cy cL α n oa g sz r h) 1 6 (pl_A α n oa sz)
theorem pl_blind {D : va_G} {cy cL : ClassId} {α : Nat → Nat} {n : Nat} {σ : zSg} {oa : Nat} {f : Nat → Int64} {sz : Nat} {av : List Value} {h : zH} : FrameBlind (pl_P D cy cL α n σ oa f sz av h) := by
  intro a U g mk q
  obtain ⟨q0, q1, q2, q3, q4, q5, q6, q7⟩ := q
  exact ⟨q0, q1, q2, q3, va_K.moved (u := U) (U := U.calling g mk a) (Vm.Alike.refl U.vm) q4, q5, zG.same (u := U) (U := U.calling g mk a) rfl q6, px_Z.same (u := U) (U := U.calling g mk a) rfl q7⟩
theorem pl_ofWH {l : Launch} {y : MethodName} {ws ws' : List Cond} {rm : Room} {Pc : Array Value → State → Prop} {Qc : Array Value → State → Outcome → State → Prop} {mc ms : Nat} {free : Addr → Prop} {cc : ByteArray} {maxL : Nat} {ret : Option FieldType} {hh : List (Nat × Nat × Nat × Nat)}
    (hy : plainFor y = true) (hw : ws = Cond.codeWith y cc maxL ret hh :: ws')
    (body : ∀ p e s m args below meth c s₁, BodyLoose p l y (headSpec ws rm) cc maxL ret e s m args below meth c s₁ → c.maxLocals = maxL → Pc args s →
      W p l e (headSpec ws rm).room s m args below meth c s.heap [] 0 0 (MQ below Qc args s mc ms free) (entryFrame m args maxL)) : Met l y ws rm Pc Qc mc ms free := by
  refine MetFree.of_bodySF (code := cc) (maxLocals := maxL) (ret := ret) hy ?_ ?_
  · intro args s m h hn
    obtain ⟨m9, meth, c, hn9, h1, h2, h3, h4, -, h5, h6, -⟩ := Cond.codeWith_spec (atoms_spec (ws := ws) h _ (by rw [hw]; exact List.mem_cons_self))
    cases hn.symm.trans hn9
    exact ⟨meth, c, h1, h2, h3, h4, h5, h6⟩
  · intro p e s m args below meth c s₁ B hml hP _
    have hh0 : s₁.heap = s.heap := by rw [B.state]; rfl
    obtain ⟨t, a1, o, b1, b2, b3⟩ := body p e s m args below meth c s₁ B hml hP s₁ hh0 (Stand.of_body B)
    exact ⟨t, o, a1, b1, b2, ⟨b3.1, b3.2⟩⟩
theorem pl_met {l : Launch} {d : Nat} {D : va_G} {cy cL : ClassId} {α : Nat → Nat} {n : Nat} {σ : zSg} {oa : Nat} {f : Nat → Int64} {av : List Value} {h : zH} {r : Int} {g : Nat → Int64} (hlen : (lg_sl av).length ≤ 5)
    (body : ∀ υ : zU, yl υ = l → yR υ = px_rm d → yD υ = D → ycy υ = cy → yV υ RL cL_parish 5 (some .int) → zG σ (yA υ) (ys υ) (ys υ).heap → px_Z (yA υ) (ys υ) (ys υ).heap → va_K (yD υ) vwCl [(ycy υ, .int), (cL, .long)] (ys υ) → (zN ≤ n ∧ n ≤ zN + 1) → (yc υ).exceptionTable.toList = [⟨0, 10, 13, 13⟩] →
      (∀ (pc : Nat) (lv : List (Nat × Value)), decode cL_parish pc = .ok (.ireturn, 1) → zY υ (pl_W cy cL α n h oa g) 1 6 pc lv [.int (zi r)]) → zY υ (pl_W cy cL α n h oa f) 0 0 0 (lv_args 0 av) []) : pl_Met l d D cy cL α n σ oa f av h r g := by
  intro sz
  refine pl_ofWH (cc := cL_parish) (maxL := 5) (ret := some .int) (hh := [(0, 10, 13, 13)]) (by decide +kernel) rfl ?_
  intro p e s m args below meth c s₁ B hml hv
  obtain ⟨rfl, rfl, hP, hD, hK, hn, hG, hz⟩ := hv
  have hts := atoms_spec (ws := Cond.codeWith yL_parish cL_parish 5 (some .int) [(0, 10, 13, 13)] :: zTb') B.pre
  have hown : s.vm.findClass RL = some m.cls := findClass_of_methodNamed B.named
  have htab : c.exceptionTable.toList = [⟨0, 10, 13, 13⟩] := vx_table (x := yL_parish) B (hts _ List.mem_cons_self)
  have C : yV (p, l, e, px_rm d, s, m, av.toArray, below, meth, c, D, cy, pl_A α n oa s.heap.size, MQ below (pl_Q D cy cL α n oa g s.heap.size r h) av.toArray s 1 6 (pl_A α n oa s.heap.size)) RL cL_parish 5 (some .int) :=
    ⟨B.exec, B.bytes, hml, hown, fun w hw => hts w (List.mem_cons_of_mem _ hw), hK.sub [0] rfl, fun q h => Or.inl (Or.inr h), B.notSynchronized, B.returns, hG.2.2.2.2.2⟩
  have hZ := body (p, l, e, px_rm d, s, m, av.toArray, below, meth, c, D, cy, pl_A α n oa s.heap.size, MQ below (pl_Q D cy cL α n oa g s.heap.size r h) av.toArray s 1 6 (pl_A α n oa s.heap.size)) rfl rfl rfl rfl C hG hz hK hn htab (fun pc lv hdg H locs hP1 hD1 hS1 ls hl => ?_)
  · have hl := lv_entry av (n := 5) hlen
    rw [lg_entry_eq]
    refine hZ s.heap [] hP hD va_S.rf _ ?_
    show lv_has _ c.maxLocals _
    rw [hml]
    exact hl
  · exact W.iret B.exec B.bytes B.returns (fun t ht hW => ⟨rfl, by rw [ht]; exact hP1, hS1.F ht⟩) hS1.2.2 hdg B.notSynchronized
section PLR
variable {υ : zU} {own : String} {cc : ByteArray} {nL : Nat} {rt : Option FieldType} {ws : va_W} {k n pc q tgt idx d oa : Nat} {lv : List (Nat × Value)} {st rest stk : List Value} {α : Nat → Nat} {nn : Nat} {σ : zSg} {h : zH} {a1 a2 : Int} {cL : ClassId} {f g : Nat → Int64} {off : Int}
theorem y_widen {k2 n2 : Nat} (h1 : k ≤ k2) (h2 : n ≤ n2) (kk : zY υ ws k2 n2 pc lv st) : zY υ ws k n pc lv st := by
  intro H locs hP hD hS ls hl; exact W.widen h1 h2 (kk H locs hP hD hS ls hl)
theorem y_last {x : Int64} (C : yV υ own cc nL rt) (hK : va_K (yD υ) vwCl [(ycy υ, .int), (cL, .long)] (ys υ)) (hdg : decode cc pc = .ok (.lastore, 1)) (hq : pc + 1 = q) (kk : zY υ (pl_W (ycy υ) cL α nn h oa (vp_updL f 0 x)) k n q lv st) : zY υ (pl_W (ycy υ) cL α nn h oa f) k n pc lv (.long x :: .int (zi 0) :: .ref oa :: st) := by
  subst hq; intro H locs hP hD hS ls hl
  refine va_last C.1 C.2.1 hK hP hD hS nn 1 pl_at rfl (z_vpin (by decide) (by decide)) hdg (fun H1 locs1 hP1 hD1 hS1 => ?_)
  have e : (zi 0).toNatClampNeg = 0 := by decide
  rw [e, pl_set] at hP1 hD1
  exact kk H1 locs1 hP1 hD1 hS1 ls hl
theorem y_lald (C : yV υ own cc nL rt) (hK : va_K (yD υ) vwCl [(ycy υ, .int), (cL, .long)] (ys υ)) (hdg : decode cc pc = .ok (.laload, 1)) (hq : pc + 1 = q) (kk : zY υ (pl_W (ycy υ) cL α nn h oa f) k n q lv (.long (f 0) :: st)) : zY υ (pl_W (ycy υ) cL α nn h oa f) k n pc lv (.int (zi 0) :: .ref oa :: st) := by
  subst hq; intro H locs hP hD hS ls hl
  have e : (zi 0).toNatClampNeg = 0 := by decide
  refine va_lald C.1 C.2.1 hK hP nn 1 pl_at rfl (z_vpin (by decide) (by decide)) hdg ?_
  rw [e]
  exact kk H locs hP hD hS ls hl
theorem y_lcmp {x z : Int64} (C : yV υ own cc nL rt) (hdg : decode cc pc = .ok (.lcmp, 1)) (hq : pc + 1 = q) (kk : zY υ ws k n q lv (.int (lg_cmp x z) :: st)) : zY υ ws k n pc lv (.long z :: .long x :: st) := by
  subst hq; intro H locs hP hD hS ls hl; exact W.lcmp C.1 C.2.1 hdg (kk H locs hP hD hS ls hl)
theorem y_if_eqT {x : Int32} (hx : x = 0) (C : yV υ own cc nL rt) (hdg : decode cc pc = .ok (.ifCond .eq off, 3)) (ht : (pc : Int) + off = (tgt : Int)) (kk : zY υ ws k n tgt lv st) : zY υ ws k n pc lv (.int x :: st) := by
  intro H locs hP hD hS ls hl; exact lv_if_eq C.1 C.2.1 hdg ht (fun _ => kk H locs hP hD hS ls hl) (fun e => absurd hx e)
theorem y_if_ne {x : Int32} (C : yV υ own cc nL rt) (hdg : decode cc pc = .ok (.ifCond .ne off, 3)) (ht : (pc : Int) + off = (tgt : Int)) (hq : pc + 3 = q) (kt : ¬ x = 0 → zY υ ws k n tgt lv st) (kf : x = 0 → zY υ ws k n q lv st) : zY υ ws k n pc lv (.int x :: st) := by
  subst hq; intro H locs hP hD hS ls hl; exact lv_if_ne C.1 C.2.1 hdg ht (fun e => kt e H locs hP hD hS ls hl) (fun e => kf e H locs hP hD hS ls hl)
theorem pl_good {idx : Nat} {own : String} (hw : Cond.methodLink own idx yL_parish ∈ lw_tbl) : GoodIn zTb' (va_wsS own idx yL_parish (Cond.codeWith yL_parish cL_parish 5 (some .int) [(0, 10, 13, 13)] :: zTb')) := by
  intro w h1
  have h2 : w ∈ zTb' := by
    unfold va_wsS at h1
    rcases List.mem_append.mp h1 with h3 | h3
    · rcases List.mem_cons.mp h3 with e | h3
      · rw [e]; exact z_in hw rfl
      · rcases List.mem_cons.mp h3 with e | h3
        · rw [e]; exact z_in q_1028 rfl
        · rcases List.mem_cons.mp h3 with e | h3
          · rw [e]; exact z_in q_0 rfl
          · exact absurd h3 List.not_mem_nil
    · rcases List.mem_cons.mp h3 with e | h3
      · rw [e]; exact z_in q_1029 rfl
      · exact h3
  exact ⟨h2, good_of_word (List.mem_filter.mp h2).2⟩
theorem y_callL {r : Int} (C : yV υ own cc nL rt) (hG : zG σ (yA υ) (ys υ) (ys υ).heap) (hz : px_Z (yA υ) (ys υ) (ys υ).heap) (hK : va_K (yD υ) vwCl [(ycy υ, .int), (cL, .long)] (ys υ)) (hn : zN ≤ nn ∧ nn ≤ zN + 1) (hM : pl_Met (yl υ) d (yD υ) (ycy υ) cL α nn σ oa f [.ref (α 0), .int (zi a1), .int (zi a2), .ref oa] h r g) (hR : d + 1 ≤ (yR υ).frames ∧ 40 * d + 40 ≤ (yR υ).locals) (hk : k + 1 ≤ (yR υ).cells ∧ n + 6 ≤ (yR υ).slots) (hw : Cond.methodLink own idx yL_parish ∈ lw_tbl) (hc : (rest.map fun v => v.category).sum ≤ 8) (hdg : decode cc pc = .ok (.invokestatic idx, 3)) (hs : stk = .ref oa :: .int (zi a2) :: .int (zi a1) :: .ref (α 0) :: rest) (hq : pc + 3 = q)
    (kk : zY υ (pl_W (ycy υ) cL α nn h oa g) (k + 1) (n + 6) q lv (.int (zi r) :: rest)) : zY υ (pl_W (ycy υ) cL α nn h oa f) k n pc lv stk := by
  subst hs; subst hq
  intro H locs hP hD hS ls hl
  have hts := C.2.2.2.2.1
  have hA1 : ∀ x : Nat, pl_A α nn oa H.size x → yA υ x := by
    intro x hx
    rcases hx with hx | hx
    · exact yz_A1 C hD hS x hx
    · rw [hx]; exact hD.2 nn _ pl_at
  have hr := vx_runSW (H := H) (own := own) (cells := k) (slots := n) (locs := locs) (Ts := zTb') (p := yp υ) (e := ye υ) (below := ybe υ) (meth := yme υ) (rest := rest) (As := [.ref (α 0), .int (zi a1), .int (zi a2), .ref oa]) (g := F0 (ym υ) pc ls (.ref oa :: .int (zi a2) :: .int (zi a1) :: .ref (α 0) :: rest)) ⟨C.1, C.2.1, C.2.2.1, C.2.2.2.1, hts⟩ (hM H.size) (vx_cwSW (R := yR υ) 4 hts (pl_good hw) rfl rfl rfl ⟨by decide +kernel, by decide +kernel, by decide +kernel⟩ ⟨hR.1, by show 8 + (5 + 11) + 40 * d ≤ _; omega⟩) ⟨pl_blind, fun U hU hW => by subst hU; exact ⟨rfl, rfl, hP, pl_D hD, va_K.moved hW.alike hK, hn, ((hG.kept (fun a h1 h2 => hS.2.1 a h1 h2)).narrow hA1).warm hW, ((hz.kept (fun a h1 h2 => hS.2.1 a h1 h2)).narrow hA1).warm hW⟩⟩ rfl rfl (hl.1.trans C.2.2.1) rfl (lv_room hc) hdg hk
  intro T0 hT X
  obtain ⟨v, st₀, t, T', L, h0, X', hL, e1, e2, ⟨hv, hP1, hF1⟩, stp⟩ := hr T0 hT X
  cases hv
  rw [← e1] at hP1
  have hkeep : ∀ x : Nat, x < H.size → ¬ pl_A α nn oa H.size x → T'.heap[x]? = H[x]? := fun x g1 g2 => by rw [e1, hF1.2 x (by rw [h0]; exact g1) g2, h0]
  have hS1 : va_S (yA υ) (ys υ).heap T'.heap (locs ++ L) := by
    refine ⟨Nat.le_trans hS.1 (by rw [e1, ← h0]; exact hF1.1), fun x g1 g2 => ?_, fun x hx => ?_⟩
    · rw [hkeep x (Nat.lt_of_lt_of_le g1 hS.1) (fun g3 => g2 (hA1 x g3))]
      exact hS.2.1 x g1 g2
    · rcases List.mem_append.mp hx with g | g
      · exact hS.2.2 x g
      · exact hA1 _ (hL x g)
  have hD2 : va_D (yA υ) (pl_W (ycy υ) cL α nn h oa g) := vaD_map hD (by rw [List.map_append, List.map_append, zws_fst]; first | done | rfl)
  obtain ⟨t2, a1, b1⟩ := kk T'.heap (locs ++ L) hP1 hD2 hS1 ls hl T' rfl X'
  exact ⟨t2, stp t2 a1, b1⟩
end PLR
set_option maxRecDepth 20000 in
set_option maxHeartbeats 4000000 in
theorem L_parishOk {l : Launch} {D : va_G} {cy cL : ClassId} {α : Nat → Nat} {n : Nat} {σ : zSg} {oa : Nat} {f : Nat → Int64} {d : Nat} (hd : 5 ≤ d) {a1 a2 : Int} {h : zH} {r : Int} (c1 : ¬ zw (fX1_has 2 1 a1 h) = 0) (c2 : ¬ zw a2 < 0) (c3 : zw a2 ≤ zw 8) (hF : (if zw a2 ≤ zw 2 then fX1_item 2 1 a1 a2 h else fX8_of 7 ((a2 - 2) - 1) a1 h) = r) : pl_Met l d D cy cL α n σ oa f [.ref (α 0), .int (zi a1), .int (zi a2), .ref oa] h 0 (vp_updL f 0 (zi r).toInt64) := by
  obtain ⟨d, rfl⟩ : ∃ e, d = e + 1 := ⟨d - 1, by omega⟩
  refine pl_met (Nat.le_of_ble_eq_true rfl) (fun υ k1 k2 k3 k4 C hG hz hK hn htab hret => ?_)
  subst k1 k3 k4
  refine y_aload_n (q := 1) C dL_parish_0 3 rfl rfl rfl ?_
  refine y_iconst (q := 2) (v := zi 0) C dL_parish_1 rfl rfl ?_
  refine y_aload_n (q := 3) C dL_parish_2 0 rfl rfl rfl ?_
  refine y_iload_n (q := 4) C dL_parish_3 1 rfl rfl rfl ?_
  refine y_iload_n (q := 5) C dL_parish_4 2 rfl rfl rfl ?_
  refine y_callV (q := 8) (o := 0) (d := d) (av := [.int (zi a1), .int (zi a2)]) (rest := [.int (zi 0), .ref oa]) (stk2 := [.int (zi r), .int (zi 0), .ref oa]) C hG hn clX10 zo_0 kd_0 (M_parishOk (by omega) c1 c2 c3 hF) mY_X10_parish ⟨by rw [k2]; exact Nat.le_refl _, by rw [k2]; show 40 * d + 40 ≤ 40 * (d + 1); omega⟩ ⟨Nat.zero_le _, Nat.zero_le _⟩ q_1031 (Nat.le_of_ble_eq_true rfl) dL_parish_5 rfl rfl rfl ?_
  refine y_i2l (q := 9) C dL_parish_8 rfl ?_
  refine y_last (q := 10) C hK dL_parish_9 rfl ?_
  refine y_goto (q := 17) C dL_parish_10 (by decide) ?_
  refine y_iconst (q := 18) (v := zi 0) C dL_parish_17 rfl rfl ?_
  exact y_widen (Nat.zero_le _) (Nat.zero_le _) (hret 18 _ dL_parish_18)
set_option maxRecDepth 20000 in
set_option maxHeartbeats 4000000 in
theorem L_parishNo {l : Launch} (hfl : l.flags = flags0) {D : va_G} {cy cL : ClassId} {α : Nat → Nat} {n : Nat} {σ : zSg} {oa : Nat} {f : Nat → Int64} {d : Nat} (hd : 8 ≤ d) {a1 a2 : Int} {h : zH} (hno : zw (fX1_has 2 1 a1 h) = 0 ∨ zw a2 < 0 ∨ ¬ zw a2 ≤ zw 8) : pl_Met l d D cy cL α n σ oa f [.ref (α 0), .int (zi a1), .int (zi a2), .ref oa] h 1 f := by
  obtain ⟨d, rfl⟩ : ∃ e, d = e + 1 := ⟨d - 1, by omega⟩
  refine pl_met (Nat.le_of_ble_eq_true rfl) (fun υ k1 k2 k3 k4 C hG hz hK hn htab hret => ?_)
  subst k1 k3 k4
  refine y_aload_n (q := 1) C dL_parish_0 3 rfl rfl rfl ?_
  refine y_iconst (q := 2) (v := zi 0) C dL_parish_1 rfl rfl ?_
  refine y_aload_n (q := 3) C dL_parish_2 0 rfl rfl rfl ?_
  refine y_iload_n (q := 4) C dL_parish_3 1 rfl rfl rfl ?_
  refine y_iload_n (q := 5) C dL_parish_4 2 rfl rfl rfl ?_
  refine y_callX (d := d) (rest := [.int (zi 0), .ref oa]) C hG hz hn (X_parish hfl (by omega) hno) ⟨by rw [k2]; exact Nat.le_refl _, by rw [k2]; show 40 * d + 40 ≤ 40 * (d + 1); omega⟩ ⟨by rw [k2]; exact Nat.le_refl _, by rw [k2]; exact Nat.le_refl _⟩ q_1031 (Nat.le_of_ble_eq_true rfl) dL_parish_5 rfl ?_
  intro H locs q9 ce hP hD hS hce hcv hcl ls hl
  refine vx_catch (own := RL) (name := pxE) (E := pxE) (ce := ce) C.2.2.2.1 [] ⟨0, 10, 13, 13⟩ [] htab (fun z hz => nomatch hz) (by decide) (by decide) (C.2.2.2.2.1 _ (z_in q_1030 rfl)) (px_cast (C.2.2.2.2.1 _ (z_in q_1036 rfl))) hce hcv hcl ?_
  refine lv_astore C.1 C.2.1 dL_parish_13 hl (by rw [C.2.2.1]; decide) rfl (fun ls1 h1 => ?_)
  refine lv_iconst (v := zi 1) C.1 C.2.1 dL_parish_15 rfl ?_
  exact hret 16 _ dL_parish_16 H locs hP hD hS ls1 h1
