theorem zite01 {c : Prop} {i : Decidable c} {a b : Int} (ha : a = 0 ∨ a = 1) (hb : b = 0 ∨ b = 1) : (@ite _ c i a b) = 0 ∨ (@ite _ c i a b) = 1 := by
  by_cases hc : c
  · rw [if_pos hc]; exact ha
  · rw [if_neg hc]; exact hb
/-! static arrays and texts: SunDesk.at of a static array, String.length and charAt of a text -/
section ZS
variable {κ : zT} {own : String} {cc : ByteArray} {nL : Nat} {rt : Option FieldType} {h : zH} {pc q tgt : Nat} {lv lv' : List (Nat × Value)} {st : List Value} {off : Int}
theorem z_gv (C : zC κ own cc nL rt) {Cn n d : String} {v : Value} {idx : Nat} (hZ : va_Z Cn n d v (zAk κ) (zst κ) (zst κ).heap) (hw : Cond.fieldLink own idx Cn n d ∈ lw_tbl) (hdg : decode cc pc = .ok (.getstatic idx, 3)) (hq : pc + 3 = q) (k : Z κ h q lv (v :: st)) : Z κ h pc lv st := by
  subst hq
  intro H locs hP hS ls hl
  exact va_gets C.1 C.2.1 hZ hS C.2.2.2.1 (C.2.2.2.2.1 _ (z_in hw rfl)) (fun _ h => h) hdg (k H locs hP hS ls hl)
theorem z_gsf (C : zC κ own cc nL rt) {Cn n d : String} {v : Value} {idx a : Nat} (hE : va_OF Cn n d v a (zAk κ) (zst κ) (zst κ).heap) (hw : Cond.fieldLink own idx Cn n d ∈ lw_tbl) (hdg : decode cc pc = .ok (.getfield idx, 3)) (hq : pc + 3 = q) (k : Z κ h q lv (v :: st)) : Z κ h pc lv (.ref a :: st) := by
  subst hq
  intro H locs hP hS ls hl
  exact vk_getf C.1 C.2.1 hE hS C.2.2.2.1 (C.2.2.2.2.1 _ (z_in hw rfl)) (fun _ h => h) hdg (k H locs hP hS ls hl)
theorem z_tlen (C : zC κ own cc nL rt) {ty : FieldType} {t N : Nat} {f : Nat → Value} (hT : va_T ty t N f (zAk κ) (zst κ) (zst κ).heap) (hdg : decode cc pc = .ok (.arraylength, 1)) (hq : pc + 1 = q) (k : Z κ h q lv (.int (zi (N : Int)) :: st)) : Z κ h pc lv (.ref t :: st) := by
  subst hq
  intro H locs hP hS ls hl
  exact va_tlen C.1 C.2.1 hT hS (zi_ofNat N) hdg (k H locs hP hS ls hl)
theorem z_ti (C : zC κ own cc nL rt) {t N : Nat} {f : Nat → Value} {i : Int} {v : Value} (hT : va_T .int t N f (zAk κ) (zst κ) (zst κ).heap) (h0 : 0 ≤ zw i) (h1 : zw i < (N : Int)) (hv : f (zw i).toNat = v) (hdg : decode cc pc = .ok (.iaload, 1)) (hq : pc + 1 = q) (k : Z κ h q lv (v :: st)) : Z κ h pc lv (.int (zi i) :: .ref t :: st) := by
  subst hq
  intro H locs hP hS ls hl
  exact va_ti C.1 C.2.1 hT hS (z_vpin h0 h1) hv hdg (k H locs hP hS ls hl)
theorem z_tb (C : zC κ own cc nL rt) {t N : Nat} {f : Nat → Value} {i : Int} {v : Value} (hT : va_T .byte t N f (zAk κ) (zst κ) (zst κ).heap) (h0 : 0 ≤ zw i) (h1 : zw i < (N : Int)) (hv : f (zw i).toNat = v) (hdg : decode cc pc = .ok (.baload, 1)) (hq : pc + 1 = q) (k : Z κ h q lv (v :: st)) : Z κ h pc lv (.int (zi i) :: .ref t :: st) := by
  subst hq
  intro H locs hP hS ls hl
  exact va_tb C.1 C.2.1 hT hS (z_vpin h0 h1) hv hdg (k H locs hP hS ls hl)
theorem z_nret {ty : FieldType} (C : zC κ own cc nL (some ty)) {v : Int} (hn : narrow ty (.int (zi v)) = .int (zi v)) (e1 : zrv κ = some (.int (zi v))) (e2 : zhf κ = h) (hdg : decode cc pc = .ok (.ireturn, 1)) : Z κ h pc lv [.int (zi v)] := by
  intro H locs hP hS ls hl
  refine W.zret C.1 C.2.1 C.2.2.2.2.2.2.2.2.2.2 hn (fun t ht hW => ⟨by rw [e1], by rw [ht, e2]; exact hP, hS.F ht⟩) hS.2.2 hdg C.2.2.2.2.2.2.2.2.2.1
theorem z_i2c (C : zC κ own cc nL rt) {x v : Int} (hv : ((zi x).toUInt32 % 65536).toInt32 = zi v) (hdg : decode cc pc = .ok (.i2c, 1)) (hq : pc + 1 = q) (k : Z κ h q lv (.int (zi v) :: st)) : Z κ h pc lv (.int (zi x) :: st) := by
  subst hq; intro H locs hP hS ls hl; exact lv_i2c C.1 C.2.1 hdg hv (k H locs hP hS ls hl)
theorem zTb_byte {i j : Nat} (hi : i < 4) : (([(zTb 0).map zi, (zTb 1).map zi, (zTb 2).map zi, (zTb 3).map zi] : List (List Int32)).getD i []).getD j 0 = zi (zTc i j) := by
  have H : ∀ l : List Int, (l.map zi).getD j 0 = zi (l.getD j 0) := fun l => by
    rw [List.getD_eq_getElem?_getD, List.getD_eq_getElem?_getD, List.getElem?_map]
    cases l[j]? <;> rfl
  match i, hi with
  | 0, _ => exact H _
  | 1, _ => exact H _
  | 2, _ => exact H _
  | 3, _ => exact H _
theorem zTb_len {i : Nat} (hi : i < 4) : ([4, 16, 7, 3] : List Nat).getD i 0 = (zTb i).length := by
  match i, hi with
  | 0, _ => rfl
  | 1, _ => rfl
  | 2, _ => rfl
  | 3, _ => rfl
theorem zTb_and : ∀ i, i < 4 → ∀ j, j < (zTb i).length → zand (zTc i j) 255 = zTc i j ∧ ((zi (zTc i j)).toUInt32 % 65536).toInt32 = zi (zTc i j) ∧ narrow .char (.int (zi (zTc i j))) = .int (zi (zTc i j)) := by decide +kernel
theorem zTb_w : ∀ i, i < 4 → zw ((zTb i).length : Int) = (zTb i).length := by decide +kernel
variable {y : MethodName} {b : ByteArray} {nl idx d : Nat} {rt2 : Option FieldType} {av rest stk stk2 : List Value} {rv : Option Value} {h' : zH}
theorem z_callT {i : Nat} (C : zC κ own cc nL rt) (hR : zR κ = zrm (d + 1)) (hi : i < 4) (hcls : y.cls = "java/lang/String") (hM : zMet (zla κ) y b nl rt2 (zrm d) (zD κ) (zcy κ) (zα κ) (zn κ) (zσ κ) (.ref ((zσ κ).2.1 i) :: av) h rv h') (hY : zYV y b nl rt2 av.length) (hw : Cond.methodLink own idx y ∈ lw_tbl) (hc : (rest.map fun v => v.category).sum ≤ 8) (hdg : decode cc pc = .ok (.invokevirtual idx, 3)) (hs : stk = av.reverse ++ .ref ((zσ κ).2.1 i) :: rest) (hq : pc + 3 = q) (hs2 : stk2 = rv.toList ++ rest) (k : Z κ h' q lv stk2) : Z κ h pc lv stk := by
  subst hq; subst hs; subst hs2
  intro H locs hP hS ls hl
  have hts := C.2.2.2.2.1
  obtain ⟨⟨y1, y2, y3, y4⟩, y5, y6⟩ := hY
  exact z_after hS hl (va_runV (own := own) (C := y.cls) (Ts := zTb') ⟨C.1, C.2.1, C.2.2.1, C.2.2.2.1, hts⟩ (hM H.size) ⟨callB_of _ hts (z_good y1) rfl rfl rfl (hts _ (z_in y2 rfl)) (hts _ (z_in hw rfl)) y3 (zrm_fit hR y4), hts _ (z_in y5 rfl), hts _ (z_in y6 rfl)⟩ ⟨zPc_blind, by rw [hcls]; exact vk_recv C.2.2.2.2.2.2.2.2.1.2.2.1 hi hS, z_pre C hP hS⟩ rfl rfl (hl.1.trans C.2.2.1) rfl (lv_room hc) hdg (zR_0 hR)) k
end ZS
section ZS2
variable {l : Launch} {D : va_G} {cy : ClassId} {α : Nat → Nat} {n : Nat} {σ : zSg} {d : Nat} {h : zH}
theorem M_zats (hd : 1 ≤ d) {i : Nat} (hi : i < 4) {a1 : Int} : zMet l yX10_at cX10_at 2 (some .int) (zrm d) D cy α n σ [.ref (σ.1 i), .int (zi a1)] h (some (.int (zi (zats i a1)))) h := by
  refine z_met (by decide +kernel) (Nat.le_of_ble_eq_true rfl) (fun κ k1 k2 k3 k4 k5 k6 k7 k8 k9 C => ?_)
  subst k1 k3 k4 k5 k6 k7
  have hT := (C.2.2.2.2.2.2.2.2.1.1 i hi).2
  have hL : zw ((zSv i).length : Int) = (zSv i).length := by
    have H : ∀ i, i < 4 → zw ((zSv i).length : Int) = (zSv i).length := by decide +kernel
    exact H i hi
  generalize hF : zats i a1 = r at k8
  unfold zats at hF
  refine z_iload_n (q := 1) C dX10_at_0 1 rfl rfl rfl ?_
  refine z_if_lt (tgt := 16) (q := 4) C dX10_at_1 (by decide) rfl (fun c1 => ?_) (fun c1 => ?_)
  · have hF := (if_pos c1).symm.trans hF
    refine z_iconst (q := 17) C dX10_at_16 rfl ?_
    subst hF
    exact z_iret C k8 k9 dX10_at_17
  · have hF := (if_neg c1).symm.trans hF
    refine z_iload_n (q := 5) C dX10_at_4 1 rfl rfl rfl ?_
    refine z_aload_n (q := 6) C dX10_at_5 0 rfl rfl rfl ?_
    refine z_tlen (q := 7) C hT dX10_at_6 rfl ?_
    refine z_icmp_ge (tgt := 16) (q := 10) C dX10_at_7 (by decide) rfl (fun c2 => ?_) (fun c2 => ?_)
    · rw [hL] at c2
      have hF := (if_pos c2).symm.trans hF
      refine z_iconst (q := 17) C dX10_at_16 rfl ?_
      subst hF
      exact z_iret C k8 k9 dX10_at_17
    · rw [hL] at c2
      have hF := (if_neg c2).symm.trans hF
      refine z_aload_n (q := 11) C dX10_at_10 0 rfl rfl rfl ?_
      refine z_iload_n (q := 12) C dX10_at_11 1 rfl rfl rfl ?_
      refine z_ti (q := 13) C hT (by omega) (by omega) rfl dX10_at_12 rfl ?_
      refine z_goto (q := 17) C dX10_at_13 (by decide) ?_
      subst hF
      exact z_iret C k8 k9 dX10_at_17
theorem M_coder (hd : 1 ≤ d) {i : Nat} (hi : i < 4) : zMet l yJ0_coder_7d493 cJ0_coder_7d493 1 (some .byte) (zrm d) D cy α n σ [.ref (σ.2.1 i)] h (some (.int (zi 0))) h := by
  refine z_met (by decide +kernel) (Nat.le_of_ble_eq_true rfl) (fun κ k1 k2 k3 k4 k5 k6 k7 k8 k9 C => ?_)
  subst k1 k3 k4 k5 k6 k7
  have G := C.2.2.2.2.2.2.2.2.1
  refine z_gv (q := 3) (v := .int (zi 1)) C G.2.1 q_387 dJ0_coder_7d493_0 rfl ?_
  refine z_if_eq (tgt := 13) (q := 6) C dJ0_coder_7d493_3 (by decide) rfl (fun c1 => ?_) (fun c1 => ?_)
  · exact absurd c1 (by decide)
  · refine z_aload_n (q := 7) C dJ0_coder_7d493_6 0 rfl rfl rfl ?_
    refine z_gsf (q := 10) (v := .int (zi 0)) C (G.2.2.1.1 i hi).2.1 q_1778 dJ0_coder_7d493_7 rfl ?_
    refine z_goto (q := 14) C dJ0_coder_7d493_10 (by decide) ?_
    exact z_nret C rfl k8 k9 dJ0_coder_7d493_14
theorem M_isLatin1 (hd : 1 ≤ d) {i : Nat} (hi : i < 4) : zMet l yJ0_isLatin1_aae02 cJ0_isLatin1_aae02 1 (some .boolean) (zrm d) D cy α n σ [.ref (σ.2.1 i)] h (some (.int (zi 1))) h := by
  refine z_met (by decide +kernel) (Nat.le_of_ble_eq_true rfl) (fun κ k1 k2 k3 k4 k5 k6 k7 k8 k9 C => ?_)
  subst k1 k3 k4 k5 k6 k7
  have G := C.2.2.2.2.2.2.2.2.1
  refine z_gv (q := 3) (v := .int (zi 1)) C G.2.1 q_387 dJ0_isLatin1_aae02_0 rfl ?_
  refine z_if_eq (tgt := 17) (q := 6) C dJ0_isLatin1_aae02_3 (by decide) rfl (fun c1 => ?_) (fun c1 => ?_)
  · exact absurd c1 (by decide)
  · refine z_aload_n (q := 7) C dJ0_isLatin1_aae02_6 0 rfl rfl rfl ?_
    refine z_gsf (q := 10) (v := .int (zi 0)) C (G.2.2.1.1 i hi).2.1 q_1778 dJ0_isLatin1_aae02_7 rfl ?_
    refine z_if_ne (tgt := 17) (q := 13) C dJ0_isLatin1_aae02_10 (by decide) rfl (fun c1 => ?_) (fun c1 => ?_)
    · exact absurd zw_0 c1
    · refine z_iconst (q := 14) C dJ0_isLatin1_aae02_13 rfl ?_
      refine z_goto (q := 18) C dJ0_isLatin1_aae02_14 (by decide) ?_
      exact z_nret C rfl k8 k9 dJ0_isLatin1_aae02_18
theorem M_len (hd : 2 ≤ d) {i : Nat} (hi : i < 4) : zMet l yJ0_length_8abf5 cJ0_length_8abf5 1 (some .int) (zrm d) D cy α n σ [.ref (σ.2.1 i)] h (some (.int (zi (zTn i)))) h := by
  obtain ⟨d, rfl⟩ : ∃ e, d = e + 1 := ⟨d - 1, by omega⟩
  refine z_met (by decide +kernel) (Nat.le_of_ble_eq_true rfl) (fun κ k1 k2 k3 k4 k5 k6 k7 k8 k9 C => ?_)
  subst k1 k3 k4 k5 k6 k7
  have G := C.2.2.2.2.2.2.2.2.1
  have hT := (G.2.2.1.1 i hi).2.2.2
  refine z_aload_n (q := 1) C dJ0_length_8abf5_0 0 rfl rfl rfl ?_
  refine z_gsf (q := 4) C (G.2.2.1.1 i hi).2.2.1 q_1777 dJ0_length_8abf5_1 rfl ?_
  refine z_tlen (q := 5) C hT dJ0_length_8abf5_4 rfl ?_
  refine z_aload_n (q := 6) C dJ0_length_8abf5_5 0 rfl rfl rfl ?_
  refine z_callT (q := 9) (i := i) (av := []) (stk2 := [.int (zi 0), .int (zi (([4, 16, 7, 3] : List Nat).getD i 0 : Int))]) C k2 hi rfl (M_coder (zlv hd rfl) hi) mY_J0_coder_7d493 q_383 (Nat.le_of_ble_eq_true rfl) dJ0_length_8abf5_6 rfl rfl rfl ?_
  refine z_ishr (q := 10) C dJ0_length_8abf5_9 rfl ?_
  have e : zshr (([4, 16, 7, 3] : List Nat).getD i 0 : Int) 0 = zTn i := by
    have H : ∀ i, i < 4 → zshr (([4, 16, 7, 3] : List Nat).getD i 0 : Int) 0 = zTn i := by decide +kernel
    exact H i hi
  rw [e]
  exact z_iret C k8 k9 dJ0_length_8abf5_10
theorem M_pck (hd : 1 ≤ d) {x m : Int} {v : Value} (hv : v = .null ∨ ∃ t, v = .ref t) (h0 : 0 ≤ zw x) (h1 : zw x < zw m) : zMet l yJ3_checkIndex_8e157 cJ3_checkIndex_8e157 3 (some .int) (zrm d) D cy α n σ [.int (zi x), .int (zi m), v] h (some (.int (zi x))) h := by
  rcases hv with rfl | ⟨t, rfl⟩
  · refine z_met (by decide +kernel) (Nat.le_of_ble_eq_true rfl) (fun κ k1 k2 k3 k4 k5 k6 k7 k8 k9 C => ?_)
    subst k1 k3 k4 k5 k6 k7
    refine z_iload_n (q := 1) C dJ3_checkIndex_8e157_0 0 rfl rfl rfl ?_
    refine z_if_lt (tgt := 9) (q := 4) C dJ3_checkIndex_8e157_1 (by decide) rfl (fun c1 => absurd c1 (by omega)) (fun c1 => ?_)
    refine z_iload_n (q := 5) C dJ3_checkIndex_8e157_4 0 rfl rfl rfl ?_
    refine z_iload_n (q := 6) C dJ3_checkIndex_8e157_5 1 rfl rfl rfl ?_
    refine z_icmp_lt (tgt := 16) (q := 9) C dJ3_checkIndex_8e157_6 (by decide) rfl (fun c2 => ?_) (fun c2 => absurd h1 c2)
    refine z_iload_n (q := 17) C dJ3_checkIndex_8e157_16 0 rfl rfl rfl ?_
    exact z_iret C k8 k9 dJ3_checkIndex_8e157_17
  · refine z_met (by decide +kernel) (Nat.le_of_ble_eq_true rfl) (fun κ k1 k2 k3 k4 k5 k6 k7 k8 k9 C => ?_)
    subst k1 k3 k4 k5 k6 k7
    refine z_iload_n (q := 1) C dJ3_checkIndex_8e157_0 0 rfl rfl rfl ?_
    refine z_if_lt (tgt := 9) (q := 4) C dJ3_checkIndex_8e157_1 (by decide) rfl (fun c1 => absurd c1 (by omega)) (fun c1 => ?_)
    refine z_iload_n (q := 5) C dJ3_checkIndex_8e157_4 0 rfl rfl rfl ?_
    refine z_iload_n (q := 6) C dJ3_checkIndex_8e157_5 1 rfl rfl rfl ?_
    refine z_icmp_lt (tgt := 16) (q := 9) C dJ3_checkIndex_8e157_6 (by decide) rfl (fun c2 => ?_) (fun c2 => absurd h1 c2)
    refine z_iload_n (q := 17) C dJ3_checkIndex_8e157_16 0 rfl rfl rfl ?_
    exact z_iret C k8 k9 dJ3_checkIndex_8e157_17
theorem M_sck (hd : 2 ≤ d) {x m : Int} (h0 : 0 ≤ zw x) (h1 : zw x < zw m) : zMet l yJ0_checkIndex_df160 cJ0_checkIndex_df160 2 none (zrm d) D cy α n σ [.int (zi x), .int (zi m)] h none h := by
  obtain ⟨d, rfl⟩ : ∃ e, d = e + 1 := ⟨d - 1, by omega⟩
  refine z_met (by decide +kernel) (Nat.le_of_ble_eq_true rfl) (fun κ k1 k2 k3 k4 k5 k6 k7 k8 k9 C => ?_)
  subst k1 k3 k4 k5 k6 k7
  have G := C.2.2.2.2.2.2.2.2.1
  have hq := G.2.2.2.2.1 0 (by decide)
  refine z_iload_n (q := 1) C dJ0_checkIndex_df160_0 0 rfl rfl rfl ?_
  refine z_iload_n (q := 2) C dJ0_checkIndex_df160_1 1 rfl rfl rfl ?_
  have step : ∀ v : Value, (v = .null ∨ ∃ t, v = .ref t) → Z κ h 5 [(0, .int (zi x)), (1, .int (zi m))] [v, .int (zi m), .int (zi x)] := by
    intro v hv
    refine z_callS (q := 8) (av := [.int (zi x), .int (zi m), v]) (rest := []) (stk2 := [.int (zi x)]) C k2 (M_pck (zlv hd rfl) hv h0 h1) mY_J3_checkIndex_8e157 q_405 (Nat.le_of_ble_eq_true rfl) dJ0_checkIndex_df160_5 rfl rfl rfl ?_
    refine z_pop (q := 9) C dJ0_checkIndex_df160_8 rfl rfl ?_
    exact z_vret C k8 k9 dJ0_checkIndex_df160_9
  rcases hq with hz | ⟨t, hz⟩
  · exact z_gv (q := 5) C hz q_403 dJ0_checkIndex_df160_2 rfl (step _ (Or.inl rfl))
  · exact z_gv (q := 5) C hz q_403 dJ0_checkIndex_df160_2 rfl (step _ (Or.inr ⟨t, rfl⟩))
theorem M_lch (hd : 3 ≤ d) {i : Nat} (hi : i < 4) {x : Int} (h0 : 0 ≤ zw x) (h1 : zw x < zTn i) : zMet l yJ1_charAt_3b067 cJ1_charAt_3b067 2 (some .char) (zrm d) D cy α n σ [.ref (σ.2.2 i), .int (zi x)] h (some (.int (zi (zTc i (zw x).toNat)))) h := by
  obtain ⟨d, rfl⟩ : ∃ e, d = e + 1 := ⟨d - 1, by omega⟩
  refine z_met (by decide +kernel) (Nat.le_of_ble_eq_true rfl) (fun κ k1 k2 k3 k4 k5 k6 k7 k8 k9 C => ?_)
  subst k1 k3 k4 k5 k6 k7
  have G := C.2.2.2.2.2.2.2.2.1
  have hT := (G.2.2.1.1 i hi).2.2.2
  have hn : (([4, 16, 7, 3] : List Nat).getD i 0 : Int) = zTn i := by rw [zTb_len hi]; rfl
  have hw := zTb_w i hi
  obtain ⟨a1, a2, a3⟩ := zTb_and i hi (zw x).toNat (by unfold zTn at h1; omega)
  refine z_iload_n (q := 1) C dJ1_charAt_3b067_0 1 rfl rfl rfl ?_
  refine z_aload_n (q := 2) C dJ1_charAt_3b067_1 0 rfl rfl rfl ?_
  refine z_tlen (q := 3) C hT dJ1_charAt_3b067_2 rfl ?_
  refine z_callS (q := 6) (av := [.int (zi x), .int (zi (([4, 16, 7, 3] : List Nat).getD i 0 : Int))]) (rest := []) (stk2 := []) C k2 (M_sck (zlv hd rfl) h0 (by rw [hn]; unfold zTn at h1 ⊢; rw [hw]; exact h1)) mY_J0_checkIndex_df160 q_400 (Nat.le_of_ble_eq_true rfl) dJ1_charAt_3b067_3 rfl rfl rfl ?_
  refine z_aload_n (q := 7) C dJ1_charAt_3b067_6 0 rfl rfl rfl ?_
  refine z_iload_n (q := 8) C dJ1_charAt_3b067_7 1 rfl rfl rfl ?_
  refine z_tb (q := 9) (v := .int (zi (zTc i (zw x).toNat))) C hT h0 (by rw [hn]; exact h1) (congrArg Value.int (zTb_byte hi)) dJ1_charAt_3b067_8 rfl ?_
  refine z_sipush (q := 12) C dJ1_charAt_3b067_9 sp_255 rfl ?_
  refine z_iand (q := 13) C dJ1_charAt_3b067_12 rfl ?_
  rw [a1]
  refine z_i2c (q := 14) C a2 dJ1_charAt_3b067_13 rfl ?_
  exact z_nret C a3 k8 k9 dJ1_charAt_3b067_14
theorem M_cha (hd : 4 ≤ d) {i : Nat} (hi : i < 4) {x : Int} (h0 : 0 ≤ zw x) (h1 : zw x < zTn i) : zMet l yJ0_charAt_5068e cJ0_charAt_5068e 2 (some .char) (zrm d) D cy α n σ [.ref (σ.2.1 i), .int (zi x)] h (some (.int (zi (zTc i (zw x).toNat)))) h := by
  obtain ⟨d, rfl⟩ : ∃ e, d = e + 1 := ⟨d - 1, by omega⟩
  refine z_met (by decide +kernel) (Nat.le_of_ble_eq_true rfl) (fun κ k1 k2 k3 k4 k5 k6 k7 k8 k9 C => ?_)
  subst k1 k3 k4 k5 k6 k7
  have G := C.2.2.2.2.2.2.2.2.1
  obtain ⟨-, -, a3⟩ := zTb_and i hi (zw x).toNat (by unfold zTn at h1; omega)
  refine z_aload_n (q := 1) C dJ0_charAt_5068e_0 0 rfl rfl rfl ?_
  refine z_callT (q := 4) (i := i) (av := []) (stk2 := [.int (zi 1)]) C k2 hi rfl (M_isLatin1 (by omega) hi) mY_J0_isLatin1_aae02 q_393 (Nat.le_of_ble_eq_true rfl) dJ0_charAt_5068e_1 rfl rfl rfl ?_
  refine z_if_eq (tgt := 16) (q := 7) C dJ0_charAt_5068e_4 (by decide) rfl (fun c1 => absurd c1 (by decide)) (fun c1 => ?_)
  refine z_aload_n (q := 8) C dJ0_charAt_5068e_7 0 rfl rfl rfl ?_
  refine z_gsf (q := 11) C (G.2.2.1.1 i hi).2.2.1 q_1777 dJ0_charAt_5068e_8 rfl ?_
  refine z_iload_n (q := 12) C dJ0_charAt_5068e_11 1 rfl rfl rfl ?_
  refine z_callS (q := 15) (av := [.ref ((zσ κ).2.2 i), .int (zi x)]) (rest := []) (stk2 := [.int (zi (zTc i (zw x).toNat))]) C k2 (M_lch (by omega) hi h0 h1) mY_J1_charAt_3b067 q_397 (Nat.le_of_ble_eq_true rfl) dJ0_charAt_5068e_12 rfl rfl rfl ?_
  exact z_nret C a3 k8 k9 dJ0_charAt_5068e_15
end ZS2
section ZS3
variable {κ : zT} {own : String} {cc : ByteArray} {nL : Nat} {rt : Option FieldType} {h : zH} {pc q tgt : Nat} {lv lv' : List (Nat × Value)} {st : List Value} {off : Int} {idx d : Nat} {stk stk2 rest : List Value}
theorem z_strlen {i : Nat} (C : zC κ own cc nL rt) (hR : zR κ = zrm (d + 1)) (hi : i < 4) (hd : 6 ≤ d) (hw : Cond.methodLink own idx yJ0_length_8abf5 ∈ lw_tbl) (hc : (rest.map fun v => v.category).sum ≤ 8) (hdg : decode cc pc = .ok (.invokevirtual idx, 3)) (hq : pc + 3 = q) (hs2 : stk2 = .int (zi (zTn i)) :: rest) (k : Z κ h q lv stk2) : Z κ h pc lv (.ref ((zσ κ).2.1 i) :: rest) :=
  z_callT (av := []) C hR hi rfl (M_len (by omega) hi) mY_J0_length_8abf5 hw hc hdg rfl hq hs2 k
theorem z_strat {i : Nat} {x : Int} (C : zC κ own cc nL rt) (hR : zR κ = zrm (d + 1)) (hi : i < 4) (h0 : 0 ≤ zw x) (h1 : zw x < zTn i) (hd : 6 ≤ d) (hw : Cond.methodLink own idx yJ0_charAt_5068e ∈ lw_tbl) (hc : (rest.map fun v => v.category).sum ≤ 8) (hdg : decode cc pc = .ok (.invokevirtual idx, 3)) (hq : pc + 3 = q) (hs2 : stk2 = .int (zi (zTc i (zw x).toNat)) :: rest) (k : Z κ h q lv stk2) : Z κ h pc lv (.int (zi x) :: .ref ((zσ κ).2.1 i) :: rest) :=
  z_callT (av := [.int (zi x)]) C hR hi rfl (M_cha (by omega) hi h0 h1) mY_J0_charAt_5068e hw hc hdg rfl hq hs2 k
end ZS3
