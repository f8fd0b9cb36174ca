def lwv (b0 : Nat) (α : Nat → Nat) (oa i : Nat) : List (Nat × Value) := [(0, .ref b0), (1, .ref (α 0)), (2, .ref (α 14)), (3, .ref oa), (4, .int (zi (i : Int)))]
/-- what a call of the law does to the world: to the case's end at 1360 -/
def lwK (υ : zU) (R : Nat → Nat → zH → Prop) (b0 oa : Nat) (cL : ClassId) (i c k n : Nat) : Prop := ∀ (α2 : Nat → Nat) (nn2 : Nat) (h2 : zH) (f2 : Nat → Int64) (k2 n2 : Nat), (zN ≤ nn2 ∧ nn2 ≤ zN + 1) → R nn2 (c + 1) h2 → k2 ≤ k + 10 → n2 ≤ n + 3300 → zY υ (zws (ycy υ) α2 nn2 h2 ++ [(oa, .inl (cL, 1, .inr (.inl f2)))]) k2 n2 1360 (lwv b0 α2 oa i) []
/-- a case of the law's switch that is walked elsewhere -/
def lwC (υ : zU) (R : Nat → Nat → zH → Prop) (b0 L oa : Nat) (cL : ClassId) (pc : Nat) : Prop := ∀ (α : Nat → Nat) (nn i c k n : Nat) (h : zH) (f : Nat → Int64), (zN ≤ nn ∧ nn ≤ zN + 1) → i + 6 ≤ L → c < 512 → k + 10 ≤ (yR υ).cells → n + 3300 ≤ (yR υ).slots → R nn c h → lwK υ R b0 oa cL i c k n → zY υ (zws (ycy υ) α nn h ++ [(oa, .inl (cL, 1, .inr (.inl f)))]) k n pc (lwv b0 α oa i) []
def zSall (N : Nat) (R : Nat → zH → Prop) : Prop := zS0 N R ∧ zS1 N R ∧ zS2 N R ∧ zS3 N R ∧ zS4 N R ∧ zS6 N R ∧ zS7 N R ∧ zS8 N R ∧ zS9 N R ∧ zS10 N R ∧ zS11 N R ∧ zS12 N R ∧ zS13 N R ∧ zS14 N R ∧ zS15 N R ∧ zS16 N R ∧ zS17 N R ∧ zS18 N R ∧ zS19 N R ∧ zS20 N R ∧ zS21 N R ∧ zS22 N R ∧ zS23 N R ∧ zS24 N R ∧ zS25 N R ∧ zS26 N R ∧ zS28 N R ∧ zS29 N R ∧ zS30 N R ∧ zS31 N R ∧ zS32 N R ∧ zS33 N R ∧ zS34 N R ∧ zS35 N R ∧ zS36 N R
theorem zw_nat {i : Nat} (h : i < 2147483648) : zw (i : Int) = (i : Int) := zw_id (by omega)
theorem lw_mask (x : Int) : 0 ≤ zw (zand x 63) ∧ zw (zand x 63) ≤ 63 := by
  have e : zw (zand x 63) = (zi x &&& zi 63).toInt := by unfold zand zw; rw [zi_toInt]
  rw [e]
  have h1 : (zi x &&& zi 63).toInt = ((zi x &&& zi 63).toBitVec).toInt := rfl
  have h2 : (zi x &&& zi 63).toBitVec = (zi x).toBitVec &&& 63#32 := by
    rw [Int32.toBitVec_and]; rfl
  rw [h1, h2]
  have h3 : ((zi x).toBitVec &&& 63#32).toNat ≤ 63 := by
    rw [BitVec.toNat_and]; exact Nat.and_le_right
  have h4 : ((zi x).toBitVec &&& 63#32).toInt = (((zi x).toBitVec &&& 63#32).toNat : Int) := by
    rw [BitVec.toInt_eq_toNat_cond]
    split
    · rfl
    · omega
  rw [h4]; omega
set_option maxRecDepth 20000 in
set_option maxHeartbeats 4000000 in
theorem lw_one {υ : zU} (C : yV υ RL code 7 ret) {σ : zSg} (hG : zG σ (yA υ) (ys υ) (ys υ).heap) (hRm : yR υ = room_1) {b0 L oa : Nat} {cL : ClassId} {xs : Nat → Int32} (hX : va_X b0 L xs (ys υ) (ys υ).heap) (hbl : b0 < (ys υ).heap.size) (hbA : ¬ yA υ b0) (hL : L ≤ 3072) {N : Nat} {R : Nat → Nat → zH → Prop} (S : ∀ nn, zSall N (R nn)) (HM : ∀ nn c h, R nn c h → R nn (c + 1) h) (P5 : lwC υ R b0 L oa cL 377) (P27 : lwC υ R b0 L oa cL 1098) : lwC υ R b0 L oa cL 33 := by
  intro α nn i c k n h f hn hi hc hk hs hRc kk
  obtain ⟨S0, S1, S2, S3, S4, S6, S7, S8, S9, S10, S11, S12, S13, S14, S15, S16, S17, S18, S19, S20, S21, S22, S23, S24, S25, S26, S28, S29, S30, S31, S32, S33, S34, S35, S36⟩ := S nn
  have hkn : k ≤ (yR υ).cells ∧ n ≤ (yR υ).slots := ⟨by omega, by omega⟩
  have kk0 : ∀ h2, R nn (c + 1) h2 → zY υ (zws (ycy υ) α nn h2 ++ [(oa, .inl (cL, 1, .inr (.inl f)))]) k n 1360 (lwv b0 α oa i) [] := fun h2 hR2 => kk α nn h2 f k n hn hR2 (by omega) (by omega)
  refine y_aload_n (q := 34) C dL_law_33 0 rfl rfl rfl ?_
  refine y_iload (q := 36) C dL_law_34 4 rfl rfl ?_
  refine y_sld (q := 37) (j := i) C hX hbl hbA (zw_nat (by omega)) (by omega) dL_law_36 rfl ?_
  refine y_bipush (q := 39) (v := zi 63) C dL_law_37 (by decide) rfl ?_
  refine y_iand (q := 40) C dL_law_39 rfl ?_
  have hm := lw_mask (xs i).toInt
  have hcs : zw (zand (xs i).toInt 63) = 0 ∨ zw (zand (xs i).toInt 63) = 1 ∨ zw (zand (xs i).toInt 63) = 2 ∨ zw (zand (xs i).toInt 63) = 3 ∨ zw (zand (xs i).toInt 63) = 4 ∨ zw (zand (xs i).toInt 63) = 5 ∨ zw (zand (xs i).toInt 63) = 6 ∨ zw (zand (xs i).toInt 63) = 7 ∨ zw (zand (xs i).toInt 63) = 8 ∨ zw (zand (xs i).toInt 63) = 9 ∨ zw (zand (xs i).toInt 63) = 10 ∨ zw (zand (xs i).toInt 63) = 11 ∨ zw (zand (xs i).toInt 63) = 12 ∨ zw (zand (xs i).toInt 63) = 13 ∨ zw (zand (xs i).toInt 63) = 14 ∨ zw (zand (xs i).toInt 63) = 15 ∨ zw (zand (xs i).toInt 63) = 16 ∨ zw (zand (xs i).toInt 63) = 17 ∨ zw (zand (xs i).toInt 63) = 18 ∨ zw (zand (xs i).toInt 63) = 19 ∨ zw (zand (xs i).toInt 63) = 20 ∨ zw (zand (xs i).toInt 63) = 21 ∨ zw (zand (xs i).toInt 63) = 22 ∨ zw (zand (xs i).toInt 63) = 23 ∨ zw (zand (xs i).toInt 63) = 24 ∨ zw (zand (xs i).toInt 63) = 25 ∨ zw (zand (xs i).toInt 63) = 26 ∨ zw (zand (xs i).toInt 63) = 27 ∨ zw (zand (xs i).toInt 63) = 28 ∨ zw (zand (xs i).toInt 63) = 29 ∨ zw (zand (xs i).toInt 63) = 30 ∨ zw (zand (xs i).toInt 63) = 31 ∨ zw (zand (xs i).toInt 63) = 32 ∨ zw (zand (xs i).toInt 63) = 33 ∨ zw (zand (xs i).toInt 63) = 34 ∨ zw (zand (xs i).toInt 63) = 35 ∨ zw (zand (xs i).toInt 63) = 36 ∨ 36 < zw (zand (xs i).toInt 63) := by omega
  rcases hcs with e | e | e | e | e | e | e | e | e | e | e | e | e | e | e | e | e | e | e | e | e | e | e | e | e | e | e | e | e | e | e | e | e | e | e | e | e | e
  · refine y_tableIn (tgt := 204) C e dL_law_40 (by decide) (by decide) rfl (by decide) ?_
    exact law_case0 C hG hRm hn hX hbl hbA hL hi hc hkn S0 hRc kk0
  · refine y_tableIn (tgt := 277) C e dL_law_40 (by decide) (by decide) rfl (by decide) ?_
    exact law_case1 C hG hRm hn hX hbl hbA hL hi hc hkn S1 hRc kk0
  · refine y_tableIn (tgt := 302) C e dL_law_40 (by decide) (by decide) rfl (by decide) ?_
    exact law_case2 C hG hRm hn hX hbl hbA hL hi hc hkn S2 hRc kk0
  · refine y_tableIn (tgt := 327) C e dL_law_40 (by decide) (by decide) rfl (by decide) ?_
    exact law_case3 C hG hRm hn hX hbl hbA hL hi hc hkn S3 hRc kk0
  · refine y_tableIn (tgt := 352) C e dL_law_40 (by decide) (by decide) rfl (by decide) ?_
    exact law_case4 C hG hRm hn hX hbl hbA hL hi hc hkn S4 hRc kk0
  · refine y_tableIn (tgt := 377) C e dL_law_40 (by decide) (by decide) rfl (by decide) ?_
    exact P5 α nn i c k n h f hn hi hc hk hs hRc kk
  · refine y_tableIn (tgt := 445) C e dL_law_40 (by decide) (by decide) rfl (by decide) ?_
    exact law_case6 C hG hRm hn hX hbl hbA hL hi hc hkn S6 hRc kk0
  · refine y_tableIn (tgt := 482) C e dL_law_40 (by decide) (by decide) rfl (by decide) ?_
    exact law_case7 C hG hRm hn hX hbl hbA hL hi hc hkn S7 hRc kk0
  · refine y_tableIn (tgt := 519) C e dL_law_40 (by decide) (by decide) rfl (by decide) ?_
    exact law_case8 C hG hRm hn hX hbl hbA hL hi hc hkn S8 hRc kk0
  · refine y_tableIn (tgt := 544) C e dL_law_40 (by decide) (by decide) rfl (by decide) ?_
    exact law_case9 C hG hRm hn hX hbl hbA hL hi hc hkn S9 hRc kk0
  · refine y_tableIn (tgt := 569) C e dL_law_40 (by decide) (by decide) rfl (by decide) ?_
    exact law_case10 C hG hRm hn hX hbl hbA hL hi hc hkn S10 hRc kk0
  · refine y_tableIn (tgt := 606) C e dL_law_40 (by decide) (by decide) rfl (by decide) ?_
    exact law_case11 C hG hRm hn hX hbl hbA hL hi hc hkn S11 hRc kk0
  · refine y_tableIn (tgt := 631) C e dL_law_40 (by decide) (by decide) rfl (by decide) ?_
    exact law_case12 C hG hRm hn hX hbl hbA hL hi hc hkn S12 hRc kk0
  · refine y_tableIn (tgt := 656) C e dL_law_40 (by decide) (by decide) rfl (by decide) ?_
    exact law_case13 C hG hRm hn hX hbl hbA hL hi hc hkn S13 hRc kk0
  · refine y_tableIn (tgt := 681) C e dL_law_40 (by decide) (by decide) rfl (by decide) ?_
    exact law_case14 C hG hRm hn hX hbl hbA hL hi hc hkn S14 hRc kk0
  · refine y_tableIn (tgt := 750) C e dL_law_40 (by decide) (by decide) rfl (by decide) ?_
    exact law_case15 C hG hRm hn hX hbl hbA hL hi hc hkn S15 hRc kk0
  · refine y_tableIn (tgt := 763) C e dL_law_40 (by decide) (by decide) rfl (by decide) ?_
    exact law_case16 C hG hRm hn hX hbl hbA hL hi hc hkn S16 hRc kk0
  · refine y_tableIn (tgt := 800) C e dL_law_40 (by decide) (by decide) rfl (by decide) ?_
    exact law_case17 C hG hRm hn hX hbl hbA hL hi hc hkn S17 hRc kk0
  · refine y_tableIn (tgt := 849) C e dL_law_40 (by decide) (by decide) rfl (by decide) ?_
    exact law_case18 C hG hRm hn hX hbl hbA hL hi hc hkn S18 hRc kk0
  · refine y_tableIn (tgt := 874) C e dL_law_40 (by decide) (by decide) rfl (by decide) ?_
    exact law_case19 C hG hRm hn hX hbl hbA hL hi hc hkn S19 hRc kk0
  · refine y_tableIn (tgt := 899) C e dL_law_40 (by decide) (by decide) rfl (by decide) ?_
    exact law_case20 C hG hRm hn hX hbl hbA hL hi hc hkn S20 hRc kk0
  · refine y_tableIn (tgt := 948) C e dL_law_40 (by decide) (by decide) rfl (by decide) ?_
    exact law_case21 C hG hRm hn hX hbl hbA hL hi hc hkn S21 hRc kk0
  · refine y_tableIn (tgt := 973) C e dL_law_40 (by decide) (by decide) rfl (by decide) ?_
    exact law_case22 C hG hRm hn hX hbl hbA hL hi hc hkn S22 hRc kk0
  · refine y_tableIn (tgt := 986) C e dL_law_40 (by decide) (by decide) rfl (by decide) ?_
    exact law_case23 C hG hRm hn hX hbl hbA hL hi hc hkn S23 hRc kk0
  · refine y_tableIn (tgt := 1023) C e dL_law_40 (by decide) (by decide) rfl (by decide) ?_
    exact law_case24 C hG hRm hn hX hbl hbA hL hi hc hkn S24 hRc kk0
  · refine y_tableIn (tgt := 1048) C e dL_law_40 (by decide) (by decide) rfl (by decide) ?_
    exact law_case25 C hG hRm hn hX hbl hbA hL hi hc hkn S25 hRc kk0
  · refine y_tableIn (tgt := 1061) C e dL_law_40 (by decide) (by decide) rfl (by decide) ?_
    exact law_case26 C hG hRm hn hX hbl hbA hL hi hc hkn S26 hRc kk0
  · refine y_tableIn (tgt := 1098) C e dL_law_40 (by decide) (by decide) rfl (by decide) ?_
    exact P27 α nn i c k n h f hn hi hc hk hs hRc kk
  · refine y_tableIn (tgt := 1123) C e dL_law_40 (by decide) (by decide) rfl (by decide) ?_
    exact law_case28 C hG hRm hn hX hbl hbA hL hi hc hkn S28 hRc kk0
  · refine y_tableIn (tgt := 1184) C e dL_law_40 (by decide) (by decide) rfl (by decide) ?_
    exact law_case29 C hG hRm hn hX hbl hbA hL hi hc hkn S29 hRc kk0
  · refine y_tableIn (tgt := 1221) C e dL_law_40 (by decide) (by decide) rfl (by decide) ?_
    exact law_case30 C hG hRm hn hX hbl hbA hL hi hc hkn S30 hRc kk0
  · refine y_tableIn (tgt := 1246) C e dL_law_40 (by decide) (by decide) rfl (by decide) ?_
    exact law_case31 C hG hRm hn hX hbl hbA hL hi hc hkn S31 hRc kk0
  · refine y_tableIn (tgt := 1259) C e dL_law_40 (by decide) (by decide) rfl (by decide) ?_
    exact law_case32 C hG hRm hn hX hbl hbA hL hi hc hkn S32 hRc kk0
  · refine y_tableIn (tgt := 1272) C e dL_law_40 (by decide) (by decide) rfl (by decide) ?_
    exact law_case33 C hG hRm hn hX hbl hbA hL hi hc hkn S33 hRc kk0
  · refine y_tableIn (tgt := 1309) C e dL_law_40 (by decide) (by decide) rfl (by decide) ?_
    exact law_case34 C hG hRm hn hX hbl hbA hL hi hc hkn S34 hRc kk0
  · refine y_tableIn (tgt := 1322) C e dL_law_40 (by decide) (by decide) rfl (by decide) ?_
    exact law_case35 C hG hRm hn hX hbl hbA hL hi hc hkn S35 hRc kk0
  · refine y_tableIn (tgt := 1335) C e dL_law_40 (by decide) (by decide) rfl (by decide) ?_
    exact law_case36 C hG hRm hn hX hbl hbA hL hi hc hkn S36 hRc kk0
  · refine y_tableOut (tgt := 1360) C dL_law_40 (Or.inr e) (by decide) ?_
    exact kk0 h (HM nn c h hRc)
set_option maxRecDepth 20000 in
set_option maxHeartbeats 4000000 in
theorem lw_loop {υ : zU} (C : yV υ RL code 7 ret) {σ : zSg} (hG : zG σ (yA υ) (ys υ) (ys υ).heap) (hRm : yR υ = room_1) {b0 L oa : Nat} {cL : ClassId} {xs : Nat → Int32} (hX : va_X b0 L xs (ys υ) (ys υ).heap) (hbl : b0 < (ys υ).heap.size) (hbA : ¬ yA υ b0) (hL : L ≤ 3072) {N : Nat} {R : Nat → Nat → zH → Prop} (S : ∀ nn, zSall N (R nn)) (HM : ∀ nn c h, R nn c h → R nn (c + 1) h) (P5 : lwC υ R b0 L oa cL 377) (P27 : lwC υ R b0 L oa cL 1098) (hend : ∀ (ws : va_W) (k n : Nat) (lv : List (Nat × Value)), k ≤ 601024 → n ≤ 7293034 → zY υ ws k n 1366 lv []) : ∀ (m c : Nat) (α : Nat → Nat) (nn k n : Nat) (h : zH) (f : Nat → Int64), m + c = 513 → (zN ≤ nn ∧ nn ≤ zN + 1) → R nn c h → k ≤ 100 + 10 * c → n ≤ 40000 + 3300 * c → zY υ (zws (ycy υ) α nn h ++ [(oa, .inl (cL, 1, .inr (.inl f)))]) k n 23 (lwv b0 α oa (6 * c)) [] := by
  intro m
  induction m with
  | zero =>
    intro c α nn k n h f hm hn hRc hk hs
    refine y_iload (q := 25) C dL_law_23 4 rfl rfl ?_
    refine y_aload_n (q := 26) C dL_law_25 0 rfl rfl rfl ?_
    refine y_slen (q := 27) C hX hbl hbA dL_law_26 rfl ?_
    refine y_bipush (q := 29) (v := zi 6) C dL_law_27 (by decide) rfl ?_
    refine y_isub (q := 30) C dL_law_29 rfl ?_
    refine y_icmp_gt (tgt := 1366) (q := 33) C dL_law_30 (by decide) rfl (fun _ => hend _ k n _ (by omega) (by omega)) (fun e => ?_)
    rw [zw_id (by omega), zw_nat (by omega)] at e
    omega
  | succ m ih =>
    intro c α nn k n h f hm hn hRc hk hs
    refine y_iload (q := 25) C dL_law_23 4 rfl rfl ?_
    refine y_aload_n (q := 26) C dL_law_25 0 rfl rfl rfl ?_
    refine y_slen (q := 27) C hX hbl hbA dL_law_26 rfl ?_
    refine y_bipush (q := 29) (v := zi 6) C dL_law_27 (by decide) rfl ?_
    refine y_isub (q := 30) C dL_law_29 rfl ?_
    refine y_icmp_gt (tgt := 1366) (q := 33) C dL_law_30 (by decide) rfl (fun _ => hend _ k n _ (by omega) (by omega)) (fun e => ?_)
    rw [zw_id (by omega), zw_nat (by omega)] at e
    have hi : 6 * c + 6 ≤ L := by omega
    have hr1 : (yR υ).cells = 601024 := by rw [hRm]; rfl
    have hr2 : (yR υ).slots = 7293034 := by rw [hRm]; rfl
    refine lw_one C hG hRm hX hbl hbA hL S HM P5 P27 α nn (6 * c) c k n h f hn hi (by omega) (by omega) (by omega) hRc ?_
    intro α2 nn2 h2 f2 k2 n2 hn2 hR2 hk2 hs2
    refine y_iinc (q := 1363) (x := ((6 * c : Nat) : Int)) C dL_law_1360 (j := 4) rfl (by decide) rfl rfl ?_
    refine y_goto (q := 23) C dL_law_1363 (by decide) ?_
    refine y_sub ?_ [1, 2, 3, 4, 0] rfl
    exact ih (c + 1) α2 nn2 k2 n2 h2 f2 (by omega) hn2 hR2 (by omega) (by omega)
