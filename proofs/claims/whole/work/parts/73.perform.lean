/-! perform, ahead -/
def wPer (np nd nr : Nat) (t : Nat → Nat) (gr : hGr) (ol : Nat → Nat) (sp : Nat → Int) (o : Nat) (w : hW) : Nat × hW := rnGo (fun i (w : hW) => sOk np nr t sp (48 * o + 3 * i) w.1) (fun i (w : hW) => (sDo np nd t gr sp (48 * o + 3 * i) w.1, wKeep w.1 w.2)) (ol o) 0 w
theorem rnGo_OK {np nd nr : Nat} {t : Nat → Nat} {gr : hGr} {sp : Nat → Int} {o : Nat} (V : HV np nd nr t) (l i : Nat) (w : hW) (O : WOK np nd nr t w) : WOK np nd nr t (rnGo (fun i (w : hW) => sOk np nr t sp (48 * o + 3 * i) w.1) (fun i (w : hW) => (sDo np nd t gr sp (48 * o + 3 * i) w.1, wKeep w.1 w.2)) l i w).2 := by
  induction l generalizing i w with
  | zero => exact O
  | succ l ih =>
    unfold rnGo
    split
    · rename_i hs
      have := sDo_OK (gr := gr) V O.1 hs
      exact ih (i + 1) _ (WOK_set (WOK_keep O) this.1 this.2)
    · exact O
theorem perfX {np nd nr no lim : Nat} {t : Nat → Nat} {ol : Nat → Nat} {sp : Nat → Int} {w : hW} {h : zH} (V : HV np nd nr t) (OO : OV no ol sp) (O : WOK np nd nr t w) (H : CW np nd nr t lim w h) (hlim : lim < 900000000) (OH : OX no ol sp h) {N : Nat} (hN : 300 ≤ N) {gr : hGr} (G : GX N 32 gr h) {x : Int} (hx : zw x = x) : (¬ (0 < np ∧ 0 ≤ x ∧ x < no) → fX10_perform N x h = some (-1, h)) ∧ (0 < np ∧ 0 ≤ x ∧ x < no → ∃ h', fX10_perform N x h = some (((wPer np nd nr t gr ol sp x.toNat w).1 : Int), h') ∧ FR [5, 10, 26, 30, 31, 32, 33, 42] h h' ∧ FS 5 [5] h h' ∧ CW np nd nr t (lim + 16) (wPer np nd nr t gr ol sp x.toNat w).2 h') := by
  have h4 := OO.1
  refine ⟨fun hc => ?_, fun hc => ?_⟩
  · unfold fX10_perform
    rw [hasHillX V H.1, hasO OO OH hx, zq, zq]
    by_cases h0 : 0 < np
    · rw [if_pos h0, if_neg (fun y => hc ⟨h0, y⟩)]
    · rw [if_neg h0]
  · obtain ⟨o, rfl⟩ := Int.eq_ofNat_of_zero_le hc.2.1
    have h0 := hc.1
    have ho : o < no := by omega
    have hl := (OO.2 o ho).1
    rw [Int.toNat_natCast]
    unfold fX10_perform
    rw [hasHillX V H.1, hasO OO OH hx, zq, zq, if_pos h0, if_pos hc.2]
    refine zloopq (F := fun k i (s : zH) => fX10_perform_c22 N k (o : Int) i s) (n := ol o) (s := h) (fun i s => FR [5, 10, 26, 30, 31, 32, 33, 42] h s ∧ FS 5 [5] h s ∧ ∃ w', WOK np nd nr t w' ∧ CW np nd nr t (lim + i) w' s ∧ wPer np nd nr t gr ol sp o w = rnGo (fun i (w : hW) => sOk np nr t sp (48 * o + 3 * i) w.1) (fun i (w : hW) => (sDo np nd t gr sp (48 * o + 3 * i) w.1, wKeep w.1 w.2)) (ol o - i) i w') (fun b => ∃ h', b = some (((wPer np nd nr t gr ol sp o w).1 : Int), h') ∧ FR [5, 10, 26, 30, 31, 32, 33, 42] h h' ∧ FS 5 [5] h h' ∧ CW np nd nr t (lim + 16) (wPer np nd nr t gr ol sp o w).2 h') (fun k i s hi hI => ?_) (fun k s hI => ?_) (by omega) ⟨FR_rf, FS_rf, w, O, H, rfl⟩
    · obtain ⟨i1, i2, w', O', C', eq⟩ := hI
      have Os : OX no ol sp s := OX_to OH (by rw [i1 6 (by decide)]) (i1 27 (by decide)) (i1 28 (by decide))
      have e : fX10_perform_c22 N (k + 1) (o : Int) (i : Int) s = if sOk np nr t sp (48 * o + 3 * i) w'.1 = true then zb (fX0_keep 7 s) (fun h4 => zb (fX10_takeStep N 7 (o : Int) (i : Int) h4) (fun h5 => fX10_perform_c22 N k (o : Int) ((i + 1 : Nat) : Int) h5)) else some ((i : Int), s) := by
        show fX10_perform_c22b N (fX10_perform_c22 N k) _ _ _ = _
        unfold fX10_perform_c22b
        rw [lenX OO Os ho, zw_id (show -2147483648 ≤ (ol o : Int) ∧ (ol o : Int) < 2147483648 by omega), zw_id (show -2147483648 ≤ (i : Int) ∧ (i : Int) < 2147483648 by omega), if_neg (by omega), canSX7 V OO C'.1 Os O'.1.1 C'.2.1 (by have := O'.1.2.2.2; omega) ho hi, zb_some, zq]
        rfl
      have er : ol o - i = (ol o - (i + 1)) + 1 := by omega
      rw [er] at eq
      by_cases hs : sOk np nr t sp (48 * o + 3 * i) w'.1 = true
      · rw [if_pos hs] at e
        obtain ⟨h1, k1, k2, k3⟩ := CW_keep V O' C' (by omega)
        have Ok := WOK_keep O'
        have F1 : FR [5, 10, 26, 30, 31, 32, 33, 42] h h1 := FR_tr i1 (FR_up k2 (by decide))
        have F15 : FS 5 [5] h h1 := FS_tr i2 (FS_of k2 (by decide))
        obtain ⟨h2, f1, f2, f3, f4⟩ := doSW V OO Ok k3 (OX_to Os (by rw [k2 6 (by decide)]) (k2 27 (by decide)) (k2 28 (by decide))) (show 8 ≤ N by omega) (GX_F G F1 F15 (by decide) (by decide)) h0 ho hi hs
        rw [k1, zb_some, f1, zb_some] at e
        left
        have := sDo_OK (gr := gr) V O'.1 hs
        refine ⟨h2, e, FR_tr F1 (FR_up f2 (by decide)), FS_tr F15 f3, _, WOK_set Ok this.1 this.2, f4, ?_⟩
        rw [eq]
        exact rnGo_y (ok := fun i (w : hW) => sOk np nr t sp (48 * o + 3 * i) w.1) (s := w') hs
      · rw [if_neg hs] at e
        right
        have ei : wPer np nd nr t gr ol sp o w = (i, w') := by
          rw [eq]
          exact rnGo_n (ok := fun i (w : hW) => sOk np nr t sp (48 * o + 3 * i) w.1) (s := w') hs
        rw [ei]
        exact ⟨s, e, i1, i2, CW_to C' (by omega) rfl rfl rfl rfl rfl rfl rfl⟩
    · obtain ⟨i1, i2, w', O', C', eq⟩ := hI
      have Os : OX no ol sp s := OX_to OH (by rw [i1 6 (by decide)]) (i1 27 (by decide)) (i1 28 (by decide))
      rw [Nat.sub_self] at eq
      have ei : wPer np nd nr t gr ol sp o w = (ol o, w') := eq
      rw [ei]
      refine ⟨s, ?_, i1, i2, CW_to C' (by omega) rfl rfl rfl rfl rfl rfl rfl⟩
      show fX10_perform_c22b N (fX10_perform_c22 N k) _ _ _ = _
      unfold fX10_perform_c22b
      rw [lenX OO Os ho, if_pos (by omega)]
theorem perfM {np nd nr no B : Nat} {t : Nat → Nat} {ol : Nat → Nat} {sp : Nat → Int} {w : hW} {g : zH} (V : HV np nd nr t) (OO : OV no ol sp) (O : WOK np nd nr t w) (H : MW np nd nr t B w g) (OM : OMo no ol sp g) (hB : B < 900000000) {N : Nat} (hN : 6600 ≤ N) {gr : hGr} (G : GM N gr g) {x : Int} (hx : zw x = x) : (¬ (0 < np ∧ 0 ≤ x ∧ x < no) → fX11_perform N x g = some (-1, g)) ∧ (0 < np ∧ 0 ≤ x ∧ x < no → ∃ g', fX11_perform N x g = some (((wPer np nd nr t gr ol sp x.toNat w).1 : Int), g') ∧ FR [14, 57, 58, 69, 70] g g' ∧ FS 14 [38] g g' ∧ MW np nd nr t (B + 16) (wPer np nd nr t gr ol sp x.toNat w).2 g') := by
  have h4 := OO.1
  have v := V.1
  refine ⟨fun hc => ?_, fun hc => ?_⟩
  · unfold fX11_perform
    rw [H.1.1.1, isO OO OM hx, zq, zw_id (show -2147483648 ≤ (np : Int) ∧ (np : Int) < 2147483648 by omega)]
    by_cases h0 : 0 < np
    · rw [if_neg (show ¬ (np : Int) = 0 by omega), if_neg (fun y => hc ⟨h0, y⟩)]
    · rw [if_pos (show (np : Int) = 0 by omega)]
  · obtain ⟨o, rfl⟩ := Int.eq_ofNat_of_zero_le hc.2.1
    have h0 := hc.1
    have ho : o < no := by omega
    have hl := (OO.2 o ho).1
    rw [Int.toNat_natCast]
    unfold fX11_perform
    rw [H.1.1.1, isO OO OM hx, zq, zw_id (show -2147483648 ≤ (np : Int) ∧ (np : Int) < 2147483648 by omega), if_neg (show ¬ (np : Int) = 0 by omega), if_pos hc.2]
    have ow : zw (o : Int) = (o : Int) := hx
    have rd : ∀ s : zH, FR [14, 57, 58, 69, 70] g s → s 68 o = (ol o : Int) := fun s F => by rw [F 68 (by decide)]; exact (OM.2 o ho).1
    refine zloopq (F := fun k i (s : zH) => fX11_perform_c19 N k (o : Int) i s) (n := ol o) (s := g) (fun i s => FR [14, 57, 58, 69, 70] g s ∧ FS 14 [38] g s ∧ ∃ w', WOK np nd nr t w' ∧ MW np nd nr t (B + i) w' s ∧ wPer np nd nr t gr ol sp o w = rnGo (fun i (w : hW) => sOk np nr t sp (48 * o + 3 * i) w.1) (fun i (w : hW) => (sDo np nd t gr sp (48 * o + 3 * i) w.1, wKeep w.1 w.2)) (ol o - i) i w') (fun b => ∃ g', b = some (((wPer np nd nr t gr ol sp o w).1 : Int), g') ∧ FR [14, 57, 58, 69, 70] g g' ∧ FS 14 [38] g g' ∧ MW np nd nr t (B + 16) (wPer np nd nr t gr ol sp o w).2 g') (fun k i s hi hI => ?_) (fun k s hI => ?_) (by omega) ⟨FR_rf, FS_rf, w, O, H, rfl⟩
    · obtain ⟨i1, i2, w', O', C', eq⟩ := hI
      have Os : OMo no ol sp s := OM_to OM (i2 33 (by decide)) (i1 67 (by decide)) (i1 68 (by decide))
      have e : fX11_perform_c19 N (k + 1) (o : Int) (i : Int) s = if sOk np nr t sp (48 * o + 3 * i) w'.1 = true then zb (fX11_keep N s) (fun h4 => zb (fX11_doStep N (3 * ((16 * (o : Int)) + (i : Int))) h4) (fun h5 => fX11_perform_c19 N k (o : Int) ((i + 1 : Nat) : Int) h5)) else some ((i : Int), s) := by
        show fX11_perform_c19b N (fX11_perform_c19 N k) _ _ _ = _
        unfold fX11_perform_c19b
        rw [canSM V OO C'.1 Os O'.1.1 C'.2.1 (by have := O'.1.2.2.2; omega) (show 8 ≤ N by omega) ho hi, zb_some, zq, show zw (o : Int) = (o : Int) from ow, Int.toNat_natCast, rd s i1, zw_id (show -2147483648 ≤ (ol o : Int) ∧ (ol o : Int) < 2147483648 by omega), if_pos (show (0 : Int) ≤ (o : Int) ∧ (o : Int) < 5 by omega), if_neg (show ¬ (ol o : Int) ≤ zw (i : Int) by rw [zw_id (by omega)]; omega)]
        rfl
      have er : ol o - i = (ol o - (i + 1)) + 1 := by omega
      rw [er] at eq
      by_cases hs : sOk np nr t sp (48 * o + 3 * i) w'.1 = true
      · rw [if_pos hs] at e
        obtain ⟨h1, k1, k2, k2', k3⟩ := MW_keep V O' C' hN
        have Ok := WOK_keep O'
        have F1 : FR [14, 57, 58, 69, 70] g h1 := FR_tr i1 (FR_up k2 (by decide))
        have F15 : FS 14 [38] g h1 := FS_tr i2 k2'
        obtain ⟨h2, f1, f2, f4⟩ := doSM V OO k3.1 (OM_to Os (k2' 33 (by decide)) (k2 67 (by decide)) (k2 68 (by decide))) Ok.1 k3.2.1 (by omega) (show 200 ≤ N by omega) (GM_F G F1 (F15 35 (by decide)) (by intro b b1 b2 hb; simp at hb; omega)) h0 ho hi hs
        rw [k1, zb_some, f1, zb_some] at e
        left
        have := sDo_OK (gr := gr) V O'.1 hs
        refine ⟨h2, e, FR_tr F1 (FR_up f2 (by decide)), FS_tr F15 (FS_of f2 (by decide)), _, WOK_set Ok this.1 this.2, MW_69 k3 (by omega) f2 f4, ?_⟩
        rw [eq]
        exact rnGo_y (ok := fun i (w : hW) => sOk np nr t sp (48 * o + 3 * i) w.1) (s := w') hs
      · rw [if_neg hs] at e
        right
        have ei : wPer np nd nr t gr ol sp o w = (i, w') := by
          rw [eq]
          exact rnGo_n (ok := fun i (w : hW) => sOk np nr t sp (48 * o + 3 * i) w.1) (s := w') hs
        rw [ei]
        exact ⟨s, e, i1, i2, MW_B C' (by omega)⟩
    · obtain ⟨i1, i2, w', O', C', eq⟩ := hI
      rw [Nat.sub_self] at eq
      have ei : wPer np nd nr t gr ol sp o w = (ol o, w') := eq
      rw [ei]
      refine ⟨s, ?_, i1, i2, MW_B C' (by omega)⟩
      show fX11_perform_c19b N (fX11_perform_c19 N k) _ _ _ = _
      unfold fX11_perform_c19b
      rw [if_pos (show 0 ≤ zw (o : Int) ∧ zw (o : Int) < 5 by rw [ow]; omega), if_pos (show zw (s 68 (zw (o : Int)).toNat) ≤ zw (ol o : Int) by rw [ow, Int.toNat_natCast, rd s i1]; exact Int.le_refl _)]
def aPn (np nd : Nat) (t : Nat → Nat) (gr : hGr) (a : hSt) : Nat → hSt
  | 0 => a
  | n + 1 => aPass np nd t gr false (aPn np nd t gr a n)
theorem aPn_OK {np nd nr : Nat} {t : Nat → Nat} {gr : hGr} {a : hSt} (V : HV np nd nr t) (A : AV np nd nr t a) (D : ADs np nr t a) (n : Nat) : AV np nd nr t (aPn np nd t gr a n) ∧ ADs np nr t (aPn np nd t gr a n) ∧ aT (aPn np nd t gr a n) = aT a + n ∧ (aL (aPn np nd t gr a n)).length ≤ (aL a).length + n := by
  induction n with
  | zero => exact ⟨A, D, rfl, Nat.le_refl _⟩
  | succ n ih =>
    obtain ⟨i1, i2, i3, i4⟩ := ih
    obtain ⟨p1, p2⟩ := aPass_AV (gr := gr) (dark := false) V i1 i2
    refine ⟨p1, p2, ?_, ?_⟩
    · show aT (aPass np nd t gr false (aPn np nd t gr a n)) = _
      rw [aPass_T, i3]; omega
    · show (aL (aPass np nd t gr false (aPn np nd t gr a n))).length ≤ _
      rw [aPass_L]
      unfold aMorn
      split
      · show (aL (aPn np nd t gr a n)).length + 1 ≤ _
        omega
      · omega
def wAhd (np nd : Nat) (t : Nat → Nat) (gr : hGr) (p n z : Nat) (a : hSt) : Int := if z = 0 then (aH (aPn np nd t gr a n) p : Int) else aS (aPn np nd t gr a n) p
theorem ahdX {np nd nr lim : Nat} {t : Nat → Nat} {w : hW} {h : zH} (V : HV np nd nr t) (O : WOK np nd nr t w) (H : CW np nd nr t lim w h) {N : Nat} (hN : 300 ≤ N) {gr : hGr} (G : GX N 36 gr h) {x y z : Int} (hx : zw x = x) (hy : zw y = y) (hz : zw z = z) : (¬ ((0 ≤ x ∧ x < np) ∧ (0 ≤ y ∧ y ≤ 240) ∧ 0 ≤ z ∧ z ≤ 1) → fX10_ahead N x y z h = some (-1, h)) ∧ ((0 ≤ x ∧ x < np) ∧ (0 ≤ y ∧ y ≤ 240) ∧ 0 ≤ z ∧ z ≤ 1 → ∃ h', fX10_ahead N x y z h = some (wAhd np nd t gr x.toNat y.toNat z.toNat w.1, h') ∧ FR [5, 26, 34, 35, 36, 37] h h' ∧ FS 5 [5] h h') := by
  have v := V.1
  refine ⟨fun hc => ?_, fun hc => ?_⟩
  · unfold fX10_ahead
    rw [xh1 V H.1 hx, zq, hy, hz, zw_1, show zw 240 = 240 by decide]
    by_cases h1 : 0 ≤ x ∧ x < np
    · rw [if_pos h1]
      by_cases h2 : y < 0
      · rw [if_pos h2]
      · rw [if_neg h2]
        by_cases h3 : 240 < y
        · rw [if_pos h3]
        · rw [if_neg h3]
          by_cases h5 : z < 0
          · rw [if_pos h5]
          · rw [if_neg h5, if_neg (by omega)]
    · rw [if_neg h1]
  · obtain ⟨c1, c2, c3⟩ := hc
    obtain ⟨p, rfl⟩ := Int.eq_ofNat_of_zero_le c1.1
    obtain ⟨n, rfl⟩ := Int.eq_ofNat_of_zero_le c2.1
    obtain ⟨c, rfl⟩ := Int.eq_ofNat_of_zero_le c3.1
    have hp : p < np := by omega
    have a4 := O.1.2.2.2
    have aLl := AOK_L O.1
    rw [Int.toNat_natCast, Int.toNat_natCast, Int.toNat_natCast]
    unfold fX10_ahead
    rw [xh1 V H.1 hx, zq, hy, hz, zw_1, show zw 240 = 240 by decide, if_pos c1, if_neg (by omega), if_neg (by omega), if_neg (by omega), if_pos (by omega), takeX_8, zb_some]
    have F0 : FR [5, 26, 34, 35, 36, 37] h (zcopy h 30 0 34 0 51) := fun b hb => zcopy_ne (fun e => hb (by rw [e]; decide))
    have S0 : XS np t w.1 (zcopy h 30 0 34 0 51 34) := by
      refine XS_cg V.1.1 (AOK_q V O.1) H.2.1 (fun j hj => ?_)
      have := zcopy_in (h := h) (o := 30) (sp := 0) (o2 := 34) (dp := 0) hj
      rw [Nat.zero_add] at this
      exact this
    refine zloopq (F := fun k i (s : zH) => fX10_ahead_c48 N k (p : Int) (n : Int) (c : Int) i s) (n := n) (s := zcopy h 30 0 34 0 51) (fun i s => FR [5, 26, 34, 35, 36, 37] h s ∧ FS 5 [5] h s ∧ XS np t (aPn np nd t gr w.1 i) (s 34)) (fun b => ∃ h', b = some (wAhd np nd t gr p n c w.1, h') ∧ FR [5, 26, 34, 35, 36, 37] h h' ∧ FS 5 [5] h h') (fun k i s hi hI => ?_) (fun k s hI => ?_) (by omega) ⟨F0, fun j _ => by rw [zcopy_ne (by decide)], S0⟩
    · obtain ⟨i1, i2, S⟩ := hI
      have Xs : HX np nd nr t s := HX_to H.1 (i1 16 (by decide)) (i1 17 (by decide)) (i1 18 (by decide))
      obtain ⟨o1, o2, o3, o4⟩ := aPn_OK (gr := gr) V O.1.1 O.1.2.1 i
      obtain ⟨h2, f1, f2, f3, f4⟩ := passX8 (dark := false) V Xs o1 o2 S (show 8 ≤ N by omega) (GX_F G i1 i2 (by decide) (by decide)) (by omega) (by omega) (show 0 < np by omega)
      left
      refine ⟨h2, ?_, FR_tr i1 (fun b hb => f2.1 b (fun e => hb (by rw [e]; decide)) (fun e => hb (by rw [e]; decide)) (fun e => hb (by rw [e]; decide)) (fun e => hb (by rw [e]; decide)) (fun e => hb (by rw [e]; decide)) (fun e => hb (by rw [e]; decide))), FS_tr i2 (fun j hj => f2.2 j (fun e => hj (by rw [e]; decide))), f4⟩
      show fX10_ahead_c48b N (fX10_ahead_c48 N k) _ _ _ _ _ = _
      unfold fX10_ahead_c48b
      rw [zw_id (show -2147483648 ≤ (n : Int) ∧ (n : Int) < 2147483648 by omega), zw_id (show -2147483648 ≤ (i : Int) ∧ (i : Int) < 2147483648 by omega), if_neg (by omega), show (0 : Int) = dkI false from rfl, f1, zb_some]
      rfl
    · obtain ⟨i1, i2, S⟩ := hI
      refine ⟨s, ?_, i1, i2⟩
      show fX10_ahead_c48b N (fX10_ahead_c48 N k) _ _ _ _ _ = _
      unfold fX10_ahead_c48b wAhd
      rw [if_pos (by omega), ox8_0 (by omega), ox8_3 (by omega), (S.1 p hp).1, (S.1 p hp).2.2.2.1, hz]
      by_cases hc0 : c = 0
      · rw [if_pos (by omega), if_pos hc0]
      · rw [if_neg (by omega), if_neg hc0]
theorem ahdM {np nd nr B : Nat} {t : Nat → Nat} {w : hW} {g : zH} (V : HV np nd nr t) (O : WOK np nd nr t w) (H : MW np nd nr t B w g) (hB : B < 900000000) {N : Nat} (hN : 300 ≤ N) {gr : hGr} (G : GM N gr g) {x y z : Int} (hx : zw x = x) (hy : zw y = y) (hz : zw z = z) : (¬ ((0 ≤ x ∧ x < np) ∧ (0 ≤ y ∧ y ≤ 240) ∧ 0 ≤ z ∧ z ≤ 1) → fX11_ahead N x y z g = some (-1, g)) ∧ ((0 ≤ x ∧ x < np) ∧ (0 ≤ y ∧ y ≤ 240) ∧ 0 ≤ z ∧ z ≤ 1 → ∃ g', fX11_ahead N x y z g = some (wAhd np nd t gr x.toNat y.toNat z.toNat w.1, g') ∧ FR [69, 71, 57, 58] g g' ∧ MW np nd nr t B w g') := by
  have v := V.1
  refine ⟨fun hc => ?_, fun hc => ?_⟩
  · unfold fX11_ahead
    rw [mpar V H.1 hx, in_eq hy zw_0 (show zw 240 = 240 by decide), in_eq hz zw_0 zw_1, zq, zq, zq]
    by_cases h1 : 0 ≤ x ∧ x < np
    · rw [if_pos h1]
      by_cases h2 : 0 ≤ y ∧ y ≤ 240
      · rw [if_pos h2, if_neg (fun e => hc ⟨h1, h2, e⟩)]
      · rw [if_neg h2]
    · rw [if_neg h1]
  · obtain ⟨c1, c2, c3⟩ := hc
    obtain ⟨p, rfl⟩ := Int.eq_ofNat_of_zero_le c1.1
    obtain ⟨n, rfl⟩ := Int.eq_ofNat_of_zero_le c2.1
    obtain ⟨c, rfl⟩ := Int.eq_ofNat_of_zero_le c3.1
    have hp : p < np := by omega
    have a4 := O.1.2.2.2
    rw [Int.toNat_natCast, Int.toNat_natCast, Int.toNat_natCast]
    unfold fX11_ahead
    rw [mpar V H.1 hx, in_eq hy zw_0 (show zw 240 = 240 by decide), in_eq hz zw_0 zw_1, zq, zq, zq, if_pos c1, if_pos c2, if_pos c3, asideM (by omega), zb_some]
    have F0 : FR [69, 71, 57, 58] g (zcopy g 69 0 71 0 165) := fun b hb => zcopy_ne (fun e => hb (by rw [e]; decide))
    have E0 : ∀ j, j < 165 → zcopy g 69 0 71 0 165 71 j = g 69 j := fun j hj => by
      have := zcopy_in (h := g) (o := 69) (sp := 0) (o2 := 71) (dp := 0) hj
      rw [Nat.zero_add] at this
      exact this
    refine zloopq (F := fun k i (s : zH) => fX11_ahead_c37 N k (p : Int) (n : Int) (c : Int) i s) (n := n) (s := zcopy g 69 0 71 0 165) (fun i s => FR [69, 71, 57, 58] g s ∧ (∀ j, j < 165 → s 71 j = g 69 j) ∧ MS np B (aPn np nd t gr w.1 i) (s 69)) (fun b => ∃ g', b = some (wAhd np nd t gr p n c w.1, g') ∧ FR [69, 71, 57, 58] g g' ∧ MW np nd nr t B w g') (fun k i s hi hI => ?_) (fun k s hI => ?_) (by omega) ⟨F0, E0, by rw [zcopy_ne (by decide)]; exact H.2.1⟩
    · obtain ⟨i1, i2, S⟩ := hI
      have Ms : HM np nd nr t s := HM_to H.1 (by rw [i1 14 (by decide)]; exact ⟨rfl, rfl, rfl⟩) (i1 63 (by decide)) (i1 64 (by decide)) (i1 65 (by decide)) (i1 66 (by decide))
      obtain ⟨o1, o2, o3, o4⟩ := aPn_OK (gr := gr) V O.1.1 O.1.2.1 i
      obtain ⟨h2, f1, f2, f4⟩ := passM (dark := false) V Ms o1 o2 S (by omega) (show 200 ≤ N by omega) (GM_F G i1 (by rw [i1 14 (by decide)]) (by intro b b1 b2 hb; simp at hb; omega)) (by omega) (show 0 < np by omega)
      left
      refine ⟨h2, ?_, FR_tr i1 (fun b hb => f2 b (fun e => hb (by rw [e]; decide)) (fun e => hb (by rw [e]; decide)) (fun e => hb (by rw [e]; decide))), fun j hj => by rw [f2 71 (by decide) (by decide) (by decide)]; exact i2 j hj, f4⟩
      show fX11_ahead_c37b N (fX11_ahead_c37 N k) _ _ _ _ _ = _
      unfold fX11_ahead_c37b
      rw [zw_id (show -2147483648 ≤ (n : Int) ∧ (n : Int) < 2147483648 by omega), zw_id (show -2147483648 ≤ (i : Int) ∧ (i : Int) < 2147483648 by omega), if_neg (by omega), show (0 : Int) = dkI false from rfl, f1, zb_some]
      rfl
    · obtain ⟨i1, i2, S⟩ := hI
      obtain ⟨b1, b2⟩ := MW_back V O H i1 i2
      refine ⟨_, ?_, b1, b2⟩
      show fX11_ahead_c37b N (fX11_ahead_c37 N k) _ _ _ _ _ = _
      unfold fX11_ahead_c37b wAhd
      rw [if_pos (by omega), om_0 (by omega), zb_some, om_4 (by omega), zb_some, tbackM (by omega), zb_some, (S.1 p hp).1, (S.1 p hp).2.2.2.1, hz]
      by_cases hc0 : c = 0
      · rw [if_pos (by omega), if_pos hc0]
      · rw [if_neg (by omega), if_neg hc0]
        rfl
