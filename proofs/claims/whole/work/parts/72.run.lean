/-! run, perform, ahead -/
def rnGo {σ : Type} (ok : Nat → σ → Bool) (doo : Nat → σ → σ) : Nat → Nat → σ → Nat × σ
  | 0, i, s => (i, s)
  | l + 1, i, s => if ok i s = true then rnGo ok doo l (i + 1) (doo i s) else (i, s)
theorem rnGo_le {σ : Type} {ok : Nat → σ → Bool} {doo : Nat → σ → σ} (l i : Nat) (s : σ) : (rnGo ok doo l i s).1 ≤ i + l := by
  induction l generalizing i s with
  | zero => exact Nat.le_refl _
  | succ l ih =>
    unfold rnGo
    split
    · have := ih (i + 1) (doo i s)
      omega
    · omega
theorem rnGo_y {σ : Type} {ok : Nat → σ → Bool} {doo : Nat → σ → σ} {l i : Nat} {s : σ} (h : ok i s = true) : rnGo ok doo (l + 1) i s = rnGo ok doo l (i + 1) (doo i s) := if_pos h
theorem rnGo_n {σ : Type} {ok : Nat → σ → Bool} {doo : Nat → σ → σ} {l i : Nat} {s : σ} (h : ¬ ok i s = true) : rnGo ok doo (l + 1) i s = (i, s) := if_neg h
theorem doSX8 {np nd nr no : Nat} {t : Nat → Nat} {ol : Nat → Nat} {sp : Nat → Int} {a : hSt} {h : zH} (V : HV np nd nr t) (OO : OV no ol sp) (X : HX np nd nr t h) (OH : OX no ol sp h) (A : AOK np nd nr t a) (S : XS np t a (h 34)) {N : Nat} (hN : 8 ≤ N) {gr : hGr} (G : GX N 36 gr h) (h0 : 0 < np) {o i : Nat} (ho : o < no) (hi : i < ol o) (hs : sOk np nr t sp (48 * o + 3 * i) a = true) : ∃ h', fX10_takeStep N 8 (o : Int) (i : Int) h = some h' ∧ FR [5, 26, 34, 35, 36, 37] h h' ∧ FS 5 [5] h h' ∧ XS np t (sDo np nd t gr sp (48 * o + 3 * i) a) (h' 34) := by
  obtain ⟨b1, b2, b3, b4, b5, b6⟩ := (OO.2 o ho).2 i hi
  have e0 : fX2_part (o : Int) (i : Int) 0 h = sp (48 * o + 3 * i) := partX OO OH ho hi (c := 0) (by decide)
  have e1 : fX2_part (o : Int) (i : Int) 1 h = sp (48 * o + 3 * i + 1) := partX OO OH ho hi (c := 1) (by decide)
  have e2 : fX2_part (o : Int) (i : Int) 2 h = sp (48 * o + 3 * i + 2) := partX OO OH ho hi (c := 2) (by decide)
  unfold sOk at hs
  unfold fX10_takeStep sDo
  rw [e0, e1, e2, zlet_v, zw_id (show -2147483648 ≤ sp (48 * o + 3 * i) ∧ sp (48 * o + 3 * i) < 2147483648 by omega), zw_1]
  by_cases c0 : sp (48 * o + 3 * i) = 0
  · rw [if_pos c0] at hs
    have hh := of_decide_eq_true hs
    rw [if_pos c0, if_pos c0]
    obtain ⟨p, hp⟩ := Int.eq_ofNat_of_zero_le hh.1.1
    obtain ⟨r, hr⟩ := Int.eq_ofNat_of_zero_le hh.1.2.2.1
    rw [hp, hr] at hh ⊢
    rw [Int.toNat_natCast, Int.toNat_natCast] at hh ⊢
    obtain ⟨h', f1, f2, f3⟩ := enqX8 V X A.1 S (show p < np by omega) (show r < nr by omega) (canF_w hh.2)
    rw [zlet_v, f1]
    have F : FR [5, 26, 34, 35, 36, 37] h h' := fun b hb => f2 b (fun e => hb (by rw [e]; decide))
    exact ⟨h', rfl, F, fun j _ => by rw [f2 5 (by decide)], f3⟩
  · rw [if_neg c0] at hs
    rw [if_neg c0, if_neg c0]
    by_cases c1 : sp (48 * o + 3 * i) = 1
    · rw [if_pos c1] at hs
      have hh := of_decide_eq_true hs
      rw [if_pos c1, if_pos c1]
      obtain ⟨p, hp⟩ := Int.eq_ofNat_of_zero_le hh.1.1
      rw [hp] at hh ⊢
      rw [Int.toNat_natCast] at hh ⊢
      obtain ⟨h', f1, f2, f3⟩ := leaX8 V A.1 S hN (show p < np by omega)
      rw [f1, z2_some]
      exact ⟨h', rfl, fun b hb => f2 b (fun e => hb (by rw [e]; decide)), fun j _ => by rw [f2 5 (by decide)], f3⟩
    · rw [if_neg c1] at hs
      have hh := of_decide_eq_true hs
      rw [if_neg c1, if_neg c1, show (0 : Int) = dkI false from rfl]
      obtain ⟨h', f1, f2, f3, f4⟩ := passX8 (dark := false) V X A.1 A.2.1 S hN G (by omega) (by have := AOK_L A; omega) h0
      rw [f1, zb_some]
      exact ⟨h', rfl, fun b hb => f2.1 b (fun e => hb (by rw [e]; decide)) (fun e => hb (by rw [e]; decide)) (fun e => hb (by rw [e]; decide)) (fun e => hb (by rw [e]; decide)) (fun e => hb (by rw [e]; decide)) (fun e => hb (by rw [e]; decide)), fun j hj => f2.2 j (fun e => hj (by rw [e]; decide)), f4⟩
theorem doSW {np nd nr no lim : Nat} {t : Nat → Nat} {ol : Nat → Nat} {sp : Nat → Int} {w : hW} {h : zH} (V : HV np nd nr t) (OO : OV no ol sp) (O : WOK np nd nr t w) (H : CW np nd nr t lim w h) (OH : OX no ol sp h) {N : Nat} (hN : 8 ≤ N) {gr : hGr} (G : GX N 32 gr h) (h0 : 0 < np) {o i : Nat} (ho : o < no) (hi : i < ol o) (hs : sOk np nr t sp (48 * o + 3 * i) w.1 = true) : ∃ h', fX10_takeStep N 7 (o : Int) (i : Int) h = some h' ∧ FR [5, 26, 30, 31, 32, 33] h h' ∧ FS 5 [5] h h' ∧ CW np nd nr t lim (sDo np nd t gr sp (48 * o + 3 * i) w.1, w.2) h' := by
  obtain ⟨b1, b2, b3, b4, b5, b6⟩ := (OO.2 o ho).2 i hi
  have e0 : fX2_part (o : Int) (i : Int) 0 h = sp (48 * o + 3 * i) := partX OO OH ho hi (c := 0) (by decide)
  have e1 : fX2_part (o : Int) (i : Int) 1 h = sp (48 * o + 3 * i + 1) := partX OO OH ho hi (c := 1) (by decide)
  have e2 : fX2_part (o : Int) (i : Int) 2 h = sp (48 * o + 3 * i + 2) := partX OO OH ho hi (c := 2) (by decide)
  unfold sOk at hs
  unfold fX10_takeStep sDo
  rw [e0, e1, e2, zlet_v, zw_id (show -2147483648 ≤ sp (48 * o + 3 * i) ∧ sp (48 * o + 3 * i) < 2147483648 by omega), zw_1]
  by_cases c0 : sp (48 * o + 3 * i) = 0
  · rw [if_pos c0] at hs
    have hh := of_decide_eq_true hs
    rw [if_pos c0, if_pos c0]
    obtain ⟨p, hp⟩ := Int.eq_ofNat_of_zero_le hh.1.1
    obtain ⟨r, hr⟩ := Int.eq_ofNat_of_zero_le hh.1.2.2.1
    rw [hp, hr] at hh ⊢
    rw [Int.toNat_natCast, Int.toNat_natCast] at hh ⊢
    obtain ⟨h', f1, f2, f3⟩ := enqCW V O H (show p < np by omega) (show r < nr by omega) (canF_w hh.2)
    rw [zlet_v, f1]
    exact ⟨h', rfl, FR_up f2 (by decide), FS_of f2 (by decide), f3⟩
  · rw [if_neg c0] at hs
    rw [if_neg c0, if_neg c0]
    by_cases c1 : sp (48 * o + 3 * i) = 1
    · rw [if_pos c1] at hs
      have hh := of_decide_eq_true hs
      rw [if_pos c1, if_pos c1]
      obtain ⟨p, hp⟩ := Int.eq_ofNat_of_zero_le hh.1.1
      rw [hp] at hh ⊢
      rw [Int.toNat_natCast] at hh ⊢
      obtain ⟨h', f1, f2, f3⟩ := leaCW V O H hN (show p < np by omega)
      rw [f1, z2_some]
      exact ⟨h', rfl, FR_up f2 (by decide), FS_of f2 (by decide), f3⟩
    · rw [if_neg c1] at hs
      have hh := of_decide_eq_true hs
      rw [if_neg c1, if_neg c1, show (0 : Int) = dkI false from rfl]
      obtain ⟨h', f1, f2, f3, f4⟩ := passCW (dark := false) V O H hN G hh h0
      rw [f1, zb_some]
      exact ⟨h', rfl, f2, f3, f4⟩
theorem takeX_8 (h : zH) : fX8_take 8 7 h = some (zcopy h 30 0 34 0 51) := by
  unfold fX8_take zlet
  dsimp only
  rw [if_pos (by decide), if_pos (by decide)]
  exact congrArg some (zcopy_0 (h := zcopy h 30 0 34 0 51) (o := 31) (sp := 0) (o2 := 35) (dp := 0))
theorem asideM {N : Nat} (hN : 166 ≤ N) (h : zH) : fX11_putAside N h = some (zcopy h 69 0 71 0 165) := by
  have H := copy_loop (o := 69) (sp := 0) (o2 := 71) (dp := 0) (n := 165) (by decide) (fun k l g => fX11_putAside_c2 N k l g) (fun g => some g) h ?_ ?_ 165 0 (N - 166) rfl
  · rw [zcopy_0, show N - 166 + 165 + 1 = N by omega] at H
    exact H
  · intro k l g hl _
    show fX11_putAside_c2b N (fX11_putAside_c2 N k) (l : Int) g = _
    unfold fX11_putAside_c2b zlet
    dsimp only
    rw [zw_165, zw_id (show -2147483648 ≤ (l : Int) ∧ (l : Int) < 2147483648 by omega), if_neg (by omega), if_pos (by omega), if_pos (by omega), Int.toNat_natCast, Nat.zero_add]
    rfl
  · intro k g _
    show fX11_putAside_c2b N (fX11_putAside_c2 N k) (165 : Int) g = _
    unfold fX11_putAside_c2b
    rw [if_pos (by decide)]
theorem tbackM {N : Nat} (hN : 166 ≤ N) (h : zH) : fX11_takeBack N h = some (zcopy h 71 0 69 0 165) := by
  have H := copy_loop (o := 71) (sp := 0) (o2 := 69) (dp := 0) (n := 165) (by decide) (fun k l g => fX11_takeBack_c2 N k l g) (fun g => some g) h ?_ ?_ 165 0 (N - 166) rfl
  · rw [zcopy_0, show N - 166 + 165 + 1 = N by omega] at H
    exact H
  · intro k l g hl _
    show fX11_takeBack_c2b N (fX11_takeBack_c2 N k) (l : Int) g = _
    unfold fX11_takeBack_c2b zlet
    dsimp only
    rw [zw_165, zw_id (show -2147483648 ≤ (l : Int) ∧ (l : Int) < 2147483648 by omega), if_neg (by omega), if_pos (by omega), if_pos (by omega), Int.toNat_natCast, Nat.zero_add]
    rfl
  · intro k g _
    show fX11_takeBack_c2b N (fX11_takeBack_c2 N k) (165 : Int) g = _
    unfold fX11_takeBack_c2b
    rw [if_pos (by decide)]
def wRunN (np nd nr : Nat) (t : Nat → Nat) (gr : hGr) (ol : Nat → Nat) (sp : Nat → Int) (o : Nat) (a : hSt) : Nat := (rnGo (fun i a => sOk np nr t sp (48 * o + 3 * i) a) (fun i a => sDo np nd t gr sp (48 * o + 3 * i) a) (ol o) 0 a).1
theorem runX {np nd nr no lim : Nat} {t : Nat → Nat} {ol : Nat → Nat} {sp : Nat → Int} {w : hW} {h : zH} (V : HV np nd nr t) (OO : OV no ol sp) (O : WOK np nd nr t w) (H : CW np nd nr t lim w h) (OH : OX no ol sp h) {N : Nat} (hN : 300 ≤ N) {gr : hGr} (G : GX N 36 gr h) {x : Int} (hx : zw x = x) : (¬ (0 < np ∧ 0 ≤ x ∧ x < no) → fX10_run N x h = some (-1000000, h)) ∧ (0 < np ∧ 0 ≤ x ∧ x < no → ∃ h', fX10_run N x h = some (if wRunN np nd nr t gr ol sp x.toNat w.1 = ol x.toNat then -1 else (wRunN np nd nr t gr ol sp x.toNat w.1 : Int), h') ∧ FR [5, 26, 34, 35, 36, 37] h h' ∧ FS 5 [5] h h') := by
  have h4 := OO.1
  refine ⟨fun hc => ?_, fun hc => ?_⟩
  · unfold fX10_run
    rw [hasHillX V H.1, hasO OO OH hx, zq, zq]
    by_cases h0 : 0 < np
    · rw [if_pos h0, if_neg (fun y => hc ⟨h0, y⟩)]
    · rw [if_neg h0]
  · obtain ⟨o, rfl⟩ := Int.eq_ofNat_of_zero_le hc.2.1
    have h0 := hc.1
    have ho : o < no := by omega
    have hl := (OO.2 o ho).1
    rw [Int.toNat_natCast]
    unfold fX10_run
    rw [hasHillX V H.1, hasO OO OH hx, zq, zq, if_pos h0, if_pos hc.2, takeX_8, zb_some]
    have F0 : FR [5, 26, 34, 35, 36, 37] h (zcopy h 30 0 34 0 51) := fun b hb => zcopy_ne (fun e => hb (by rw [e]; decide))
    have S0 : XS np t w.1 (zcopy h 30 0 34 0 51 34) := by
      refine XS_cg V.1.1 (AOK_q V O.1) H.2.1 (fun j hj => ?_)
      have := zcopy_in (h := h) (o := 30) (sp := 0) (o2 := 34) (dp := 0) hj
      rw [Nat.zero_add] at this
      exact this
    refine zloopq (F := fun k i (s : zH) => fX10_run_c34 N k (o : Int) i s) (n := ol o) (s := zcopy h 30 0 34 0 51) (fun i s => FR [5, 26, 34, 35, 36, 37] h s ∧ FS 5 [5] h s ∧ ∃ a, AOK np nd nr t a ∧ XS np t a (s 34) ∧ wRunN np nd nr t gr ol sp o w.1 = (rnGo (fun i a => sOk np nr t sp (48 * o + 3 * i) a) (fun i a => sDo np nd t gr sp (48 * o + 3 * i) a) (ol o - i) i a).1) (fun b => ∃ h', b = some (if wRunN np nd nr t gr ol sp o w.1 = ol o then -1 else (wRunN np nd nr t gr ol sp o w.1 : Int), h') ∧ FR [5, 26, 34, 35, 36, 37] h h' ∧ FS 5 [5] h h') (fun k i s hi hI => ?_) (fun k s hI => ?_) (by omega) ⟨F0, fun j _ => by rw [zcopy_ne (by decide)], w.1, O.1, S0, rfl⟩
    · obtain ⟨i1, i2, a, A, S, eq⟩ := hI
      have Xs : HX np nd nr t s := HX_to H.1 (i1 16 (by decide)) (i1 17 (by decide)) (i1 18 (by decide))
      have Os : OX no ol sp s := OX_to OH (by rw [i1 6 (by decide)]) (i1 27 (by decide)) (i1 28 (by decide))
      have e : fX10_run_c34 N (k + 1) (o : Int) (i : Int) s = if sOk np nr t sp (48 * o + 3 * i) a = true then zb (fX10_takeStep N 8 (o : Int) (i : Int) s) (fun h4 => fX10_run_c34 N k (o : Int) ((i + 1 : Nat) : Int) h4) else some ((i : Int), s) := by
        show fX10_run_c34b N (fX10_run_c34 N k) _ _ _ = _
        unfold fX10_run_c34b
        rw [lenX OO Os ho, zw_id (show -2147483648 ≤ (ol o : Int) ∧ (ol o : Int) < 2147483648 by omega), zw_id (show -2147483648 ≤ (i : Int) ∧ (i : Int) < 2147483648 by omega), if_neg (by omega), canSX8 V OO Xs Os A.1 S (by have := A.2.2.2; omega) ho hi, zb_some, zq]
        rfl
      have er : ol o - i = (ol o - (i + 1)) + 1 := by omega
      rw [er] at eq
      by_cases hs : sOk np nr t sp (48 * o + 3 * i) a = true
      · rw [if_pos hs] at e
        obtain ⟨h2, f1, f2, f3, f4⟩ := doSX8 V OO Xs Os A S (show 8 ≤ N by omega) (GX_F G i1 i2 (by decide) (by decide)) h0 ho hi hs
        rw [f1, zb_some] at e
        left
        refine ⟨h2, e, FR_tr i1 f2, FS_tr i2 f3, _, (sDo_OK V A hs).1, f4, ?_⟩
        rw [eq]
        exact congrArg Prod.fst (rnGo_y (ok := fun i a => sOk np nr t sp (48 * o + 3 * i) a) hs)
      · rw [if_neg hs] at e
        right
        have ei : wRunN np nd nr t gr ol sp o w.1 = i := by
          rw [eq]
          exact congrArg Prod.fst (rnGo_n (ok := fun i a => sOk np nr t sp (48 * o + 3 * i) a) hs)
        refine ⟨s, ?_, i1, i2⟩
        show fX10_run_c34 N (k + 1) (o : Int) (i : Int) s = _
        rw [e, ei, if_neg (by omega)]
    · obtain ⟨i1, i2, a, A, S, eq⟩ := hI
      have Os : OX no ol sp s := OX_to OH (by rw [i1 6 (by decide)]) (i1 27 (by decide)) (i1 28 (by decide))
      rw [Nat.sub_self] at eq
      have ei : wRunN np nd nr t gr ol sp o w.1 = ol o := eq
      refine ⟨s, ?_, i1, i2⟩
      show fX10_run_c34b N (fX10_run_c34 N k) _ _ _ = _
      unfold fX10_run_c34b
      rw [lenX OO Os ho, if_pos (by omega), ei, if_pos rfl]
theorem MW_back {np nd nr B : Nat} {t : Nat → Nat} {w : hW} {g s : zH} (V : HV np nd nr t) (O : WOK np nd nr t w) (H : MW np nd nr t B w g) (F : FR [69, 71, 57, 58] g s) (e : ∀ j, j < 165 → s 71 j = g 69 j) : FR [69, 71, 57, 58] g (zcopy s 71 0 69 0 165) ∧ MW np nd nr t B w (zcopy s 71 0 69 0 165) := by
  obtain ⟨H1, H2, H3⟩ := H
  have F2 : FR [69, 71, 57, 58] g (zcopy s 71 0 69 0 165) := fun b hb => (zcopy_ne (fun e => hb (by rw [e]; decide))).trans (F b hb)
  refine ⟨F2, HM_to H1 (by rw [F2 14 (by decide)]; exact ⟨rfl, rfl, rfl⟩) (F2 63 (by decide)) (F2 64 (by decide)) (F2 65 (by decide)) (F2 66 (by decide)), ?_, AMo_to H3 (Nat.le_refl _) (by rw [F2 14 (by decide)]) (F2 70 (by decide))⟩
  refine MS_cg V.1.1 (AOK_m O.1) H2 (fun j hj => ?_)
  have := zcopy_in (h := s) (o := 71) (sp := 0) (o2 := 69) (dp := 0) hj
  rw [Nat.zero_add] at this
  rw [this]; exact e j hj
theorem runM {np nd nr no B : Nat} {t : Nat → Nat} {ol : Nat → Nat} {sp : Nat → Int} {w : hW} {g : zH} (V : HV np nd nr t) (OO : OV no ol sp) (O : WOK np nd nr t w) (H : MW np nd nr t B w g) (OM : OMo no ol sp g) (hB : B < 900000000) {N : Nat} (hN : 300 ≤ N) {gr : hGr} (G : GM N gr g) {x : Int} (hx : zw x = x) : (¬ (0 < np ∧ 0 ≤ x ∧ x < no) → fX11_run N x g = some (-1000000, g)) ∧ (0 < np ∧ 0 ≤ x ∧ x < no → ∃ g', fX11_run N x g = some (if wRunN np nd nr t gr ol sp x.toNat w.1 = ol x.toNat then -1 else (wRunN np nd nr t gr ol sp x.toNat w.1 : Int), g') ∧ FR [69, 71, 57, 58] g g' ∧ MW np nd nr t B w g') := by
  have h4 := OO.1
  have v := V.1
  refine ⟨fun hc => ?_, fun hc => ?_⟩
  · unfold fX11_run
    rw [H.1.1.1, isO OO OM hx, zq, zw_id (show -2147483648 ≤ (np : Int) ∧ (np : Int) < 2147483648 by omega)]
    by_cases h0 : 0 < np
    · rw [if_neg (show ¬ (np : Int) = 0 by omega), if_neg (fun y => hc ⟨h0, y⟩)]
    · rw [if_pos (show (np : Int) = 0 by omega)]
  · obtain ⟨o, rfl⟩ := Int.eq_ofNat_of_zero_le hc.2.1
    have h0 := hc.1
    have ho : o < no := by omega
    have hl := (OO.2 o ho).1
    rw [Int.toNat_natCast]
    unfold fX11_run
    rw [H.1.1.1, isO OO OM hx, zq, zw_id (show -2147483648 ≤ (np : Int) ∧ (np : Int) < 2147483648 by omega), if_neg (show ¬ (np : Int) = 0 by omega), if_pos hc.2, asideM (by omega), zb_some]
    have F0 : FR [69, 71, 57, 58] g (zcopy g 69 0 71 0 165) := fun b hb => zcopy_ne (fun e => hb (by rw [e]; decide))
    have E0 : ∀ j, j < 165 → zcopy g 69 0 71 0 165 71 j = g 69 j := fun j hj => by
      have := zcopy_in (h := g) (o := 69) (sp := 0) (o2 := 71) (dp := 0) hj
      rw [Nat.zero_add] at this
      exact this
    have ow : zw (o : Int) = (o : Int) := hx
    have rd : ∀ s : zH, FR [69, 71, 57, 58] g s → s 68 o = (ol o : Int) := fun s F => by rw [F 68 (by decide)]; exact (OM.2 o ho).1
    have done : ∀ (i : Nat) (s : zH), FR [69, 71, 57, 58] g s → (∀ j, j < 165 → s 71 j = g 69 j) → i ≤ ol o → ∃ g', (zb (fX11_takeBack N s) fun h8 => if 0 ≤ zw (o : Int) ∧ zw (o : Int) < 5 then if zw (i : Int) = zw (h8 68 (zw (o : Int)).toNat) then some ((-1 : Int), h8) else some ((i : Int), h8) else none) = some (if i = ol o then -1 else (i : Int), g') ∧ FR [69, 71, 57, 58] g g' ∧ MW np nd nr t B w g' := by
      intro i s F E hi
      obtain ⟨b1, b2⟩ := MW_back V O H F E
      refine ⟨_, ?_, b1, b2⟩
      rw [tbackM (by omega), zb_some, ow, if_pos (by omega), Int.toNat_natCast, rd _ b1, zw_id (show -2147483648 ≤ (i : Int) ∧ (i : Int) < 2147483648 by omega), zw_id (show -2147483648 ≤ (ol o : Int) ∧ (ol o : Int) < 2147483648 by omega)]
      by_cases hc : i = ol o
      · rw [if_pos (by omega), if_pos hc]
      · rw [if_neg (by omega), if_neg hc]
    refine zloopq (F := fun k i (s : zH) => fX11_run_c25 N k (o : Int) i s) (n := ol o) (s := zcopy g 69 0 71 0 165) (fun i s => FR [69, 71, 57, 58] g s ∧ (∀ j, j < 165 → s 71 j = g 69 j) ∧ ∃ a, AOK np nd nr t a ∧ MS np (B + i) a (s 69) ∧ wRunN np nd nr t gr ol sp o w.1 = (rnGo (fun i a => sOk np nr t sp (48 * o + 3 * i) a) (fun i a => sDo np nd t gr sp (48 * o + 3 * i) a) (ol o - i) i a).1) (fun b => ∃ g', b = some (if wRunN np nd nr t gr ol sp o w.1 = ol o then -1 else (wRunN np nd nr t gr ol sp o w.1 : Int), g') ∧ FR [69, 71, 57, 58] g g' ∧ MW np nd nr t B w g') (fun k i s hi hI => ?_) (fun k s hI => ?_) (by omega) ⟨F0, E0, w.1, O.1, by rw [zcopy_ne (by decide)]; exact H.2.1, rfl⟩
    · obtain ⟨i1, i2, a, A, S, eq⟩ := hI
      have Ms : HM np nd nr t s := HM_to H.1 (by rw [i1 14 (by decide)]; exact ⟨rfl, rfl, rfl⟩) (i1 63 (by decide)) (i1 64 (by decide)) (i1 65 (by decide)) (i1 66 (by decide))
      have Os : OMo no ol sp s := OM_to OM (by rw [i1 14 (by decide)]) (i1 67 (by decide)) (i1 68 (by decide))
      have e : fX11_run_c25 N (k + 1) (o : Int) (i : Int) s = if sOk np nr t sp (48 * o + 3 * i) a = true then zb (fX11_doStep N (3 * ((16 * (o : Int)) + (i : Int))) s) (fun h4 => fX11_run_c25 N k (o : Int) ((i + 1 : Nat) : Int) h4) else (zb (fX11_takeBack N s) fun h8 => if 0 ≤ zw (o : Int) ∧ zw (o : Int) < 5 then if zw (i : Int) = zw (h8 68 (zw (o : Int)).toNat) then some ((-1 : Int), h8) else some ((i : Int), h8) else none) := by
        show fX11_run_c25b N (fX11_run_c25 N k) _ _ _ = _
        unfold fX11_run_c25b
        rw [canSM V OO Ms Os A.1 S (by have := A.2.2.2; omega) (show 8 ≤ N by omega) ho hi, zb_some, zq, show zw (o : Int) = (o : Int) from ow, Int.toNat_natCast, rd s i1, zw_id (show -2147483648 ≤ (ol o : Int) ∧ (ol o : Int) < 2147483648 by omega), if_pos (show (0 : Int) ≤ (o : Int) ∧ (o : Int) < 5 by omega), if_neg (show ¬ (ol o : Int) ≤ zw (i : Int) by rw [zw_id (by omega)]; omega)]
        rfl
      have er : ol o - i = (ol o - (i + 1)) + 1 := by omega
      rw [er] at eq
      by_cases hs : sOk np nr t sp (48 * o + 3 * i) a = true
      · rw [if_pos hs] at e
        obtain ⟨h2, f1, f2, f4⟩ := doSM V OO Ms Os A S (by omega) (show 200 ≤ N by omega) (GM_F G i1 (by rw [i1 14 (by decide)]) (by intro b b1 b2 hb; simp at hb; omega)) h0 ho hi hs
        rw [f1, zb_some] at e
        left
        refine ⟨h2, e, FR_tr i1 (FR_up f2 (by decide)), fun j hj => by rw [f2 71 (by decide)]; exact i2 j hj, _, (sDo_OK V A hs).1, f4, ?_⟩
        rw [eq]
        exact congrArg Prod.fst (rnGo_y (ok := fun i a => sOk np nr t sp (48 * o + 3 * i) a) hs)
      · rw [if_neg hs] at e
        right
        have ei : wRunN np nd nr t gr ol sp o w.1 = i := by
          rw [eq]
          exact congrArg Prod.fst (rnGo_n (ok := fun i a => sOk np nr t sp (48 * o + 3 * i) a) hs)
        show ∃ g', fX11_run_c25 N (k + 1) (o : Int) (i : Int) s = _ ∧ _
        rw [e, ei]
        exact done i s i1 i2 (by omega)
    · obtain ⟨i1, i2, a, A, S, eq⟩ := hI
      rw [Nat.sub_self] at eq
      have ei : wRunN np nd nr t gr ol sp o w.1 = ol o := eq
      show ∃ g', fX11_run_c25b N (fX11_run_c25 N k) _ _ _ = _ ∧ _
      unfold fX11_run_c25b
      rw [if_pos (show 0 ≤ zw (o : Int) ∧ zw (o : Int) < 5 by rw [ow]; omega), if_pos (show zw (s 68 (zw (o : Int)).toNat) ≤ zw (ol o : Int) by rw [ow, Int.toNat_natCast, rd s i1]; exact Int.le_refl _), ei]
      exact done (ol o) s i1 i2 (Nat.le_refl _)
