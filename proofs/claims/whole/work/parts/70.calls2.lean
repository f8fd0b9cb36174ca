/-! go, image, back -/
def wGoN (np nd : Nat) (t : Nat → Nat) (gr : hGr) (w : hW) : Nat → hW
  | 0 => w
  | n + 1 => (aPass np nd t gr false (wGoN np nd t gr w n).1, wKeep (wGoN np nd t gr w n).1 (wGoN np nd t gr w n).2)
def wCan (np : Nat) (most x : Int) (w : hW) : Prop := 0 < np ∧ 1 ≤ x ∧ x ≤ most ∧ (aT w.1 : Int) + x ≤ 9999
theorem hasHillX {np nd nr : Nat} {t : Nat → Nat} {h : zH} (V : HV np nd nr t) (X : HX np nd nr t h) : fX10_hasHill h = if 0 < np then 1 else 0 := by
  have v := V.1
  unfold fX10_hasHill
  rw [xm1 X, zw_id (show -2147483648 ≤ (np : Int) ∧ (np : Int) < 2147483648 by omega)]
  by_cases h : 0 < np
  · rw [if_neg (by omega), if_pos h]
  · rw [if_pos (by omega), if_neg h]
theorem canPX {np nd nr : Nat} {t : Nat → Nat} {lim : Nat} {w : hW} {h : zH} (V : HV np nd nr t) (O : WOK np nd nr t w) (H : CW np nd nr t lim w h) {x most : Int} (hx : zw x = x) (hm : 0 ≤ most ∧ most ≤ 240) : (wCan np most x w → fX10_canPass x most h = 1) ∧ (¬ wCan np most x w → fX10_canPass x most h = 0) := by
  have e : fX8_hour 7 h = (aT w.1 : Int) := H.2.1.2.1
  have a4 := O.1.2.2.2
  have key : fX10_canPass x most h = if ¬ 0 < np then 0 else if x < 1 then 0 else if most < x then 0 else if 9999 < zw ((aT w.1 : Int) + x) then 0 else 1 := by
    unfold fX10_canPass
    rw [hasHillX V H.1, e, zq, hx, zw_1, show zw 9999 = 9999 by decide, zw_id (show -2147483648 ≤ most ∧ most < 2147483648 by omega)]
    by_cases h0 : 0 < np
    · rw [if_pos h0, if_neg (show ¬ ¬ 0 < np from fun y => y h0)]
    · rw [if_neg h0, if_pos h0]
  rw [key]
  unfold wCan
  by_cases h0 : 0 < np
  · rw [if_neg (show ¬ ¬ 0 < np from fun y => y h0)]
    by_cases h1 : x < 1
    · rw [if_pos h1]; exact ⟨fun y => by omega, fun _ => rfl⟩
    · rw [if_neg h1]
      by_cases h2 : most < x
      · rw [if_pos h2]; exact ⟨fun y => by omega, fun _ => rfl⟩
      · rw [if_neg h2, zw_id (show -2147483648 ≤ (aT w.1 : Int) + x ∧ (aT w.1 : Int) + x < 2147483648 by omega)]
        by_cases h3 : 9999 < (aT w.1 : Int) + x
        · rw [if_pos h3]; exact ⟨fun y => by omega, fun _ => rfl⟩
        · rw [if_neg h3]; exact ⟨fun _ => rfl, fun y => by omega⟩
  · rw [if_pos h0]; exact ⟨fun y => absurd y.1 h0, fun _ => rfl⟩
theorem areHM {np nd nr B : Nat} {t : Nat → Nat} {w : hW} {g : zH} (V : HV np nd nr t) (O : WOK np nd nr t w) (H : MW np nd nr t B w g) {x most : Int} (hx : zw x = x) (hm : 0 ≤ most ∧ most ≤ 240) : (wCan np most x w → fX11_areHours x most g = 1) ∧ (¬ wCan np most x w → fX11_areHours x most g = 0) := by
  have v := V.1
  have a4 := O.1.2.2.2
  have key : fX11_areHours x most g = if ¬ 0 < np then 0 else if ¬ (1 ≤ x ∧ x ≤ most) then 0 else if 9999 < zw ((aT w.1 : Int) + x) then 0 else 1 := by
    unfold fX11_areHours
    rw [H.1.1.1, H.2.1.2.1, in_eq hx zw_1 (zw_id (by omega)), zq, show zw 9999 = 9999 by decide, zw_id (show -2147483648 ≤ (np : Int) ∧ (np : Int) < 2147483648 by omega)]
    by_cases h0 : 0 < np
    · rw [if_neg (show ¬ (np : Int) ≤ 0 by omega), if_neg (show ¬ ¬ 0 < np from fun y => y h0)]
      by_cases h1 : 1 ≤ x ∧ x ≤ most
      · rw [if_pos h1, if_neg (show ¬ ¬ (1 ≤ x ∧ x ≤ most) from fun y => y h1)]
      · rw [if_neg h1, if_pos h1]
    · rw [if_pos (by omega), if_pos h0]
  rw [key]
  unfold wCan
  by_cases h0 : 0 < np
  · rw [if_neg (show ¬ ¬ 0 < np from fun y => y h0)]
    by_cases h1 : 1 ≤ x ∧ x ≤ most
    · rw [if_neg (show ¬ ¬ (1 ≤ x ∧ x ≤ most) from fun y => y h1), zw_id (show -2147483648 ≤ (aT w.1 : Int) + x ∧ (aT w.1 : Int) + x < 2147483648 by omega)]
      by_cases h3 : 9999 < (aT w.1 : Int) + x
      · rw [if_pos h3]; exact ⟨fun y => by omega, fun _ => rfl⟩
      · rw [if_neg h3]; exact ⟨fun _ => rfl, fun y => by omega⟩
    · rw [if_pos h1]; exact ⟨fun y => absurd ⟨y.2.1, y.2.2.1⟩ h1, fun _ => rfl⟩
  · rw [if_pos h0]; exact ⟨fun y => absurd y.1 h0, fun _ => rfl⟩
theorem wGoN_OK {np nd nr : Nat} {t : Nat → Nat} {gr : hGr} {w : hW} (V : HV np nd nr t) (O : WOK np nd nr t w) (n : Nat) (hn : aT w.1 + n ≤ 9999) : WOK np nd nr t (wGoN np nd t gr w n) ∧ aT (wGoN np nd t gr w n).1 = aT w.1 + n := by
  induction n with
  | zero => exact ⟨O, rfl⟩
  | succ n ih =>
    obtain ⟨i1, i2⟩ := ih (by omega)
    refine ⟨passWOK V (WOK_keep i1) (by show aT (wGoN np nd t gr w n).1 < 9999; omega), ?_⟩
    show aT (aPass np nd t gr false (wGoN np nd t gr w n).1) = _
    rw [aPass_T, i2]
    omega
theorem goX {np nd nr : Nat} {t : Nat → Nat} {lim : Nat} {w : hW} {h : zH} (V : HV np nd nr t) (O : WOK np nd nr t w) (H : CW np nd nr t lim w h) (hlim : lim < 900000000) {N : Nat} (hN : 300 ≤ N) {gr : hGr} (G : GX N 32 gr h) {x : Int} (hx : zw x = x) : (¬ wCan np 240 x w → fX10_go N x h = some (-1, h)) ∧ (wCan np 240 x w → ∃ h', fX10_go N x h = some ((aT (wGoN np nd t gr w x.toNat).1 : Int), h') ∧ FR [5, 10, 26, 30, 31, 32, 33, 42] h h' ∧ FS 5 [5] h h' ∧ CW np nd nr t (lim + 240) (wGoN np nd t gr w x.toNat) h') := by
  obtain ⟨c1, c2⟩ := canPX V O H hx (most := 240) (by decide)
  refine ⟨fun hc => ?_, fun hc => ?_⟩
  · unfold fX10_go
    rw [c2 hc, zif0]
  · have hc' := hc
    obtain ⟨h0, h1, h2, h3⟩ := hc
    obtain ⟨n, rfl⟩ := Int.eq_ofNat_of_zero_le (show 0 ≤ x by omega)
    rw [Int.toNat_natCast]
    unfold fX10_go
    rw [c1 hc', zif1]
    refine zloopq (F := fun k i (s : zH) => fX10_go_c15 N k (n : Int) i s) (n := n) (s := h) (fun i s => FR [5, 10, 26, 30, 31, 32, 33, 42] h s ∧ FS 5 [5] h s ∧ CW np nd nr t (lim + i) (wGoN np nd t gr w i) s) (fun b => ∃ h', b = some ((aT (wGoN np nd t gr w n).1 : Int), h') ∧ FR [5, 10, 26, 30, 31, 32, 33, 42] h h' ∧ FS 5 [5] h h' ∧ CW np nd nr t (lim + 240) (wGoN np nd t gr w n) h') (fun k i s hi hI => ?_) (fun k s hI => ?_) (by omega) ⟨FR_rf, FS_rf, H⟩
    · obtain ⟨i1, i2, i3⟩ := hI
      obtain ⟨o1, o2⟩ := wGoN_OK (gr := gr) V O i (by omega)
      obtain ⟨h2, e1, e2, e3⟩ := CW_keep V o1 i3 (by omega)
      have F5 : FS 5 [5] h h2 := FS_tr i2 (FS_of e2 (by decide))
      have F : FR [5, 10, 26, 30, 31, 32, 33, 42] h h2 := FR_tr i1 (FR_up e2 (by decide))
      obtain ⟨h3, f1, f2, f3, f4⟩ := passCW (dark := false) V (WOK_keep o1) e3 (show 8 ≤ N by omega) (GX_F G F F5 (by decide) (by decide)) (by show aT (wGoN np nd t gr w i).1 < 9999; omega) h0
      left
      refine ⟨h3, ?_, FR_tr F (FR_up f2 (by decide)), FS_tr F5 f3, f4⟩
      show fX10_go_c15b N (fX10_go_c15 N k) _ _ _ = _
      unfold fX10_go_c15b
      rw [zw_id (show -2147483648 ≤ (n : Int) ∧ (n : Int) < 2147483648 by omega), zw_id (show -2147483648 ≤ (i : Int) ∧ (i : Int) < 2147483648 by omega), if_neg (by omega), e1, zb_some, show (0 : Int) = dkI false from rfl, f1, zb_some]
      rfl
    · obtain ⟨i1, i2, i3⟩ := hI
      refine ⟨s, ?_, i1, i2, CW_to i3 (by omega) rfl rfl rfl rfl rfl rfl rfl⟩
      show fX10_go_c15b N (fX10_go_c15 N k) _ _ _ = _
      unfold fX10_go_c15b
      rw [if_pos (by omega), show fX8_hour 7 s = (aT (wGoN np nd t gr w n).1 : Int) from i3.2.1.2.1]
theorem goMM {np nd nr B : Nat} {t : Nat → Nat} {w : hW} {g : zH} (V : HV np nd nr t) (O : WOK np nd nr t w) (H : MW np nd nr t B w g) (hB : B < 2000000000) {N : Nat} (hN : 6600 ≤ N) {gr : hGr} (G : GM N gr g) {x : Int} (hx : zw x = x) : (¬ wCan np 240 x w → fX11_go N x g = some (-1, g)) ∧ (wCan np 240 x w → ∃ g', fX11_go N x g = some ((aT (wGoN np nd t gr w x.toNat).1 : Int), g') ∧ FR [14, 57, 58, 69, 70] g g' ∧ FS 14 [38] g g' ∧ MW np nd nr t B (wGoN np nd t gr w x.toNat) g') := by
  obtain ⟨c1, c2⟩ := areHM V O H hx (most := 240) (by decide)
  refine ⟨fun hc => ?_, fun hc => ?_⟩
  · unfold fX11_go
    rw [c2 hc, zif0]
  · have hc' := hc
    obtain ⟨h0, h1, h2, h3⟩ := hc
    obtain ⟨n, rfl⟩ := Int.eq_ofNat_of_zero_le (show 0 ≤ x by omega)
    rw [Int.toNat_natCast]
    unfold fX11_go
    rw [c1 hc', zif1]
    refine zloopq (F := fun k i (s : zH) => fX11_go_c15 N k (n : Int) i s) (n := n) (s := g) (fun i s => FR [14, 57, 58, 69, 70] g s ∧ FS 14 [38] g s ∧ MW np nd nr t B (wGoN np nd t gr w i) s) (fun b => ∃ g', b = some ((aT (wGoN np nd t gr w n).1 : Int), g') ∧ FR [14, 57, 58, 69, 70] g g' ∧ FS 14 [38] g g' ∧ MW np nd nr t B (wGoN np nd t gr w n) g') (fun k i s hi hI => ?_) (fun k s hI => ?_) (by omega) ⟨FR_rf, FS_rf, H⟩
    · obtain ⟨i1, i2, i3⟩ := hI
      obtain ⟨o1, o2⟩ := wGoN_OK (gr := gr) V O i (by omega)
      obtain ⟨h2, e1, e2, e2', e3⟩ := MW_keep V o1 i3 hN
      have F5 : FS 14 [38] g h2 := FS_tr i2 e2'
      have F : FR [14, 57, 58, 69, 70] g h2 := FR_tr i1 (FR_up e2 (by decide))
      obtain ⟨h3, f1, f2, f4⟩ := passMW (dark := false) V (WOK_keep o1) e3 hB (show 200 ≤ N by omega) (GM_F G F (F5 35 (by decide)) (by intro b b1 b2 hb; simp at hb; omega)) (by show aT (wGoN np nd t gr w i).1 < 9999; omega) h0
      left
      refine ⟨h3, ?_, FR_tr F (FR_up f2 (by decide)), FS_tr F5 (FS_of f2 (by decide)), f4⟩
      show fX11_go_c15b N (fX11_go_c15 N k) _ _ _ = _
      unfold fX11_go_c15b
      rw [zw_id (show -2147483648 ≤ (n : Int) ∧ (n : Int) < 2147483648 by omega), zw_id (show -2147483648 ≤ (i : Int) ∧ (i : Int) < 2147483648 by omega), if_neg (by omega), e1, zb_some, show (0 : Int) = dkI false from rfl, f1, zb_some]
      rfl
    · obtain ⟨i1, i2, i3⟩ := hI
      refine ⟨s, ?_, i1, i2, i3⟩
      show fX11_go_c15b N (fX11_go_c15 N k) _ _ _ = _
      unfold fX11_go_c15b
      rw [if_pos (by omega), i3.2.1.2.1]
/-- the image -/
def CI (np : Nat) (t : Nat → Nat) (im : Option hSt) (h : zH) : Prop := match im with
  | none => h 0 13 = 0
  | some a => h 0 13 = 1 ∧ XS np t a (h 38) ∧ XD (aL a) (h 39)
def MI (np B : Nat) (im : Option hSt) (g : zH) : Prop := match im with
  | none => g 14 49 = 0
  | some a => g 14 49 = 1 ∧ MS np B a (g 75)
theorem XD_cg {L : List (Nat × Nat)} {rd rd' : Nat → Int} (hl : L.length ≤ 420) (H : XD L rd) (e : ∀ j, j < 420 → rd' j = rd j) : XD L rd' := fun i hi => by
  rw [e _ (by omega)]; exact H i hi
theorem imageX {np nd nr : Nat} {t : Nat → Nat} {lim : Nat} {w : hW} {h : zH} (V : HV np nd nr t) (O : WOK np nd nr t w) (H : CW np nd nr t lim w h) : (np = 0 → fX10_image h = some (-1, h)) ∧ (0 < np → ∃ h', fX10_image h = some ((aT w.1 : Int), h') ∧ FR [0, 38, 39] h h' ∧ FS 0 [13] h h' ∧ CI np t (some w.1) h') := by
  refine ⟨fun h0 => ?_, fun h0 => ?_⟩
  · unfold fX10_image
    rw [hasHillX V H.1, if_neg (show ¬ 0 < np by omega), zif0]
  · unfold fX10_image
    rw [hasHillX V H.1, if_pos h0, zif1, takeX_now_kept, zb_some]
    simp only [zlet_v]
    refine ⟨zs (zcopy (zcopy h 30 0 38 0 51) 31 0 39 0 420) 0 13 1, ?_, fun b hb => ?_, fun j hj => ?_, zs_at, ?_, ?_⟩
    · have e : fX8_hour 7 (zs (zcopy (zcopy h 30 0 38 0 51) 31 0 39 0 420) 0 13 1) = (aT w.1 : Int) := by
        show zs (zcopy (zcopy h 30 0 38 0 51) 31 0 39 0 420) 0 13 1 30 48 = _
        rw [zs_row_ne (by decide), zcopy_ne (by decide), zcopy_ne (by decide)]
        exact H.2.1.2.1
      rw [e]
    · rw [zs_row_ne (fun e => hb (by rw [e]; decide)), zcopy_ne (fun e => hb (by rw [e]; decide)), zcopy_ne (fun e => hb (by rw [e]; decide))]
    · rw [zs_ne (fun e => hj (by rw [e]; decide)), zcopy_ne (by decide), zcopy_ne (by decide)]
    · rw [zs_row_ne (by decide), zcopy_ne (by decide)]
      refine XS_cg V.1.1 (AOK_q V O.1) H.2.1 (fun j hj => ?_)
      have := zcopy_in (h := h) (o := 30) (sp := 0) (o2 := 38) (dp := 0) hj
      rw [Nat.zero_add] at this
      exact this
    · rw [zs_row_ne (by decide)]
      refine XD_cg (Nat.le_of_lt (AOK_L O.1)) H.2.2.1 (fun j hj => ?_)
      have := zcopy_in (h := zcopy h 30 0 38 0 51) (o := 31) (sp := 0) (o2 := 39) (dp := 0) hj
      rw [Nat.zero_add, zcopy_ne (show 31 ≠ 38 by decide)] at this
      exact this
theorem imageM {np nd nr B : Nat} {t : Nat → Nat} {w : hW} {g : zH} (V : HV np nd nr t) (O : WOK np nd nr t w) (H : MW np nd nr t B w g) {N : Nat} (hN : 200 ≤ N) : (np = 0 → fX11_image N g = some (-1, g)) ∧ (0 < np → ∃ g', fX11_image N g = some ((aT w.1 : Int), g') ∧ FR [14, 75] g g' ∧ FS 14 [49] g g' ∧ MI np B (some w.1) g') := by
  have v := V.1
  refine ⟨fun h0 => ?_, fun h0 => ?_⟩
  · unfold fX11_image
    rw [H.1.1.1, h0]
    exact if_pos (by decide)
  · unfold fX11_image
    rw [H.1.1.1, zw_id (show -2147483648 ≤ (np : Int) ∧ (np : Int) < 2147483648 by omega), if_neg (by omega), imageM_eq (by omega)]
    refine ⟨zs (zcopy g 69 0 75 0 165) 14 49 1, ?_, fun b hb => ?_, fun j hj => ?_, zs_at, ?_⟩
    · rw [zs_row_ne (by decide), zcopy_ne (by decide), H.2.1.2.1]
    · rw [zs_row_ne (fun e => hb (by rw [e]; decide)), zcopy_ne (fun e => hb (by rw [e]; decide))]
    · rw [zs_ne (fun e => hj (by rw [e]; decide)), zcopy_ne (by decide)]
    · rw [zs_row_ne (by decide)]
      refine MS_cg V.1.1 (AOK_m O.1) H.2.1 (fun j hj => ?_)
      have := zcopy_in (h := g) (o := 69) (sp := 0) (o2 := 75) (dp := 0) hj
      rw [Nat.zero_add] at this
      exact this
theorem backX {np nd nr : Nat} {t : Nat → Nat} {lim : Nat} {w : hW} {im : Option hSt} {h : zH} (V : HV np nd nr t) (H : CW np nd nr t lim w h) (I : CI np t im h) : (im = none → fX10_back h = some (-1, h)) ∧ ∀ a, im = some a → AOK np nd nr t a → ∃ h', fX10_back h = some ((aT a : Int), h') ∧ FR [10, 30, 31] h h' ∧ CW np nd nr t lim (a, []) h' := by
  refine ⟨fun h0 => ?_, fun a h0 A => ?_⟩
  · subst h0
    unfold fX10_back
    rw [show h 0 13 = 0 from I, zif0]
  · subst h0
    obtain ⟨i1, i2, i3⟩ := I
    unfold fX10_back
    rw [i1, zif1, takeX_kept_now, zb_some]
    unfold fX0_forget
    simp only [zlet_v]
    have S : XS np t a (zs (zcopy (zcopy h 38 0 30 0 51) 39 0 31 0 420) 10 0 0 30) := by
      rw [zs_row_ne (by decide), zcopy_ne (by decide)]
      refine XS_cg V.1.1 (AOK_q V A) i2 (fun j hj => ?_)
      have := zcopy_in (h := h) (o := 38) (sp := 0) (o2 := 30) (dp := 0) hj
      rw [Nat.zero_add] at this
      exact this
    have F : FR [10, 30, 31] h (zs (zcopy (zcopy h 38 0 30 0 51) 39 0 31 0 420) 10 0 0) := fun b hb => by
      rw [zs_row_ne (fun e => hb (by rw [e]; decide)), zcopy_ne (fun e => hb (by rw [e]; decide)), zcopy_ne (fun e => hb (by rw [e]; decide))]
    obtain ⟨H1, H2, H3, ⟨H4, l, H5, H6, H7, H8⟩, H9⟩ := H
    refine ⟨_, ?_, F, HX_to H1 (F 16 (by decide)) (F 17 (by decide)) (F 18 (by decide)), S, ?_, ⟨zs_at, l, ?_, Nat.zero_le _, H7, fun i x hx => ?_⟩, fun x hx => absurd hx List.not_mem_nil⟩
    · have e : fX8_hour 7 (zs (zcopy (zcopy h 38 0 30 0 51) 39 0 31 0 420) 10 0 0) = (aT a : Int) := S.2.1
      rw [e]
    · rw [zs_row_ne (by decide)]
      refine XD_cg (Nat.le_of_lt (AOK_L A)) i3 (fun j hj => ?_)
      have := zcopy_in (h := zcopy h 38 0 30 0 51) (o := 39) (sp := 0) (o2 := 31) (dp := 0) hj
      rw [Nat.zero_add, zcopy_ne (show 39 ≠ 30 by decide)] at this
      exact this
    · rw [zs_ne (by decide), zcopy_ne (by decide), zcopy_ne (by decide)]; exact H5
    · rw [List.getElem?_nil] at hx; cases hx
theorem backM {np nd nr B : Nat} {t : Nat → Nat} {w : hW} {im : Option hSt} {g : zH} (V : HV np nd nr t) (H : MW np nd nr t B w g) (I : MI np B im g) {N : Nat} (hN : 200 ≤ N) : (im = none → fX11_back N g = some (-1, g)) ∧ ∀ a, im = some a → AOK np nd nr t a → ∃ g', fX11_back N g = some ((aT a : Int), g') ∧ FR [14, 69] g g' ∧ FS 14 [38] g g' ∧ MW np nd nr t B (a, []) g' := by
  refine ⟨fun h0 => ?_, fun a h0 A => ?_⟩
  · subst h0
    unfold fX11_back
    rw [show g 14 49 = 0 from I, zif0]
  · subst h0
    obtain ⟨i1, i2⟩ := I
    unfold fX11_back
    rw [i1, zif1, backM_eq (by omega)]
    have S : MS np B a (zs (zcopy g 75 0 69 0 165) 14 38 0 69) := by
      rw [zs_row_ne (by decide)]
      refine MS_cg V.1.1 (AOK_m A) i2 (fun j hj => ?_)
      have := zcopy_in (h := g) (o := 75) (sp := 0) (o2 := 69) (dp := 0) hj
      rw [Nat.zero_add] at this
      exact this
    have F : FR [14, 69] g (zs (zcopy g 75 0 69 0 165) 14 38 0) := fun b hb => by
      rw [zs_row_ne (fun e => hb (by rw [e]; decide)), zcopy_ne (fun e => hb (by rw [e]; decide))]
    have FF : FS 14 [38] g (zs (zcopy g 75 0 69 0 165) 14 38 0) := fun j hj => by
      rw [zs_ne (fun e => hj (by rw [e]; decide)), zcopy_ne (by decide)]
    exact ⟨_, by rw [S.2.1], F, FF, HM_to H.1 ⟨FF 28 (by decide), FF 29 (by decide), FF 30 (by decide)⟩ (F 63 (by decide)) (F 64 (by decide)) (F 65 (by decide)) (F 66 (by decide)), S, zs_at, fun i x hx => by rw [List.getElem?_nil] at hx; cases hx⟩
