/-! steps on the hill with its acts; file, withdraw, undo, go -/
theorem aEnq_OK {np nd nr : Nat} {t : Nat → Nat} {a : hSt} (V : HV np nd nr t) (A : AOK np nd nr t a) {p r : Nat} (hp : p < np) (hr : r < nr) (hw : aW a p = -1) : AOK np nd nr t (aEnq p r a) := by
  obtain ⟨a1, a2, a3, a4⟩ := A
  refine ⟨aEnq_AV V a1 hp hr hw, fun q r' hq hr' hw' => ?_, a3, a4⟩
  have h1 : (if q = p then (r : Int) else aW a q) = (r' : Nat) := hw'
  show aD a q < _
  by_cases h : q = p
  · subst h
    rw [if_pos rfl] at h1
    have : r' = r := by omega
    subst this
    have hd : aD a q = 0 := by
      rcases (a1.1 q hq).2 with ⟨-, h0⟩ | ⟨r', -, h0, -⟩
      · exact h0
      · rw [hw] at h0; omega
    have := (V.2.2.2.2.2 r' hr).1
    have := (V.2.2.2.2.1 _ this).2.2.1.1
    omega
  · rw [if_neg h] at h1
    exact a2 q r' hq hr' h1
theorem aLeave_OK {np nd nr : Nat} {t : Nat → Nat} {a : hSt} (A : AOK np nd nr t a) {p : Nat} : AOK np nd nr t (aLeave p a) := by
  obtain ⟨a1, a2, a3, a4⟩ := A
  refine ⟨aLeave_AV a1, fun q r' hq hr' hw' => ?_, a3, a4⟩
  have h1 : (if q = p then (-1 : Int) else aW a q) = (r' : Nat) := hw'
  show (if q = p then 0 else aD a q) < _
  by_cases h : q = p
  · rw [if_pos h] at h1; omega
  · rw [if_neg h] at h1
    rw [if_neg h]
    exact a2 q r' hq hr' h1
theorem aPass_OK {np nd nr : Nat} {t : Nat → Nat} {gr : hGr} {dark : Bool} {a : hSt} (V : HV np nd nr t) (A : AOK np nd nr t a) (hT : aT a < 9999) : AOK np nd nr t (aPass np nd t gr dark a) := by
  obtain ⟨a1, a2, a3, a4⟩ := A
  obtain ⟨p1, p2⟩ := aPass_AV (gr := gr) (dark := dark) V a1 a2
  exact ⟨p1, p2, aPass_ALs V a3, by rw [aPass_T]; omega⟩
theorem aPass_Ll {np nd : Nat} {t : Nat → Nat} {gr : hGr} {dark : Bool} {a : hSt} : (aL a).length ≤ (aL (aPass np nd t gr dark a)).length := by
  rw [aPass_L]
  unfold aMorn
  split
  · show _ ≤ (aL a).length + 1
    omega
  · exact Nat.le_refl _
theorem CW_30 {np nd nr : Nat} {t : Nat → Nat} {lim : Nat} {w : hW} {b : hSt} {h h' : zH} (H : CW np nd nr t lim w h) (F : FR [30] h h') (S : XS np t b (h' 30)) (hL : aL b = aL w.1) : CW np nd nr t lim (b, w.2) h' := by
  obtain ⟨H1, H2, H3, H4, H5⟩ := H
  have e31 : h' 31 = h 31 := F 31 (by decide)
  refine ⟨HX_to H1 (F 16 (by decide)) (F 17 (by decide)) (F 18 (by decide)), S, ?_, AX_to H4 (Nat.le_refl _) (by rw [F 10 (by decide)]) (by rw [F 10 (by decide)]) (F 42 (by decide)), by rw [e31]; exact H5⟩
  show XD (aL b) (h' 31)
  rw [hL, e31]; exact H3
theorem MW_69 {np nd nr B B' : Nat} {t : Nat → Nat} {w : hW} {b : hSt} {g g' : zH} (H : MW np nd nr t B w g) (hB : B ≤ B') (F : FR [69, 57, 58] g g') (S : MS np B' b (g' 69)) : MW np nd nr t B' (b, w.2) g' := by
  obtain ⟨H1, H2, H3⟩ := H
  exact ⟨HM_to H1 (by rw [F 14 (by decide)]; exact ⟨rfl, rfl, rfl⟩) (F 63 (by decide)) (F 64 (by decide)) (F 65 (by decide)) (F 66 (by decide)), S, AMo_to H3 hB (by rw [F 14 (by decide)]) (F 70 (by decide))⟩
theorem enqCW {np nd nr : Nat} {t : Nat → Nat} {lim : Nat} {w : hW} {h : zH} (V : HV np nd nr t) (O : WOK np nd nr t w) (H : CW np nd nr t lim w h) {p r : Nat} (hp : p < np) (hr : r < nr) (hw : aW w.1 p = -1) : ∃ h', fX8_enqueue 7 2 (p : Int) (r : Int) h = h' ∧ FR [30] h h' ∧ CW np nd nr t lim (aEnq p r w.1, w.2) h' := by
  obtain ⟨h', e1, e2, e3⟩ := enqX7 V H.1 O.1.1 H.2.1 hp hr hw
  have F : FR [30] h h' := fun b hb => e2 b (fun e => hb (by rw [e]; decide))
  exact ⟨h', e1, F, CW_30 H F e3 rfl⟩
theorem leaCW {np nd nr : Nat} {t : Nat → Nat} {lim : Nat} {w : hW} {h : zH} (V : HV np nd nr t) (O : WOK np nd nr t w) (H : CW np nd nr t lim w h) {N : Nat} (hN : 8 ≤ N) {p : Nat} (hp : p < np) : ∃ h', fX8_leave N 7 (p : Int) h = some (aW w.1 p, h') ∧ FR [30] h h' ∧ CW np nd nr t lim (aLeave p w.1, w.2) h' := by
  obtain ⟨h', e1, e2, e3⟩ := leaX7 V O.1.1 H.2.1 hN hp
  have F : FR [30] h h' := fun b hb => e2 b (fun e => hb (by rw [e]; decide))
  exact ⟨h', e1, F, CW_30 H F e3 rfl⟩
theorem filMW {np nd nr B : Nat} {t : Nat → Nat} {w : hW} {g : zH} (V : HV np nd nr t) (O : WOK np nd nr t w) (H : MW np nd nr t B w g) {p r : Nat} (hp : p < np) (hw : aW w.1 p = -1) : ∃ g', fX11_fileNow (p : Int) (r : Int) g = some g' ∧ FR [69] g g' ∧ MW np nd nr t (B + 1) (aEnq p r w.1, w.2) g' := by
  obtain ⟨g', e1, e2, e3⟩ := filM (r := r) V O.1.1 H.2.1 hp hw
  have F : FR [69] g g' := fun b hb => e2 b (fun e => hb (by rw [e]; decide))
  exact ⟨g', e1, F, MW_69 H (by omega) (FR_up F (by decide)) e3⟩
theorem goMW {np nd nr B : Nat} {t : Nat → Nat} {w : hW} {g : zH} (V : HV np nd nr t) (H : MW np nd nr t B w g) {p : Nat} (hp : p < np) : ∃ g', fX11_goAway (p : Int) g = some g' ∧ FR [69] g g' ∧ MW np nd nr t B (aLeave p w.1, w.2) g' := by
  obtain ⟨g', e1, e2, e3⟩ := goM V H.2.1 hp
  have F : FR [69] g g' := fun b hb => e2 b (fun e => hb (by rw [e]; decide))
  exact ⟨g', e1, F, MW_69 H (Nat.le_refl _) (FR_up F (by decide)) e3⟩
theorem passCW {np nd nr : Nat} {t : Nat → Nat} {lim : Nat} {w : hW} {h : zH} (V : HV np nd nr t) (O : WOK np nd nr t w) (H : CW np nd nr t lim w h) {N : Nat} (hN : 8 ≤ N) {gr : hGr} (G : GX N 32 gr h) (hT : aT w.1 < 9999) (h0 : 0 < np) {dark : Bool} : ∃ h', fX8_pass N 7 2 (dkI dark) h = some h' ∧ FR [5, 26, 30, 31, 32, 33] h h' ∧ FS 5 [5] h h' ∧ CW np nd nr t lim (aPass np nd t gr dark w.1, w.2) h' := by
  obtain ⟨H1, H2, H3, H4, H5⟩ := H
  obtain ⟨h', e1, e2, e3, e4⟩ := passX7 (dark := dark) V H1 O.1.1 O.1.2.1 H2 hN G (by omega) (AOK_L O.1) h0
  have F : FR [5, 26, 30, 31, 32, 33] h h' := fun b hb => e2.1 b (fun e => hb (by rw [e]; decide)) (fun e => hb (by rw [e]; decide)) (fun e => hb (by rw [e]; decide)) (fun e => hb (by rw [e]; decide)) (fun e => hb (by rw [e]; decide)) (fun e => hb (by rw [e]; decide))
  refine ⟨h', e1, F, fun j hj => e2.2 j (fun e => hj (by rw [e]; decide)), HX_to H1 (F 16 (by decide)) (F 17 (by decide)) (F 18 (by decide)), e4, ?_, AX_to H4 (Nat.le_refl _) (by rw [F 10 (by decide)]) (by rw [F 10 (by decide)]) (F 42 (by decide)), fun a ha => ?_⟩
  · rw [e3]; exact XD_new H3
  · rw [e3]; exact XD_old ((List.pairwise_cons.mp O.2.2.2).1 a ha) (H5 a ha)
theorem passMW {np nd nr B : Nat} {t : Nat → Nat} {w : hW} {g : zH} (V : HV np nd nr t) (O : WOK np nd nr t w) (H : MW np nd nr t B w g) (hB : B < 2000000000) {N : Nat} (hN : 200 ≤ N) {gr : hGr} (G : GM N gr g) (hT : aT w.1 < 9999) (h0 : 0 < np) {dark : Bool} : ∃ g', fX11_pass N (dkI dark) g = some g' ∧ FR [69, 57, 58] g g' ∧ MW np nd nr t B (aPass np nd t gr dark w.1, w.2) g' := by
  obtain ⟨g', e1, e2, e3⟩ := passM (dark := dark) V H.1 O.1.1 O.1.2.1 H.2.1 hB hN G (by omega) h0
  have F : FR [69, 57, 58] g g' := fun b hb => e2 b (fun e => hb (by rw [e]; decide)) (fun e => hb (by rw [e]; decide)) (fun e => hb (by rw [e]; decide))
  exact ⟨g', e1, F, MW_69 H (Nat.le_refl _) F e3⟩
theorem passWOK {np nd nr : Nat} {t : Nat → Nat} {w : hW} {gr : hGr} {dark : Bool} (V : HV np nd nr t) (O : WOK np nd nr t w) (hT : aT w.1 < 9999) : WOK np nd nr t (aPass np nd t gr dark w.1, w.2) := WOK_set O (aPass_OK V O.1 hT) aPass_Ll
theorem GX_F {N lr : Nat} {gr : hGr} {h h' : zH} {L : List Nat} (G : GX N lr gr h) (F : FR L h h') (F5 : FS 5 [5] h h') (h24 : 24 ∉ L) (h25 : 25 ∉ L) : GX N lr gr h' := GX_to G (fun j hj => F5 j (fun e => hj (List.mem_singleton.mp e))) (F 24 h24) (F 25 h25)
theorem GM_F {N : Nat} {gr : hGr} {g g' : zH} {L : List Nat} (G : GM N gr g) (F : FR L g g') (e : g' 14 35 = g 14 35) (hL : ∀ b, 50 ≤ b → b ≤ 56 → b ∉ L) : GM N gr g' := GM_to G e (F 50 (hL 50 (by decide) (by decide))) (F 51 (hL 51 (by decide) (by decide))) (F 52 (hL 52 (by decide) (by decide))) (F 53 (hL 53 (by decide) (by decide))) (F 54 (hL 54 (by decide) (by decide))) (F 55 (hL 55 (by decide) (by decide))) (F 56 (hL 56 (by decide) (by decide)))
def wFile (np nr : Nat) (t : Nat → Nat) (x y : Int) (w : hW) : Int × hW := if (0 ≤ x ∧ x < np ∧ 0 ≤ y ∧ y < nr) ∧ canF t w.1 x.toNat y.toNat = true then ((aBack t (t (96 + 4 * y.toNat)) (aEnq x.toNat y.toNat w.1) : Int), (aEnq x.toNat y.toNat w.1, wKeep w.1 w.2)) else (-1, w)
def wLeave (np : Nat) (x : Int) (w : hW) : Int × hW := if (0 ≤ x ∧ x < np) ∧ aW w.1 x.toNat ≠ -1 then (aW w.1 x.toNat, (aLeave x.toNat w.1, wKeep w.1 w.2)) else (-1, w)
def wUndo (w : hW) : Int × hW := match w.2 with
  | [] => (-1, w)
  | a :: as => ((as.length : Int), (a, as))
theorem wFile_OK {np nd nr : Nat} {t : Nat → Nat} {w : hW} {x y : Int} (V : HV np nd nr t) (O : WOK np nd nr t w) : WOK np nd nr t (wFile np nr t x y w).2 := by
  unfold wFile
  split
  · rename_i hc
    exact WOK_set (WOK_keep O) (aEnq_OK V O.1 (by omega) (by omega) (canF_w hc.2)) (Nat.le_refl _)
  · exact O
theorem wLeave_OK {np nd nr : Nat} {t : Nat → Nat} {w : hW} {x : Int} (O : WOK np nd nr t w) : WOK np nd nr t (wLeave np x w).2 := by
  unfold wLeave
  split
  · exact WOK_set (WOK_keep O) (aLeave_OK O.1) (Nat.le_refl _)
  · exact O
theorem wUndo_OK {np nd nr : Nat} {t : Nat → Nat} {w : hW} (O : WOK np nd nr t w) : WOK np nd nr t (wUndo w).2 := by
  obtain ⟨b, acts⟩ := w
  cases acts with
  | nil => exact O
  | cons a as =>
    obtain ⟨o1, o2, o3, o4⟩ := O
    refine ⟨o2 a List.mem_cons_self, fun c hc => o2 c (List.mem_cons_of_mem _ hc), ?_, (List.pairwise_cons.mp o4).2⟩
    have : (a :: as).length ≤ 40 := o3
    rw [List.length_cons] at this
    show as.length ≤ 40
    omega
theorem fileX {np nd nr : Nat} {t : Nat → Nat} {lim : Nat} {w : hW} {h : zH} (V : HV np nd nr t) (O : WOK np nd nr t w) (H : CW np nd nr t lim w h) (hlim : lim < 1000000000) {N : Nat} (hN : 8 ≤ N) {x y : Int} (hx : zw x = x) (hy : zw y = y) : ∃ h', fX10_file N x y h = some ((wFile np nr t x y w).1, h') ∧ FR [10, 30, 42] h h' ∧ CW np nd nr t (lim + 1) (wFile np nr t x y w).2 h' := by
  have v := V.1
  unfold fX10_file wFile
  rw [alX7_0 V H.1 O.1.1 H.2.1 hx hy, zq]
  by_cases hc : (0 ≤ x ∧ x < np ∧ 0 ≤ y ∧ y < nr) ∧ canF t w.1 x.toNat y.toNat = true
  · rw [if_pos hc, if_pos hc]
    obtain ⟨p, rfl⟩ := Int.eq_ofNat_of_zero_le hc.1.1
    obtain ⟨r, rfl⟩ := Int.eq_ofNat_of_zero_le hc.1.2.2.1
    have hp : p < np := by omega
    have hr : r < nr := by omega
    rw [Int.toNat_natCast, Int.toNat_natCast] at *
    obtain ⟨h1, e1, e2, e3⟩ := CW_keep V O H hlim
    have O1 := WOK_keep O
    obtain ⟨h2, f1, f2, f3⟩ := enqCW V O1 e3 hp hr (canF_w hc.2)
    have A2 := aEnq_OK V O.1 hp hr (canF_w hc.2)
    have hd := (V.2.2.2.2.2 r hr).1
    rw [e1, zb_some]
    simp only [zlet_v]
    rw [f1, xi30 V f3.1 hr, bakX7 V A2.1 f3.2.1 hN (by omega), zb_some]
    exact ⟨h2, rfl, FR_tr (FR_up e2 (by decide)) (FR_up f2 (by decide)), f3⟩
  · rw [if_neg hc, if_neg hc]
    exact ⟨h, rfl, FR_rf, CW_to H (by omega) rfl rfl rfl rfl rfl rfl rfl⟩
theorem fileM {np nd nr B : Nat} {t : Nat → Nat} {w : hW} {g : zH} (V : HV np nd nr t) (O : WOK np nd nr t w) (H : MW np nd nr t B w g) {N : Nat} (hN : 6600 ≤ N) {x y : Int} (hx : zw x = x) (hy : zw y = y) : ∃ g', fX11_file N x y g = some ((wFile np nr t x y w).1, g') ∧ FR [14, 69, 70] g g' ∧ FS 14 [38] g g' ∧ MW np nd nr t (B + 1) (wFile np nr t x y w).2 g' := by
  have v := V.1
  unfold fX11_file wFile
  rw [canFM V H.1 O.1.1 H.2.1 (by omega) hx hy, zb_some, zq]
  by_cases hc : (0 ≤ x ∧ x < np ∧ 0 ≤ y ∧ y < nr) ∧ canF t w.1 x.toNat y.toNat = true
  · rw [if_pos hc, if_pos hc]
    obtain ⟨p, rfl⟩ := Int.eq_ofNat_of_zero_le hc.1.1
    obtain ⟨r, rfl⟩ := Int.eq_ofNat_of_zero_le hc.1.2.2.1
    have hp : p < np := by omega
    have hr : r < nr := by omega
    rw [Int.toNat_natCast, Int.toNat_natCast] at *
    obtain ⟨g1, e1, e2, e2', e3⟩ := MW_keep V O H hN
    have O1 := WOK_keep O
    obtain ⟨g2, f1, f2, f3⟩ := filMW (r := r) V O1 e3 hp (canF_w hc.2)
    have A2 := aEnq_OK V O.1 hp hr (canF_w hc.2)
    have hd := (V.2.2.2.2.2 r hr).1
    rw [e1, zb_some, f1, zb_some, mdesk V f3.1 hr, zb_some, bakM V f3.1 A2.1 f3.2.1 (by omega) (by omega), zb_some]
    exact ⟨g2, rfl, FR_tr (FR_up e2 (by decide)) (FR_up f2 (by decide)), FS_tr e2' (FS_of f2 (by decide)), f3⟩
  · rw [if_neg hc, if_neg hc]
    exact ⟨g, rfl, FR_rf, FS_rf, MW_B H (by omega)⟩
theorem withX {np nd nr : Nat} {t : Nat → Nat} {lim : Nat} {w : hW} {h : zH} (V : HV np nd nr t) (O : WOK np nd nr t w) (H : CW np nd nr t lim w h) (hlim : lim < 1000000000) {N : Nat} (hN : 8 ≤ N) {x : Int} (hx : zw x = x) : ∃ h', fX10_withdraw N x h = some ((wLeave np x w).1, h') ∧ FR [10, 30, 42] h h' ∧ CW np nd nr t (lim + 1) (wLeave np x w).2 h' := by
  have v := V.1
  unfold fX10_withdraw wLeave
  rw [alX7_1 V H.1 O.1.1 H.2.1 hx, zq]
  by_cases hc : (0 ≤ x ∧ x < np) ∧ aW w.1 x.toNat ≠ -1
  · rw [if_pos hc, if_pos hc]
    obtain ⟨p, rfl⟩ := Int.eq_ofNat_of_zero_le hc.1.1
    have hp : p < np := by omega
    rw [Int.toNat_natCast] at *
    obtain ⟨h1, e1, e2, e3⟩ := CW_keep V O H hlim
    obtain ⟨h2, f1, f2, f3⟩ := leaCW V (WOK_keep O) e3 hN hp
    rw [e1, zb_some, f1, z2_some]
    exact ⟨h2, rfl, FR_tr (FR_up e2 (by decide)) (FR_up f2 (by decide)), f3⟩
  · rw [if_neg hc, if_neg hc]
    exact ⟨h, rfl, FR_rf, CW_to H (by omega) rfl rfl rfl rfl rfl rfl rfl⟩
theorem withM {np nd nr B : Nat} {t : Nat → Nat} {w : hW} {g : zH} (V : HV np nd nr t) (O : WOK np nd nr t w) (H : MW np nd nr t B w g) {N : Nat} (hN : 6600 ≤ N) {x : Int} (hx : zw x = x) : ∃ g', fX11_withdraw N x g = some ((wLeave np x w).1, g') ∧ FR [14, 69, 70] g g' ∧ FS 14 [38] g g' ∧ MW np nd nr t B (wLeave np x w).2 g' := by
  have v := V.1
  unfold fX11_withdraw wLeave
  rw [canWM V H.1 O.1.1 H.2.1 hx, zb_some, zq]
  by_cases hc : (0 ≤ x ∧ x < np) ∧ aW w.1 x.toNat ≠ -1
  · rw [if_pos hc, if_pos hc]
    obtain ⟨p, rfl⟩ := Int.eq_ofNat_of_zero_le hc.1.1
    have hp : p < np := by omega
    rw [Int.toNat_natCast] at *
    obtain ⟨g1, e1, e2, e2', e3⟩ := MW_keep V O H hN
    obtain ⟨g2, f1, f2, f3⟩ := goMW V e3 hp
    rw [e1, zb_some, om_1 (by omega), zb_some, (e3.2.1.1 p hp).2.1, f1, zb_some]
    exact ⟨g2, rfl, FR_tr (FR_up e2 (by decide)) (FR_up f2 (by decide)), FS_tr e2' (FS_of f2 (by decide)), f3⟩
  · rw [if_neg hc, if_neg hc]
    exact ⟨g, rfl, FR_rf, FS_rf, H⟩
theorem undoX {np nd nr : Nat} {t : Nat → Nat} {lim : Nat} {w : hW} {h : zH} (V : HV np nd nr t) (O : WOK np nd nr t w) (H : CW np nd nr t lim w h) (hlim : lim < 1000000000) : ∃ h', fX10_undo h = some ((wUndo w).1, h') ∧ FR [10, 30] h h' ∧ CW np nd nr t lim (wUndo w).2 h' := by
  obtain ⟨b, acts⟩ := w
  obtain ⟨H1, H2, H3, H4, H5⟩ := H
  cases acts with
  | nil =>
    refine ⟨h, ?_, FR_rf, H1, H2, H3, H4, H5⟩
    unfold fX10_undo fX0_restore
    rw [H4.1]
    rfl
  | cons a as =>
    obtain ⟨h', e1, e2, e3, e4⟩ := undoAX V (O.2.1 a List.mem_cons_self) O.2.2.1 H4 hlim
    have e31 : h' 31 = h 31 := e2 31 (by decide)
    refine ⟨h', ?_, e2, HX_to H1 (e2 16 (by decide)) (e2 17 (by decide)) (e2 18 (by decide)), e3, ?_, e4, fun c hc => ?_⟩
    · unfold fX10_undo
      rw [e1]
      rfl
    · show XD (aL a) (h' 31)
      rw [e31]; exact H5 a List.mem_cons_self
    · rw [e31]; exact H5 c (List.mem_cons_of_mem _ hc)
theorem undoM {np nd nr B : Nat} {t : Nat → Nat} {w : hW} {g : zH} (V : HV np nd nr t) (O : WOK np nd nr t w) (H : MW np nd nr t B w g) {N : Nat} (hN : 200 ≤ N) : ∃ g', fX11_undo N g = some ((wUndo w).1, g') ∧ FR [14, 69] g g' ∧ FS 14 [38] g g' ∧ MW np nd nr t B (wUndo w).2 g' := by
  obtain ⟨b, acts⟩ := w
  obtain ⟨H1, H2, H3⟩ := H
  cases acts with
  | nil =>
    refine ⟨g, ?_, FR_rf, FS_rf, H1, H2, H3⟩
    unfold fX11_undo
    rw [H3.1]
    rfl
  | cons a as =>
    obtain ⟨g', e1, e2, e2', e3, e4⟩ := undoAM V (O.2.1 a List.mem_cons_self) O.2.2.1 H3 hN
    exact ⟨g', e1, e2, e2', HM_to H1 ⟨e2' 28 (by decide), e2' 29 (by decide), e2' 30 (by decide)⟩ (e2 63 (by decide)) (e2 64 (by decide)) (e2 65 (by decide)) (e2 66 (by decide)), e3, e4⟩
