/-! an hour -/
def aRun (t : Nat → Nat) (gr : hGr) (tm : Nat) (a : hSt) : Nat → hSt
  | 0 => a
  | d + 1 => if t (64 + 4 * d) ≤ tm ∧ tm < t (65 + 4 * d) then aServe t d gr (aRun t gr tm a d) else aRun t gr tm a d
def aTick (a : hSt) : hSt := (aH a, aW a, aD a, aS a, aP a, aR a, aQ a, aT a + 1, aL a)
def aMorn (np : Nat) (t : Nat → Nat) (dark : Bool) (a : hSt) : hSt := if aT a % 24 = t 0 then aDawn np t dark a else a
def aPass (np nd : Nat) (t : Nat → Nat) (gr : hGr) (dark : Bool) (a : hSt) : hSt := aTick (aRun t gr (aT a % 24) (aMorn np t dark a) nd)
def ALs (t : Nat → Nat) (a : hSt) : Prop := 24 * (aL a).length + t 0 ≤ aT a + 23
def dayUp (np : Nat) (t : Nat → Nat) (dark : Bool) (a : hSt) (rd : Nat → Int) : Nat → Int := if aT a % 24 = t 0 then zup rd (aL a).length (64 * nsum (por np t (dch t dark a)) np + bset (dwho t dark a) np : Nat) else rd
theorem aServe_TL {t : Nat → Nat} {d : Nat} {gr : hGr} {a : hSt} : aT (aServe t d gr a) = aT a ∧ aL (aServe t d gr a) = aL a := by
  unfold aServe
  cases aFirst t d a with
  | none => exact ⟨rfl, rfl⟩
  | some p =>
    dsimp only
    split <;> exact ⟨rfl, rfl⟩
theorem aRun_TL {t : Nat → Nat} {gr : hGr} {tm : Nat} {a : hSt} (n : Nat) : aT (aRun t gr tm a n) = aT a ∧ aL (aRun t gr tm a n) = aL a := by
  induction n with
  | zero => exact ⟨rfl, rfl⟩
  | succ n ih =>
    unfold aRun
    split
    · exact ⟨aServe_TL.1.trans ih.1, aServe_TL.2.trans ih.2⟩
    · exact ih
theorem aRun_AV {np nd nr : Nat} {t : Nat → Nat} {gr : hGr} {tm : Nat} {a : hSt} (V : HV np nd nr t) (A : AV np nd nr t a) (D : ADs np nr t a) (n : Nat) : AV np nd nr t (aRun t gr tm a n) ∧ ADs np nr t (aRun t gr tm a n) := by
  induction n with
  | zero => exact ⟨A, D⟩
  | succ n ih =>
    unfold aRun
    split
    · exact aServe_AV V ih.1 ih.2
    · exact ih
theorem aMorn_AV {np nd nr : Nat} {t : Nat → Nat} {dark : Bool} {a : hSt} (V : HV np nd nr t) (A : AV np nd nr t a) (D : ADs np nr t a) : AV np nd nr t (aMorn np t dark a) ∧ ADs np nr t (aMorn np t dark a) ∧ aT (aMorn np t dark a) = aT a := by
  unfold aMorn
  split
  · exact ⟨aDawn_AV V A, D, rfl⟩
  · exact ⟨A, D, rfl⟩
theorem aPass_T {np nd : Nat} {t : Nat → Nat} {gr : hGr} {dark : Bool} {a : hSt} : aT (aPass np nd t gr dark a) = aT a + 1 := by
  show aT (aRun _ _ _ _ _) + 1 = _
  rw [(aRun_TL nd).1]
  unfold aMorn
  split <;> rfl
theorem aPass_L {np nd : Nat} {t : Nat → Nat} {gr : hGr} {dark : Bool} {a : hSt} : aL (aPass np nd t gr dark a) = aL (aMorn np t dark a) := (aRun_TL nd).2
theorem aPass_AV {np nd nr : Nat} {t : Nat → Nat} {gr : hGr} {dark : Bool} {a : hSt} (V : HV np nd nr t) (A : AV np nd nr t a) (D : ADs np nr t a) : AV np nd nr t (aPass np nd t gr dark a) ∧ ADs np nr t (aPass np nd t gr dark a) := by
  obtain ⟨m1, m2, -⟩ := aMorn_AV (dark := dark) V A D
  obtain ⟨⟨r1, r2, r3, r4, r5⟩, r6⟩ := aRun_AV (gr := gr) (tm := aT a % 24) V m1 m2 nd
  exact ⟨⟨r1, r2, r3, r4, r5⟩, r6⟩
theorem aPass_ALs {np nd nr : Nat} {t : Nat → Nat} {gr : hGr} {dark : Bool} {a : hSt} (V : HV np nd nr t) (H : ALs t a) : ALs t (aPass np nd t gr dark a) := by
  have v2 := V.2.2.1
  unfold ALs at *
  rw [aPass_T, aPass_L]
  unfold aMorn
  split
  · have : (aL (aDawn np t dark a)).length = (aL a).length + 1 := rfl
    rw [this]; omega
  · omega
theorem XD_old {np : Nat} {t : Nat → Nat} {dark : Bool} {a : hSt} {rd : Nat → Int} {L : List (Nat × Nat)} (hl : L.length ≤ (aL a).length) (H : XD L rd) : XD L (dayUp np t dark a rd) := by
  intro i hi
  unfold dayUp
  split
  · rw [zup_ne (by omega)]; exact H i hi
  · exact H i hi
theorem XD_new {np nd : Nat} {t : Nat → Nat} {gr : hGr} {dark : Bool} {a : hSt} {rd : Nat → Int} (H : XD (aL a) rd) : XD (aL (aPass np nd t gr dark a)) (dayUp np t dark a rd) := by
  rw [aPass_L]
  unfold aMorn dayUp
  split
  · intro i hi
    have hl : (aL (aDawn np t dark a)).length = (aL a).length + 1 := rfl
    rw [hl] at hi ⊢
    cases i with
    | zero =>
      rw [zup_is (by omega)]
      rfl
    | succ i =>
      rw [zup_ne (by omega), show (aL a).length + 1 - 1 - (i + 1) = (aL a).length - 1 - i by omega]
      exact H i (by omega)
  · exact H
theorem passM {np nd nr B : Nat} {t : Nat → Nat} {a : hSt} {g : zH} (V : HV np nd nr t) (M : HM np nd nr t g) (A : AV np nd nr t a) (D : ADs np nr t a) (S : MS np B a (g 69)) (hB : B < 2000000000) {N : Nat} (hN : 200 ≤ N) {gr : hGr} (G : GM N gr g) (hT : aT a < 20000) (h0 : 0 < np) {dark : Bool} : ∃ g', fX11_pass N (dkI dark) g = some g' ∧ FM g g' ∧ MS np B (aPass np nd t gr dark a) (g' 69) := by
  have v := V.1
  have v2 := V.2.2.1
  have rest : ∀ (g1 : zH) (a1 : hSt), aT a1 = aT a → AV np nd nr t a1 → ADs np nr t a1 → FM g g1 → MS np B a1 (g1 69) → ∃ g', fX11_pass_c14 N N 0 g1 = some g' ∧ FM g g' ∧ MS np B (aTick (aRun t gr (aT a % 24) a1 nd)) (g' 69) := by
    intro g1 a1 eT A1 D1 F1 S1
    refine zloopq (F := fun k i (x : zH) => fX11_pass_c14 N k i x) (n := nd) (s := g1) (fun i x => FM g x ∧ MS np B (aRun t gr (aT a % 24) a1 i) (x 69)) (fun b => ∃ g', b = some g' ∧ FM g g' ∧ MS np B (aTick (aRun t gr (aT a % 24) a1 nd)) (g' 69)) (fun k i x hi hI => ?_) (fun k x hI => ?_) (by omega) ⟨F1, S1⟩
    · obtain ⟨i1, i2⟩ := hI
      obtain ⟨m1, m2⟩ := aRun_AV (gr := gr) (tm := aT a % 24) V A1 D1 i
      have eTi : aT (aRun t gr (aT a % 24) a1 i) = aT a := (aRun_TL i).1.trans eT
      obtain ⟨g2, e1, e2, e3⟩ := serM V (FM_HM i1 M) m1 m2 i2 hB (show 8 ≤ N by omega) (FM_GM i1 G) (by rw [eTi]; exact hT) hi
      rw [eTi] at e3
      left
      refine ⟨g2, ?_, FM_tr i1 e2, e3⟩
      show fX11_pass_c14b N (fX11_pass_c14 N k) _ _ = _
      unfold fX11_pass_c14b
      rw [(FM_HM i1 M).1.2.1, zw_id (show -2147483648 ≤ (nd : Int) ∧ (nd : Int) < 2147483648 by omega), zw_id (show -2147483648 ≤ (i : Int) ∧ (i : Int) < 2147483648 by omega), if_neg (by omega), e1, zb_some]
      rfl
    · obtain ⟨i1, i2⟩ := hI
      refine ⟨zs x 69 42 (x 69 42 + 1), ?_, FM_tr i1 (fun b b1 _ _ => zs_row_ne b1), ?_⟩
      · show fX11_pass_c14b N (fX11_pass_c14 N k) _ _ = _
        unfold fX11_pass_c14b
        rw [(FM_HM i1 M).1.2.1, if_pos (by omega)]
        rfl
      · obtain ⟨s1, s2, s3, s4, s5, s6, s7⟩ := i2
        rw [zs_zup]
        refine ⟨fun p hp => ?_, ?_, ?_, fun y hy => ?_, ?_, ?_, fun i hi => ?_⟩
        · obtain ⟨j1, j2, j3, j4, j5, j6⟩ := s1 p hp
          exact ⟨by rw [zup_ne (by omega)]; exact j1, by rw [zup_ne (by omega)]; exact j2, by rw [zup_ne (by omega)]; exact j3, by rw [zup_ne (by omega)]; exact j4, by rw [zup_ne (by omega)]; exact j5, by rw [zup_ne (by omega)]; exact j6⟩
        · rw [zup_at, s2]; rfl
        · rw [zup_ne (by omega)]; exact s3
        · have := ((aRun_AV (gr := gr) (tm := aT a % 24) V A1 D1 nd).1.2.2.1 y).mp hy
          rw [zup_ne (by omega), zup_ne (by omega)]; exact s4 y hy
        · refine List.Pairwise.imp_of_mem ?_ s5
          intro y z hy hz hyz
          have h1 := ((aRun_AV (gr := gr) (tm := aT a % 24) V A1 D1 nd).1.2.2.1 y).mp hy
          have h2 := ((aRun_AV (gr := gr) (tm := aT a % 24) V A1 D1 nd).1.2.2.1 z).mp hz
          rw [zup_ne (by omega), zup_ne (by omega)]; exact hyz
        · rw [zup_ne (by omega)]; exact s6
        · rw [zup_ne (by omega), zup_ne (by omega)]; exact s7 i hi
  unfold fX11_pass fX11_isDawn
  rw [timM S.2.1 (by omega), (M.2.1 h0).1, zw_id (show -2147483648 ≤ ((aT a % 24 : Nat) : Int) ∧ ((aT a % 24 : Nat) : Int) < 2147483648 by omega), zw_id (show -2147483648 ≤ (t 0 : Int) ∧ (t 0 : Int) < 2147483648 by omega), zq]
  unfold aPass aMorn
  by_cases hd : aT a % 24 = t 0
  · rw [if_pos (show ((aT a % 24 : Nat) : Int) = (t 0 : Int) by omega), if_pos hd]
    obtain ⟨g1, e1, e2, e3⟩ := dawM (dark := dark) V M A S hN
    rw [e1, zb_some]
    exact rest g1 (aDawn np t dark a) rfl (aDawn_AV V A) D (fun b b1 _ _ => e2 b b1) e3
  · rw [if_neg (show ¬ ((aT a % 24 : Nat) : Int) = (t 0 : Int) by omega), if_neg hd]
    exact rest g a rfl A D (fun _ _ _ _ => rfl) S
def FP7 (h h' : zH) : Prop := (∀ b, b ≠ 30 → b ≠ 31 → b ≠ 32 → b ≠ 33 → b ≠ 5 → b ≠ 26 → h' b = h b) ∧ ∀ j, j ≠ 5 → h' 5 j = h 5 j
theorem FP7_HX {np nd nr : Nat} {t : Nat → Nat} {h h' : zH} (F : FP7 h h') (X : HX np nd nr t h) : HX np nd nr t h' := HX_to X (F.1 16 (by decide) (by decide) (by decide) (by decide) (by decide) (by decide)) (F.1 17 (by decide) (by decide) (by decide) (by decide) (by decide) (by decide)) (F.1 18 (by decide) (by decide) (by decide) (by decide) (by decide) (by decide))
theorem FP7_GX {N : Nat} {gr : hGr} {h h' : zH} (F : FP7 h h') (G : GX N 32 gr h) : GX N 32 gr h' := GX_to G F.2 (F.1 24 (by decide) (by decide) (by decide) (by decide) (by decide) (by decide)) (F.1 25 (by decide) (by decide) (by decide) (by decide) (by decide) (by decide))
theorem FP7_tr {h h' h'' : zH} (F : FP7 h h') (G : FP7 h' h'') : FP7 h h'' := ⟨fun b b1 b2 b3 b4 b5 b6 => (G.1 b b1 b2 b3 b4 b5 b6).trans (F.1 b b1 b2 b3 b4 b5 b6), fun j hj => (G.2 j hj).trans (F.2 j hj)⟩
theorem passX7 {np nd nr : Nat} {t : Nat → Nat} {a : hSt} {h : zH} (V : HV np nd nr t) (X : HX np nd nr t h) (A : AV np nd nr t a) (D : ADs np nr t a) (S : XS np t a (h 30)) {N : Nat} (hN : 8 ≤ N) {gr : hGr} (G : GX N 32 gr h) (hT : aT a < 20000) (hL : (aL a).length < 420) (h0 : 0 < np) {dark : Bool} : ∃ h', fX8_pass N 7 2 (dkI dark) h = some h' ∧ FP7 h h' ∧ h' 31 = dayUp np t dark a (h 31) ∧ XS np t (aPass np nd t gr dark a) (h' 30) := by
  have v := V.1
  have v2 := V.2.2.1
  have rest : ∀ (h1 : zH) (a1 : hSt), aT a1 = aT a → AV np nd nr t a1 → ADs np nr t a1 → FP7 h h1 → XS np t a1 (h1 30) → ∃ h', fX8_pass_c27 N 7 2 N ((aT a % 24 : Nat) : Int) 0 h1 = some h' ∧ FP7 h h' ∧ h' 31 = h1 31 ∧ XS np t (aTick (aRun t gr (aT a % 24) a1 nd)) (h' 30) := by
    intro h1 a1 eT A1 D1 F1 S1
    refine zloopq (F := fun k i (x : zH) => fX8_pass_c27 N 7 2 k ((aT a % 24 : Nat) : Int) i x) (n := nd) (s := h1) (fun i x => FP7 h x ∧ x 31 = h1 31 ∧ XS np t (aRun t gr (aT a % 24) a1 i) (x 30)) (fun b => ∃ h', b = some h' ∧ FP7 h h' ∧ h' 31 = h1 31 ∧ XS np t (aTick (aRun t gr (aT a % 24) a1 nd)) (h' 30)) (fun k i x hi hI => ?_) (fun k x hI => ?_) (by omega) ⟨F1, rfl, S1⟩
    · obtain ⟨i1, i0, i2⟩ := hI
      obtain ⟨m1, m2⟩ := aRun_AV (gr := gr) (tm := aT a % 24) V A1 D1 i
      have eTi : aT (aRun t gr (aT a % 24) a1 i) = aT a := (aRun_TL i).1.trans eT
      have Xx := FP7_HX i1 X
      left
      have e : fX8_pass_c27 N 7 2 (k + 1) ((aT a % 24 : Nat) : Int) (i : Int) x = if t (64 + 4 * i) ≤ aT a % 24 ∧ aT a % 24 < t (65 + 4 * i) then zb (fX8_serve N 7 2 (i : Int) x) (fun h4 => fX8_pass_c27 N 7 2 k ((aT a % 24 : Nat) : Int) ((i + 1 : Nat) : Int) h4) else fX8_pass_c27 N 7 2 k ((aT a % 24 : Nat) : Int) ((i + 1 : Nat) : Int) x := by
        show fX8_pass_c27b N 7 2 (fX8_pass_c27 N 7 2 k) _ _ _ = _
        unfold fX8_pass_c27b
        rw [xm2 Xx, zw_id (show -2147483648 ≤ (nd : Int) ∧ (nd : Int) < 2147483648 by omega), zw_id (show -2147483648 ≤ (i : Int) ∧ (i : Int) < 2147483648 by omega), if_neg (by omega), opnX V Xx hi (by omega), zq]
        rfl
      have er : aRun t gr (aT a % 24) a1 (i + 1) = if t (64 + 4 * i) ≤ aT a % 24 ∧ aT a % 24 < t (65 + 4 * i) then aServe t i gr (aRun t gr (aT a % 24) a1 i) else aRun t gr (aT a % 24) a1 i := rfl
      by_cases ho : t (64 + 4 * i) ≤ aT a % 24 ∧ aT a % 24 < t (65 + 4 * i)
      · rw [if_pos ho] at e er
        obtain ⟨h2, e1, e2, e3⟩ := serX7 V Xx m1 m2 i2 hN (FP7_GX i1 G) (by rw [eTi]; exact hT) hi
        rw [e1, zb_some] at e
        refine ⟨h2, e, FP7_tr i1 ⟨fun b b1 b2 b3 b4 b5 b6 => e2.1 b b1 b3 b5 b6, e2.2⟩, (e2.1 31 (by decide) (by decide) (by decide) (by decide)).trans i0, ?_⟩
        rw [er]; exact e3
      · rw [if_neg ho] at e er
        refine ⟨x, e, i1, i0, ?_⟩
        rw [er]; exact i2
    · obtain ⟨i1, i0, i2⟩ := hI
      have Xx := FP7_HX i1 X
      refine ⟨zs x 30 48 (x 30 48 + 1), ?_, FP7_tr i1 ⟨fun b b1 _ _ _ _ _ => zs_row_ne b1, fun j _ => by rw [zs_row_ne (by decide)]⟩, by rw [zs_row_ne (by decide)]; exact i0, ?_⟩
      · show fX8_pass_c27b N 7 2 (fX8_pass_c27 N 7 2 k) _ _ _ = _
        unfold fX8_pass_c27b
        rw [xm2 Xx, if_pos (by omega), zf70]
        rfl
      · obtain ⟨s1, s2, s3, s4, s5⟩ := i2
        have hl := aQ_len (aRun_AV (gr := gr) (tm := aT a % 24) V A1 D1 nd).1
        rw [zs_zup]
        refine ⟨fun p hp => ?_, ?_, ?_, fun i hi => ?_, ?_⟩
        · obtain ⟨j1, j2, j3, j4, j5, j6, j7⟩ := s1 p hp
          exact ⟨by rw [zup_ne (by omega)]; exact j1, by rw [zup_ne (by omega)]; exact j2, by rw [zup_ne (by omega)]; exact j3, by rw [zup_ne (by omega)]; exact j4, by rw [zup_ne (by omega)]; exact j5, by rw [zup_ne (by omega)]; exact j6, by rw [zup_ne (by omega)]; exact j7⟩
        · rw [zup_at, s2]; rfl
        · rw [zup_ne (by omega)]; exact s3
        · rw [zup_ne (by have : i < (aQ (aRun t gr (aT a % 24) a1 nd)).length := hi; omega)]; exact s4 i hi
        · rw [zup_ne (by omega)]; exact s5
  unfold fX8_pass
  rw [timX7 S.2.1 (by omega), zlet_v, xis0 X h0, zw_id (show -2147483648 ≤ ((aT a % 24 : Nat) : Int) ∧ ((aT a % 24 : Nat) : Int) < 2147483648 by omega), zw_id (show -2147483648 ≤ (t 0 : Int) ∧ (t 0 : Int) < 2147483648 by omega)]
  unfold aPass aMorn dayUp
  by_cases hd : aT a % 24 = t 0
  · rw [if_pos (show ((aT a % 24 : Nat) : Int) = (t 0 : Int) by omega), if_pos hd, if_pos hd]
    obtain ⟨h1, e1, e2, e3, e4⟩ := dawX7 (dark := dark) V X A S hL hN
    rw [e1, zb_some]
    obtain ⟨h', r1, r2, r3, r4⟩ := rest h1 (aDawn np t dark a) rfl (aDawn_AV V A) D ⟨fun b b1 b2 b3 b4 b5 b6 => e2 b b1 b2 b4, fun j _ => congrFun (e2 5 (by decide) (by decide) (by decide)) j⟩ e4
    exact ⟨h', r1, r2, r3.trans e3, r4⟩
  · rw [if_neg (show ¬ ((aT a % 24 : Nat) : Int) = (t 0 : Int) by omega), if_neg hd, if_neg hd]
    exact rest h a rfl A D ⟨fun _ _ _ _ _ _ _ => rfl, fun _ _ => rfl⟩ S
def FP8 (h h' : zH) : Prop := (∀ b, b ≠ 34 → b ≠ 35 → b ≠ 36 → b ≠ 37 → b ≠ 5 → b ≠ 26 → h' b = h b) ∧ ∀ j, j ≠ 5 → h' 5 j = h 5 j
theorem FP8_HX {np nd nr : Nat} {t : Nat → Nat} {h h' : zH} (F : FP8 h h') (X : HX np nd nr t h) : HX np nd nr t h' := HX_to X (F.1 16 (by decide) (by decide) (by decide) (by decide) (by decide) (by decide)) (F.1 17 (by decide) (by decide) (by decide) (by decide) (by decide) (by decide)) (F.1 18 (by decide) (by decide) (by decide) (by decide) (by decide) (by decide))
theorem FP8_GX {N : Nat} {gr : hGr} {h h' : zH} (F : FP8 h h') (G : GX N 36 gr h) : GX N 36 gr h' := GX_to G F.2 (F.1 24 (by decide) (by decide) (by decide) (by decide) (by decide) (by decide)) (F.1 25 (by decide) (by decide) (by decide) (by decide) (by decide) (by decide))
theorem FP8_tr {h h' h'' : zH} (F : FP8 h h') (G : FP8 h' h'') : FP8 h h'' := ⟨fun b b1 b2 b3 b4 b5 b6 => (G.1 b b1 b2 b3 b4 b5 b6).trans (F.1 b b1 b2 b3 b4 b5 b6), fun j hj => (G.2 j hj).trans (F.2 j hj)⟩
theorem passX8 {np nd nr : Nat} {t : Nat → Nat} {a : hSt} {h : zH} (V : HV np nd nr t) (X : HX np nd nr t h) (A : AV np nd nr t a) (D : ADs np nr t a) (S : XS np t a (h 34)) {N : Nat} (hN : 8 ≤ N) {gr : hGr} (G : GX N 36 gr h) (hT : aT a < 20000) (hL : (aL a).length < 100000) (h0 : 0 < np) {dark : Bool} : ∃ h', fX8_pass N 8 2 (dkI dark) h = some h' ∧ FP8 h h' ∧ h' 35 = h 35 ∧ XS np t (aPass np nd t gr dark a) (h' 34) := by
  have v := V.1
  have v2 := V.2.2.1
  have rest : ∀ (h1 : zH) (a1 : hSt), aT a1 = aT a → AV np nd nr t a1 → ADs np nr t a1 → FP8 h h1 → XS np t a1 (h1 34) → ∃ h', fX8_pass_c27 N 8 2 N ((aT a % 24 : Nat) : Int) 0 h1 = some h' ∧ FP8 h h' ∧ h' 35 = h1 35 ∧ XS np t (aTick (aRun t gr (aT a % 24) a1 nd)) (h' 34) := by
    intro h1 a1 eT A1 D1 F1 S1
    refine zloopq (F := fun k i (x : zH) => fX8_pass_c27 N 8 2 k ((aT a % 24 : Nat) : Int) i x) (n := nd) (s := h1) (fun i x => FP8 h x ∧ x 35 = h1 35 ∧ XS np t (aRun t gr (aT a % 24) a1 i) (x 34)) (fun b => ∃ h', b = some h' ∧ FP8 h h' ∧ h' 35 = h1 35 ∧ XS np t (aTick (aRun t gr (aT a % 24) a1 nd)) (h' 34)) (fun k i x hi hI => ?_) (fun k x hI => ?_) (by omega) ⟨F1, rfl, S1⟩
    · obtain ⟨i1, i0, i2⟩ := hI
      obtain ⟨m1, m2⟩ := aRun_AV (gr := gr) (tm := aT a % 24) V A1 D1 i
      have eTi : aT (aRun t gr (aT a % 24) a1 i) = aT a := (aRun_TL i).1.trans eT
      have Xx := FP8_HX i1 X
      left
      have e : fX8_pass_c27 N 8 2 (k + 1) ((aT a % 24 : Nat) : Int) (i : Int) x = if t (64 + 4 * i) ≤ aT a % 24 ∧ aT a % 24 < t (65 + 4 * i) then zb (fX8_serve N 8 2 (i : Int) x) (fun h4 => fX8_pass_c27 N 8 2 k ((aT a % 24 : Nat) : Int) ((i + 1 : Nat) : Int) h4) else fX8_pass_c27 N 8 2 k ((aT a % 24 : Nat) : Int) ((i + 1 : Nat) : Int) x := by
        show fX8_pass_c27b N 8 2 (fX8_pass_c27 N 8 2 k) _ _ _ = _
        unfold fX8_pass_c27b
        rw [xm2 Xx, zw_id (show -2147483648 ≤ (nd : Int) ∧ (nd : Int) < 2147483648 by omega), zw_id (show -2147483648 ≤ (i : Int) ∧ (i : Int) < 2147483648 by omega), if_neg (by omega), opnX V Xx hi (by omega), zq]
        rfl
      have er : aRun t gr (aT a % 24) a1 (i + 1) = if t (64 + 4 * i) ≤ aT a % 24 ∧ aT a % 24 < t (65 + 4 * i) then aServe t i gr (aRun t gr (aT a % 24) a1 i) else aRun t gr (aT a % 24) a1 i := rfl
      by_cases ho : t (64 + 4 * i) ≤ aT a % 24 ∧ aT a % 24 < t (65 + 4 * i)
      · rw [if_pos ho] at e er
        obtain ⟨h2, e1, e2, e3⟩ := serX8 V Xx m1 m2 i2 hN (FP8_GX i1 G) (by rw [eTi]; exact hT) hi
        rw [e1, zb_some] at e
        refine ⟨h2, e, FP8_tr i1 ⟨fun b b1 b2 b3 b4 b5 b6 => e2.1 b b1 b3 b5 b6, e2.2⟩, (e2.1 35 (by decide) (by decide) (by decide) (by decide)).trans i0, ?_⟩
        rw [er]; exact e3
      · rw [if_neg ho] at e er
        refine ⟨x, e, i1, i0, ?_⟩
        rw [er]; exact i2
    · obtain ⟨i1, i0, i2⟩ := hI
      have Xx := FP8_HX i1 X
      refine ⟨zs x 34 48 (x 34 48 + 1), ?_, FP8_tr i1 ⟨fun b b1 _ _ _ _ _ => zs_row_ne b1, fun j _ => by rw [zs_row_ne (by decide)]⟩, by rw [zs_row_ne (by decide)]; exact i0, ?_⟩
      · show fX8_pass_c27b N 8 2 (fX8_pass_c27 N 8 2 k) _ _ _ = _
        unfold fX8_pass_c27b
        rw [xm2 Xx, if_pos (by omega), zf80]
        rfl
      · obtain ⟨s1, s2, s3, s4, s5⟩ := i2
        have hl := aQ_len (aRun_AV (gr := gr) (tm := aT a % 24) V A1 D1 nd).1
        rw [zs_zup]
        refine ⟨fun p hp => ?_, ?_, ?_, fun i hi => ?_, ?_⟩
        · obtain ⟨j1, j2, j3, j4, j5, j6, j7⟩ := s1 p hp
          exact ⟨by rw [zup_ne (by omega)]; exact j1, by rw [zup_ne (by omega)]; exact j2, by rw [zup_ne (by omega)]; exact j3, by rw [zup_ne (by omega)]; exact j4, by rw [zup_ne (by omega)]; exact j5, by rw [zup_ne (by omega)]; exact j6, by rw [zup_ne (by omega)]; exact j7⟩
        · rw [zup_at, s2]; rfl
        · rw [zup_ne (by omega)]; exact s3
        · rw [zup_ne (by have : i < (aQ (aRun t gr (aT a % 24) a1 nd)).length := hi; omega)]; exact s4 i hi
        · rw [zup_ne (by omega)]; exact s5
  unfold fX8_pass
  rw [timX8 S.2.1 (by omega), zlet_v, xis0 X h0, zw_id (show -2147483648 ≤ ((aT a % 24 : Nat) : Int) ∧ ((aT a % 24 : Nat) : Int) < 2147483648 by omega), zw_id (show -2147483648 ≤ (t 0 : Int) ∧ (t 0 : Int) < 2147483648 by omega)]
  unfold aPass aMorn
  by_cases hd : aT a % 24 = t 0
  · rw [if_pos (show ((aT a % 24 : Nat) : Int) = (t 0 : Int) by omega), if_pos hd]
    obtain ⟨h1, e1, e2, e3, e4⟩ := dawX8 (dark := dark) V X A S hL hN
    rw [e1, zb_some]
    obtain ⟨h', r1, r2, r3, r4⟩ := rest h1 (aDawn np t dark a) rfl (aDawn_AV V A) D ⟨fun b b1 b2 b3 b4 b5 b6 => e2 b b1 b2 b4, fun j _ => congrFun (e2 5 (by decide) (by decide) (by decide)) j⟩ e4
    exact ⟨h', r1, r2, r3.trans e3, r4⟩
  · rw [if_neg (show ¬ ((aT a % 24 : Nat) : Int) = (t 0 : Int) by omega), if_neg hd]
    exact rest h a rfl A D ⟨fun _ _ _ _ _ _ _ => rfl, fun _ _ => rfl⟩ S
