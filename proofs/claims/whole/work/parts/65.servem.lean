/-! a desk's hour, of the reference -/
def FM (g g' : zH) : Prop := ∀ b, b ≠ 69 → b ≠ 57 → b ≠ 58 → g' b = g b
theorem FM_HM {np nd nr : Nat} {t : Nat → Nat} {g g' : zH} (F : FM g g') (M : HM np nd nr t g) : HM np nd nr t g' := HM_to M (by rw [F 14 (by decide) (by decide) (by decide)]; exact ⟨rfl, rfl, rfl⟩) (F 63 (by decide) (by decide) (by decide)) (F 64 (by decide) (by decide) (by decide)) (F 65 (by decide) (by decide) (by decide)) (F 66 (by decide) (by decide) (by decide))
/-- the reference's RULE: what it grants -/
def GM (N : Nat) (gr : hGr) (g : zH) : Prop := (zw (g 14 35) = -1 ∧ ∀ a b c d e f g, gr a b c d e f g = true) ∨ (zw (g 14 35) ≠ -1 ∧ ∀ (g' : zH) (l : Nat → Nat), g' 50 = g 50 → g' 51 = g 51 → g' 52 = g 52 → g' 53 = g 53 → g' 54 = g 54 → g' 55 = g 55 → g' 56 = g 56 → (∀ j, j < 7 → g' 57 j = l j ∧ l j < 1000) → ∃ v g'', fX11_worthOf N (g 14 35) g' = some (v, g'') ∧ (0 < zw v ↔ gr (l 0) (l 1) (l 2) (l 3) (l 4) (l 5) (l 6) = true) ∧ (∀ b, b ≠ 58 → g'' b = g' b))
theorem GM_to {N : Nat} {gr : hGr} {h g : zH} (G : GM N gr h) (e : g 14 35 = h 14 35) (e0 : g 50 = h 50) (e1 : g 51 = h 51) (e2 : g 52 = h 52) (e3 : g 53 = h 53) (e4 : g 54 = h 54) (e5 : g 55 = h 55) (e6 : g 56 = h 56) : GM N gr g := by
  unfold GM at *
  rw [e, e0, e1, e2, e3, e4, e5, e6]
  exact G
theorem FM_GM {N : Nat} {gr : hGr} {g g' : zH} (F : FM g g') (G : GM N gr g) : GM N gr g' := GM_to G (by rw [F 14 (by decide) (by decide) (by decide)]) (F 50 (by decide) (by decide) (by decide)) (F 51 (by decide) (by decide) (by decide)) (F 52 (by decide) (by decide) (by decide)) (F 53 (by decide) (by decide) (by decide)) (F 54 (by decide) (by decide) (by decide)) (F 55 (by decide) (by decide) (by decide)) (F 56 (by decide) (by decide) (by decide))
theorem FM_tr {g g' g'' : zH} (F : FM g g') (G : FM g' g'') : FM g g'' := fun b b1 b2 b3 => (G b b1 b2 b3).trans (F b b1 b2 b3)
theorem timM {g : zH} {T : Nat} (e : g 69 42 = (T : Int)) (hT : T < 100000) : fX11_time g = ((T % 24 : Nat) : Int) := by
  unfold fX11_time
  rw [e, zrem_pos (by omega) (by omega) (by decide) (by decide)]
  rfl
theorem opnM {np nd nr : Nat} {t : Nat → Nat} {g : zH} (V : HV np nd nr t) (M : HM np nd nr t g) {d : Nat} (hd : d < nd) {T : Nat} (hT : T < 100) : fX11_isOpen (d : Int) (T : Int) g = some (if t (64 + 4 * d) ≤ T ∧ T < t (65 + 4 * d) then 1 else 0) := by
  have v := V.1
  have vd := V.2.2.2.2.1 d hd
  have e1 : g 65 (4 * d) = t (64 + 4 * d) := M.2.2.2.1 d 0 hd (by decide)
  have e2 : g 65 (4 * d + 1) = t (65 + 4 * d) := (M.2.2.2.1 d 1 hd (by decide)).trans (by rw [show 64 + 4 * d + 1 = 65 + 4 * d by omega])
  unfold fX11_isOpen
  rw [show (4 * (d : Int)) + 0 = ((4 * d : Nat) : Int) by omega, show (4 * (d : Int)) + 1 = ((4 * d + 1 : Nat) : Int) by omega, zw_id (show -2147483648 ≤ ((4 * d : Nat) : Int) ∧ ((4 * d : Nat) : Int) < 2147483648 by omega), zw_id (show -2147483648 ≤ ((4 * d + 1 : Nat) : Int) ∧ ((4 * d + 1 : Nat) : Int) < 2147483648 by omega), if_pos (by omega), Int.toNat_natCast, Int.toNat_natCast, e1, e2, zw_id (show -2147483648 ≤ (T : Int) ∧ (T : Int) < 2147483648 by omega), zw_id (show -2147483648 ≤ (t (64 + 4 * d) : Int) ∧ (t (64 + 4 * d) : Int) < 2147483648 by omega), zw_id (show -2147483648 ≤ (t (65 + 4 * d) : Int) ∧ (t (65 + 4 * d) : Int) < 2147483648 by omega)]
  by_cases h1 : T < t (64 + 4 * d)
  · rw [if_pos (by omega), if_neg (by omega)]
  · rw [if_neg (by omega), if_pos (by omega)]
    by_cases h2 : t (65 + 4 * d) ≤ T
    · rw [if_pos (by omega), if_neg (by omega)]
    · rw [if_neg (by omega), if_pos (by omega)]
theorem opnX {np nd nr : Nat} {t : Nat → Nat} {h : zH} (V : HV np nd nr t) (X : HX np nd nr t h) {d : Nat} (hd : d < nd) {T : Nat} (hT : T < 100) : fX1_isOpen 2 (d : Int) (T : Int) h = if t (64 + 4 * d) ≤ T ∧ T < t (65 + 4 * d) then 1 else 0 := by
  have v := V.1
  have vd := V.2.2.2.2.1 d hd
  unfold fX1_isOpen
  rw [xi20 V X hd, xi21 V X hd, zw_id (show -2147483648 ≤ (T : Int) ∧ (T : Int) < 2147483648 by omega), zw_id (show -2147483648 ≤ (t (64 + 4 * d) : Int) ∧ (t (64 + 4 * d) : Int) < 2147483648 by omega), zw_id (show -2147483648 ≤ (t (65 + 4 * d) : Int) ∧ (t (65 + 4 * d) : Int) < 2147483648 by omega)]
  by_cases h1 : T < t (64 + 4 * d)
  · rw [if_pos (by omega), if_neg (by omega)]
  · rw [if_neg (by omega)]
    by_cases h2 : t (65 + 4 * d) ≤ T
    · rw [if_pos (by omega), if_neg (by omega)]
    · rw [if_neg (by omega), if_pos (by omega)]
/-- one field of one parish is set -/
theorem MS_set {np B : Nat} {a b : hSt} {m : Nat → Int} (S : MS np B a m) {j : Nat} {x : Int} (hj : j < 42) (hj2 : ∀ q, j ≠ 7 * q + 2) (eT : aT b = aT a) (eQ : aQ b = aQ a) (eL : aL b = aL a) (hp : ∀ p, p < np → zup m j x (7 * p) = aH b p ∧ zup m j x (7 * p + 1) = aW b p ∧ zup m j x (7 * p + 3) = aD b p ∧ zup m j x (7 * p + 4) = aS b p ∧ zup m j x (7 * p + 5) = aP b p ∧ zup m j x (7 * p + 6) = aR b p) : MS np B b (zup m j x) := by
  obtain ⟨s1, s2, s3, s4, s5, s6, s7⟩ := S
  refine ⟨hp, ?_, ?_, fun y hy => ?_, ?_, ?_, ?_⟩
  · rw [zup_ne (by omega), eT]; exact s2
  · rw [zup_ne (by omega)]; exact s3
  · rw [zup_ne (fun e => hj2 y e.symm), zup_ne (by omega)]
    exact s4 y (by rw [← eQ]; exact hy)
  · rw [eQ]
    refine List.Pairwise.imp ?_ s5
    intro y z hyz
    rw [zup_ne (fun e => hj2 y e.symm), zup_ne (fun e => hj2 z e.symm)]
    exact hyz
  · rw [zup_ne (by omega), eL]; exact s6
  · rw [eL]
    intro i hi
    rw [zup_ne (by omega), zup_ne (by omega)]
    exact s7 i hi
theorem graM {np nd nr B : Nat} {t : Nat → Nat} {a : hSt} {g : zH} (V : HV np nd nr t) (M : HM np nd nr t g) (S : MS np B a (g 69)) {N : Nat} {gr : hGr} (G : GM N gr g) (hT : aT a < 20000) {p r b : Nat} (hp : p < np) (hr : r < nr) (hH : aH a p < 256) (hb : b ≤ 6) : ∃ g', fX11_isGranted N (p : Int) (r : Int) (b : Int) g = some (if gr (aT a % 24) (aT a / 24) b (pcn (aH a p)) p r (t (34 + 4 * p)) = true then 1 else 0, g') ∧ (∀ b, b ≠ 57 → b ≠ 58 → g' b = g b) := by
  have v := V.1
  have hz := (V.2.2.2.1 p hp).2.2
  obtain ⟨c1, c2⟩ := pcn_e _ hH
  obtain ⟨s1, s2, s3, s4, s5, s6, s7⟩ := S
  unfold fX11_isGranted
  rw [zw_m1]
  rcases G with ⟨G1, G2⟩ | ⟨G1, G2⟩
  · rw [if_pos G1, G2, if_pos rfl]
    exact ⟨g, rfl, fun _ _ _ => rfl⟩
  · rw [if_neg G1]
    simp only [zlet_v]
    rw [timM s2 (by omega), zs_row_ne (show 69 ≠ 57 by decide), s2, zdiv_pos (show (0 : Int) ≤ (aT a : Int) by omega) (by omega) (by decide) (by decide), om_0 (show p < 6 by omega)]
    simp only [zb_some]
    rw [zs_row_ne (show 69 ≠ 57 by decide), zs_row_ne (show 69 ≠ 57 by decide), zs_row_ne (show 69 ≠ 57 by decide), (s1 p hp).1, c1, show (3 * (p : Int)) + 2 = ((3 * p + 2 : Nat) : Int) by omega, zw_id (show -2147483648 ≤ ((3 * p + 2 : Nat) : Int) ∧ ((3 * p + 2 : Nat) : Int) < 2147483648 by omega), if_pos (by omega), Int.toNat_natCast]
    simp only [zs_row_ne (show 64 ≠ 57 by decide), zs_row_ne (show 14 ≠ 57 by decide)]
    have ez : g 64 (3 * p + 2) = t (34 + 4 * p) := (M.2.2.1 p 2 hp (by decide)).trans (by rw [show 32 + 4 * p + 2 = 34 + 4 * p by omega])
    rw [ez]
    obtain ⟨w, g2, w1, w2, w3⟩ := G2 (zs (zs (zs (zs (zs (zs (zs g 57 0 ((aT a % 24 : Nat) : Int)) 57 1 ((aT a : Int) / 24)) 57 2 (b : Int)) 57 3 (pcn (aH a p) : Int)) 57 4 (p : Int)) 57 5 (r : Int)) 57 6 (t (34 + 4 * p) : Int)) (fun j => if j = 0 then aT a % 24 else if j = 1 then aT a / 24 else if j = 2 then b else if j = 3 then pcn (aH a p) else if j = 4 then p else if j = 5 then r else t (34 + 4 * p)) (by simp only [zs_row_ne (show 50 ≠ 57 by decide)]) (by simp only [zs_row_ne (show 51 ≠ 57 by decide)]) (by simp only [zs_row_ne (show 52 ≠ 57 by decide)]) (by simp only [zs_row_ne (show 53 ≠ 57 by decide)]) (by simp only [zs_row_ne (show 54 ≠ 57 by decide)]) (by simp only [zs_row_ne (show 55 ≠ 57 by decide)]) (by simp only [zs_row_ne (show 56 ≠ 57 by decide)]) (fun j hj => ⟨by
      simp only [zs_zup]
      have : j = 0 ∨ j = 1 ∨ j = 2 ∨ j = 3 ∨ j = 4 ∨ j = 5 ∨ j = 6 := by omega
      rcases this with rfl | rfl | rfl | rfl | rfl | rfl | rfl <;> rfl, by
      have h24 : aT a / 24 < 1000 := by omega
      have hm : aT a % 24 < 1000 := by omega
      (repeat' split) <;> omega⟩)
    have w2' : 0 < zw w ↔ gr (aT a % 24) (aT a / 24) b (pcn (aH a p)) p r (t (34 + 4 * p)) = true := w2
    rw [w1, z2_some]
    refine ⟨g2, ?_, fun c c1 c2 => by rw [w3 c c2]; simp only [zs_row_ne c1]⟩
    by_cases hg : gr (aT a % 24) (aT a / 24) b (pcn (aH a p)) p r (t (34 + 4 * p)) = true
    · have := w2'.mpr hg
      rw [if_pos hg, if_neg (by omega)]
    · have : ¬ 0 < zw w := fun x => hg (w2'.mp x)
      rw [if_neg hg, if_pos (by omega)]
theorem serM {np nd nr B : Nat} {t : Nat → Nat} {a : hSt} {g : zH} (V : HV np nd nr t) (M : HM np nd nr t g) (A : AV np nd nr t a) (D : ADs np nr t a) (S : MS np B a (g 69)) (hB : B < 2000000000) {N : Nat} (hN : 8 ≤ N) {gr : hGr} (G : GM N gr g) (hT : aT a < 20000) {d : Nat} (hd : d < nd) : ∃ g', fX11_serve N (d : Int) g = some g' ∧ FM g g' ∧ MS np B (if t (64 + 4 * d) ≤ aT a % 24 ∧ aT a % 24 < t (65 + 4 * d) then aServe t d gr a else a) (g' 69) := by
  have v := V.1
  have vd := V.2.2.2.2.1 d hd
  have FMr : FM g g := fun _ _ _ _ => rfl
  unfold fX11_serve
  rw [timM S.2.1 (by omega), opnM V M hd (by omega), zb_some, zq]
  have stop : ∀ g : zH, fX11_serve_c21 N (d : Int) (-1) g = some g := fun g => if_pos rfl
  by_cases ho : t (64 + 4 * d) ≤ aT a % 24 ∧ aT a % 24 < t (65 + 4 * d)
  · rw [if_pos ho, if_pos ho, firM V M A S hB hN (by omega), zb_some]
    unfold aServe
    cases hf : aFirst t d a with
    | none => exact ⟨g, stop g, FMr, S⟩
    | some p =>
      obtain ⟨hp, r, hr, hw, hd2⟩ := aFirst_e A hf
      have hD := D p r hp hr hw
      rw [hd2] at hD
      rw [show oI (some p) = (p : Int) from rfl]
      dsimp only
      obtain ⟨p1, p2, p3, p4, p5, p6⟩ := S.1 p hp
      have SD : MS np B (aDone p a) (zs g 69 (7 * p + 3) ((aD a p : Int) + 1) 69) := by
        rw [zs_zup]
        refine MS_set S (by omega) (fun q => by omega) rfl rfl rfl (fun q hq => ?_)
        obtain ⟨j1, j2, j3, j4, j5, j6⟩ := S.1 q hq
        have e1 : aD (aDone p a) q = if q = p then aD a p + 1 else aD a q := rfl
        rw [e1]
        refine ⟨by simp (disch := omega) only [zup_ne]; exact j1, by simp (disch := omega) only [zup_ne]; exact j2, ?_, by simp (disch := omega) only [zup_ne]; exact j4, by simp (disch := omega) only [zup_ne]; exact j5, by simp (disch := omega) only [zup_ne]; exact j6⟩
        by_cases hqp : q = p
        · subst hqp
          rw [if_pos rfl, zup_at]; rfl
        · rw [if_neg hqp, zup_ne (by omega)]; exact j3
      have F1 : FM g (zs g 69 (7 * p + 3) ((aD a p : Int) + 1)) := fun b b1 _ _ => zs_row_ne b1
      have M1 := FM_HM F1 M
      have e65 : g 65 (4 * d + 2) = t (66 + 4 * d) := (M.2.2.2.1 d 2 hd (by decide)).trans (by rw [show 64 + 4 * d + 2 = 66 + 4 * d by omega])
      have e653 : g 65 (4 * d + 3) = t (67 + 4 * d) := (M.2.2.2.1 d 3 hd (by decide)).trans (by rw [show 64 + 4 * d + 3 = 67 + 4 * d by omega])
      unfold fX11_serve_c21
      rw [zw_id (show -2147483648 ≤ (p : Int) ∧ (p : Int) < 2147483648 by omega), zw_m1, if_neg (by omega), om_3 (by omega), zb_some, p3, pm_3 (by omega), zb_some, om_3 (by omega), zb_some, zs_at, show (4 * (d : Int)) + 2 = ((4 * d + 2 : Nat) : Int) by omega, zw_id (show -2147483648 ≤ ((4 * d + 2 : Nat) : Int) ∧ ((4 * d + 2 : Nat) : Int) < 2147483648 by omega), if_pos (by omega), Int.toNat_natCast, zs_row_ne (show 65 ≠ 69 by decide), e65, zw_id (show -2147483648 ≤ (aD a p : Int) + 1 ∧ (aD a p : Int) + 1 < 2147483648 by omega), zw_id (show -2147483648 ≤ (t (66 + 4 * d) : Int) ∧ (t (66 + 4 * d) : Int) < 2147483648 by omega)]
      by_cases hc : aD a p + 1 < t (66 + 4 * d)
      · rw [if_neg (by omega), if_pos hc]
        exact ⟨_, rfl, F1, SD⟩
      · have AD := aDone_AV A D (p := p) (by omega)
        rw [if_pos (by omega), if_neg hc, om_1 (by omega), zb_some, zs_ne (by omega), p2, hw, bakM V M1 AD SD hN (by omega), zb_some]
        obtain ⟨g2, o1, o2, o3⟩ := goM V SD hp
        rw [aLeave_done] at o3
        have F2 : FM g g2 := FM_tr F1 (fun b b1 _ _ => o2 b b1)
        obtain ⟨k1, -⟩ := id o3
        obtain ⟨q1, q2, q3, q4, q5, q6⟩ := k1 p hp
        rw [o1, zb_some, om_5 (by omega), zb_some, q5, show (4 * (d : Int)) + 3 = ((4 * d + 3 : Nat) : Int) by omega, zw_id (show -2147483648 ≤ ((4 * d + 3 : Nat) : Int) ∧ ((4 * d + 3 : Nat) : Int) < 2147483648 by omega), if_pos (by omega), Int.toNat_natCast, F2 65 (by decide) (by decide) (by decide), e653, pm_5 (by omega), zb_some]
        have aPl : aP (aLeave p a) p = aP a p := rfl
        rw [aPl]
        -- the state with the fee paid
        have S3 : MS np B (aH a, aW (aLeave p a), aD (aLeave p a), aS a, (fun q => if q = p then aP a q + (t (67 + 4 * d) : Int) else aP a q), aR a, aQ (aLeave p a), aT a, aL a) (zs g2 69 (7 * p + 5) (aP a p + (t (67 + 4 * d) : Int)) 69) := by
          rw [zs_zup]
          refine MS_set o3 (by omega) (fun q => by omega) rfl rfl rfl (fun q hq => ?_)
          obtain ⟨j1, j2, j3, j4, j5, j6⟩ := k1 q hq
          refine ⟨by simp (disch := omega) only [zup_ne]; exact j1, by simp (disch := omega) only [zup_ne]; exact j2, by simp (disch := omega) only [zup_ne]; exact j3, by simp (disch := omega) only [zup_ne]; exact j4, ?_, by simp (disch := omega) only [zup_ne]; exact j6⟩
          show zup _ _ _ _ = if q = p then aP a q + (t (67 + 4 * d) : Int) else aP a q
          by_cases hqp : q = p
          · subst hqp
            rw [if_pos rfl, zup_at]
          · rw [if_neg hqp, zup_ne (by omega)]; exact j5
        have F3 : FM g (zs g2 69 (7 * p + 5) (aP a p + (t (67 + 4 * d) : Int))) := FM_tr F2 (fun b b1 _ _ => zs_row_ne b1)
        have hbk := aBack_le (d := d) A
        obtain ⟨g4, u1, u2⟩ := graM V (FM_HM F3 M) S3 (FM_GM F3 G) hT hp hr (A.1 p hp).1 (b := aBack t d a) (by omega)
        have u1' : fX11_isGranted N (p : Int) (r : Int) (aBack t d (aDone p a) : Int) (zs g2 69 (7 * p + 5) (aP a p + (t (67 + 4 * d) : Int))) = some (if aGrant t d p gr a = true then 1 else 0, g4) := by
          have : aGrant t d p gr a = gr (aT a % 24) (aT a / 24) (aBack t d a) (pcn (aH a p)) p r (t (34 + 4 * p)) := by
            unfold aGrant; rw [hw, Int.toNat_natCast]
          rw [this]
          exact u1
        have F4 : FM g g4 := FM_tr F3 (fun b _ b2 b3 => u2 b b2 b3)
        have e69 : g4 69 = zs g2 69 (7 * p + 5) (aP a p + (t (67 + 4 * d) : Int)) 69 := u2 69 (by decide) (by decide)
        have S4 := S3
        rw [← e69] at S4
        obtain ⟨l1, -⟩ := id S4
        obtain ⟨r1, r2, r3, r4, r5, r6⟩ := l1 p hp
        have hr2 : (aW a p).toNat = r := by rw [hw, Int.toNat_natCast]
        have p8 : 2 ^ r < 2 ^ 8 := Nat.pow_lt_pow_right (by decide) (by omega)
        have hH := (A.1 p hp).1
        rw [u1', z2_some, zq, om_6 (by omega), zb_some, pm_6 (by omega), zb_some, om_0 (by omega), zb_some, pm_0 (by omega), zb_some, r1, r6, zshl_1 r (by omega)]
        rw [show ((aH (aH a, aW (aLeave p a), aD (aLeave p a), aS a, (fun q => if q = p then aP a q + (t (67 + 4 * d) : Int) else aP a q), aR a, aQ (aLeave p a), aT a, aL a) p : Nat) : Int) = (aH a p : Int) from rfl, zor_nat (by omega) (by omega)]
        by_cases hg : aGrant t d p gr a = true
        · rw [if_pos hg]
          refine ⟨_, rfl, FM_tr F4 (fun b b1 _ _ => zs_row_ne b1), ?_⟩
          rw [zs_zup]
          refine MS_set S4 (by omega) (fun q => by omega) rfl rfl rfl (fun q hq => ?_)
          obtain ⟨j1, j2, j3, j4, j5, j6⟩ := l1 q hq
          have e1 : aH (aDec t d p gr a) q = if q = p ∧ aGrant t d p gr a = true then aH a q ||| 2 ^ (aW a p).toNat else aH a q := rfl
          have e3 : aR (aDec t d p gr a) q = if q = p ∧ aGrant t d p gr a = false then aR a q + 1 else aR a q := rfl
          rw [e1, e3, hg, if_neg (show ¬ (q = p ∧ true = false) by simp), hr2]
          refine ⟨?_, by simp (disch := omega) only [zup_ne]; exact j2, by simp (disch := omega) only [zup_ne]; exact j3, by simp (disch := omega) only [zup_ne]; exact j4, by simp (disch := omega) only [zup_ne]; exact j5, by simp (disch := omega) only [zup_ne]; exact j6⟩
          by_cases hqp : q = p
          · subst hqp
            rw [if_pos ⟨rfl, rfl⟩, zup_at]
          · rw [if_neg (fun x => hqp x.1), zup_ne (by omega)]; exact j1
        · have hg' : aGrant t d p gr a = false := by cases h : aGrant t d p gr a with
            | true => exact absurd h hg
            | false => rfl
          rw [if_neg hg]
          refine ⟨_, rfl, FM_tr F4 (fun b b1 _ _ => zs_row_ne b1), ?_⟩
          rw [zs_zup]
          refine MS_set S4 (by omega) (fun q => by omega) rfl rfl rfl (fun q hq => ?_)
          obtain ⟨j1, j2, j3, j4, j5, j6⟩ := l1 q hq
          have e1 : aH (aDec t d p gr a) q = if q = p ∧ aGrant t d p gr a = true then aH a q ||| 2 ^ (aW a p).toNat else aH a q := rfl
          have e3 : aR (aDec t d p gr a) q = if q = p ∧ aGrant t d p gr a = false then aR a q + 1 else aR a q := rfl
          rw [e1, e3, hg', if_neg (show ¬ (q = p ∧ false = true) by simp)]
          refine ⟨by simp (disch := omega) only [zup_ne]; exact j1, by simp (disch := omega) only [zup_ne]; exact j2, by simp (disch := omega) only [zup_ne]; exact j3, by simp (disch := omega) only [zup_ne]; exact j4, by simp (disch := omega) only [zup_ne]; exact j5, ?_⟩
          by_cases hqp : q = p
          · subst hqp
            rw [if_pos ⟨rfl, rfl⟩, zup_at]
          · rw [if_neg (fun x => hqp x.1), zup_ne (by omega)]; exact j6
  · rw [if_neg ho, if_neg ho]
    exact ⟨g, stop g, FMr, S⟩
