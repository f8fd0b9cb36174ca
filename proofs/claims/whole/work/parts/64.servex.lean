/-! a desk's hour, of the class -/
abbrev hGr : Type := Nat → Nat → Nat → Nat → Nat → Nat → Nat → Bool
def pcn (x : Nat) : Nat := (fJ6_bitCount_0f7a4 (x : Int)).toNat
theorem pcn_e : ∀ x : Nat, x < 256 → fJ6_bitCount_0f7a4 (x : Int) = (pcn x : Int) ∧ pcn x ≤ 8 := by decide +kernel
def aDone (p : Nat) (a : hSt) : hSt := (aH a, aW a, fun q => if q = p then aD a p + 1 else aD a q, aS a, aP a, aR a, aQ a, aT a, aL a)
def aGrant (t : Nat → Nat) (d p : Nat) (gr : hGr) (a : hSt) : Bool := gr (aT a % 24) (aT a / 24) (aBack t d a) (pcn (aH a p)) p (aW a p).toNat (t (34 + 4 * p))
def aDec (t : Nat → Nat) (d p : Nat) (gr : hGr) (a : hSt) : hSt := (fun q => if q = p ∧ aGrant t d p gr a = true then aH a q ||| 2 ^ (aW a p).toNat else aH a q, aW (aLeave p a), aD (aLeave p a), aS a, fun q => if q = p then aP a q + (t (67 + 4 * d) : Int) else aP a q, fun q => if q = p ∧ aGrant t d p gr a = false then aR a q + 1 else aR a q, aQ (aLeave p a), aT a, aL a)
def aServe (t : Nat → Nat) (d : Nat) (gr : hGr) (a : hSt) : hSt := match aFirst t d a with
  | none => a
  | some p => if aD a p + 1 < t (66 + 4 * d) then aDone p a else aDec t d p gr a
/-- who is waiting has not been served to the end -/
def ADs (np nr : Nat) (t : Nat → Nat) (a : hSt) : Prop := ∀ p r, p < np → r < nr → aW a p = (r : Nat) → aD a p < t (66 + 4 * t (96 + 4 * r))
theorem aFirst_e {np nd nr : Nat} {t : Nat → Nat} {a : hSt} {d p : Nat} (A : AV np nd nr t a) (h : aFirst t d a = some p) : p < np ∧ ∃ r, r < nr ∧ aW a p = (r : Nat) ∧ t (96 + 4 * r) = d := by
  have h1 := List.find?_some h
  have h2 := (A.2.2.1 p).mp (List.mem_of_find?_eq_some h)
  have h3 := of_decide_eq_true h1
  refine ⟨h2.1, ?_⟩
  rcases (A.1 p h2.1).2 with ⟨h4, -⟩ | ⟨r, hr, h4, -⟩
  · exact absurd h4 h2.2
  · refine ⟨r, hr, h4, ?_⟩
    rw [h4, stnd_r] at h3
    omega
theorem aDone_AV {np nd nr : Nat} {t : Nat → Nat} {a : hSt} {p : Nat} (A : AV np nd nr t a) (D : ADs np nr t a) (hw : aW a p ≠ -1) : AV np nd nr t (aDone p a) := by
  obtain ⟨a1, a2, a3, a4⟩ := A
  refine ⟨fun q hq => ⟨(a1 q hq).1, ?_⟩, a2, a3, a4⟩
  show (aW a q = -1 ∧ (if q = p then aD a p + 1 else aD a q) = 0) ∨ ∃ r', r' < nr ∧ aW a q = (r' : Nat) ∧ (if q = p then aD a p + 1 else aD a q) ≤ t (66 + 4 * t (96 + 4 * r'))
  by_cases h : q = p
  · subst h
    rw [if_pos rfl]
    rcases (a1 q hq).2 with ⟨h1, -⟩ | ⟨r, hr, h1, h2⟩
    · exact absurd h1 hw
    · exact Or.inr ⟨r, hr, h1, D q r hq hr h1⟩
  · rw [if_neg h]; exact (a1 q hq).2
theorem aLeave_done {p : Nat} {a : hSt} : aLeave p (aDone p a) = aLeave p a := by
  unfold aLeave aDone
  have : (fun q => if q = p then 0 else if q = p then aD a p + 1 else aD a q) = fun q => if q = p then 0 else aD a q := by
    funext q
    by_cases h : q = p
    · rw [if_pos h, if_pos h]
    · rw [if_neg h, if_neg h, if_neg h]
  exact congrArg (fun f => (aH a, (fun q => if q = p then -1 else aW a q), f, aS a, aP a, aR a, (aQ a).filter (fun q => decide (q ≠ p)), aT a, aL a)) this
theorem aDec_done {t : Nat → Nat} {d p : Nat} {gr : hGr} {a : hSt} : aDec t d p gr (aDone p a) = aDec t d p gr a := by
  unfold aDec
  rw [aLeave_done]
  rfl
theorem aDec_AV {np nd nr : Nat} {t : Nat → Nat} {a : hSt} {d p : Nat} {gr : hGr} (V : HV np nd nr t) (A : AV np nd nr t a) (hw : aW a p < nr) : AV np nd nr t (aDec t d p gr a) := by
  have v := V.1
  obtain ⟨a1, a2, a3, a4⟩ := aLeave_AV A (p := p)
  refine ⟨fun q hq => ⟨?_, (a1 q hq).2⟩, a2, a3, a4⟩
  have h := (a1 q hq).1
  show (if q = p ∧ aGrant t d p gr a = true then aH a q ||| 2 ^ (aW a p).toNat else aH a q) < 256
  have p8 : 2 ^ (aW a p).toNat < 2 ^ 8 := Nat.pow_lt_pow_right (by decide) (by omega)
  split
  · exact Nat.or_lt_two_pow (n := 8) h p8
  · exact h
theorem aServe_AV {np nd nr : Nat} {t : Nat → Nat} {a : hSt} {d : Nat} {gr : hGr} (V : HV np nd nr t) (A : AV np nd nr t a) (D : ADs np nr t a) : AV np nd nr t (aServe t d gr a) ∧ ADs np nr t (aServe t d gr a) := by
  unfold aServe
  cases hf : aFirst t d a with
  | none => exact ⟨A, D⟩
  | some p =>
    obtain ⟨hp, r, hr, hw, hd⟩ := aFirst_e A hf
    dsimp only
    by_cases hc : aD a p + 1 < t (66 + 4 * d)
    · rw [if_pos hc]
      refine ⟨aDone_AV A D (by omega), fun q r' hq hr' hw' => ?_⟩
      have hw2 : aW a q = (r' : Nat) := hw'
      show (if q = p then aD a p + 1 else aD a q) < _
      by_cases h : q = p
      · subst h
        rw [if_pos rfl]
        have : r' = r := by omega
        subst this
        rw [hd]; exact hc
      · rw [if_neg h]; exact D q r' hq hr' hw2
    · rw [if_neg hc]
      refine ⟨aDec_AV V A (by omega), fun q r' hq hr' hw' => ?_⟩
      have hw2 : (if q = p then -1 else aW a q) = (r' : Int) := hw'
      show (if q = p then 0 else aD a q) < _
      by_cases h : q = p
      · rw [if_pos h] at hw2; omega
      · rw [if_neg h] at hw2
        rw [if_neg h]; exact D q r' hq hr' hw2
theorem aBack_le {np nd nr : Nat} {t : Nat → Nat} {a : hSt} {d : Nat} (A : AV np nd nr t a) : aBack t d a ≤ np := Nat.le_trans List.countP_le_length (aQ_len A)
/-- the class's RULE: what it grants -/
def GX (N lr : Nat) (gr : hGr) (h : zH) : Prop := (zw (h 5 1) = -1 ∧ ∀ a b c d e f g, gr a b c d e f g = true) ∨ (zw (h 5 1) ≠ -1 ∧ ∀ (h' : zH) (l : Nat → Nat), (∀ j, j ≠ 5 → h' 5 j = h 5 j) → h' 24 = h 24 → h' 25 = h 25 → (∀ j, j < 7 → h' lr j = l j ∧ l j < 1000) → ∃ v h'', fX5_worth N lr h' = some (v, h'') ∧ (0 < zw v ↔ gr (l 0) (l 1) (l 2) (l 3) (l 4) (l 5) (l 6) = true) ∧ (∀ b, b ≠ 5 → b ≠ 26 → h'' b = h' b) ∧ ∀ j, j ≠ 5 → h'' 5 j = h' 5 j)
theorem GX_to {N lr : Nat} {gr : hGr} {h g : zH} (G : GX N lr gr h) (e5 : ∀ j, j ≠ 5 → g 5 j = h 5 j) (e24 : g 24 = h 24) (e25 : g 25 = h 25) : GX N lr gr g := by
  unfold GX at *
  rw [e5 1 (by decide)]
  rcases G with G | ⟨G1, G2⟩
  · exact Or.inl G
  · exact Or.inr ⟨G1, fun h' l f5 f24 f25 => G2 h' l (fun j hj => (f5 j hj).trans (e5 j hj)) (f24.trans e24) (f25.trans e25)⟩
def FX7 (h h' : zH) : Prop := (∀ b, b ≠ 30 → b ≠ 32 → b ≠ 5 → b ≠ 26 → h' b = h b) ∧ ∀ j, j ≠ 5 → h' 5 j = h 5 j
theorem FX7_HX {np nd nr : Nat} {t : Nat → Nat} {h h' : zH} (F : FX7 h h') (X : HX np nd nr t h) : HX np nd nr t h' := HX_to X (F.1 16 (by decide) (by decide) (by decide) (by decide)) (F.1 17 (by decide) (by decide) (by decide) (by decide)) (F.1 18 (by decide) (by decide) (by decide) (by decide))
theorem FX7_GX {N : Nat} {gr : hGr} {h h' : zH} (F : FX7 h h') (G : GX N 32 gr h) : GX N 32 gr h' := GX_to G F.2 (F.1 24 (by decide) (by decide) (by decide) (by decide)) (F.1 25 (by decide) (by decide) (by decide) (by decide))
theorem FX7_tr {h h' h'' : zH} (F : FX7 h h') (G : FX7 h' h'') : FX7 h h'' := ⟨fun b b1 b2 b3 b4 => (G.1 b b1 b2 b3 b4).trans (F.1 b b1 b2 b3 b4), fun j hj => (G.2 j hj).trans (F.2 j hj)⟩
theorem timX7 {h : zH} {T : Nat} (e : h 30 48 = (T : Int)) (hT : T < 100000) : fX8_time 7 h = ((T % 24 : Nat) : Int) := by
  show zrem (h 30 48) 24 = _
  rw [e, zrem_pos (by omega) (by omega) (by decide) (by decide)]
  rfl
theorem decX7 {np nd nr : Nat} {t : Nat → Nat} {a : hSt} {h : zH} (V : HV np nd nr t) (X : HX np nd nr t h) (A : AV np nd nr t a) (S : XS np t a (h 30)) {N : Nat} (hN : 8 ≤ N) {gr : hGr} (G : GX N 32 gr h) (hT : aT a < 20000) {d p r : Nat} (hd : d < nd) (hp : p < np) (hr : r < nr) (hw : aW a p = (r : Nat)) : ∃ h', fX8_decide N 7 2 (d : Int) (p : Int) h = some h' ∧ FX7 h h' ∧ XS np t (aDec t d p gr a) (h' 30) := by
  have v := V.1
  obtain ⟨s1, s2, s3, s4, s5⟩ := id S
  obtain ⟨p1, p2, p3, p4, p5, p6, p7⟩ := s1 p hp
  have hH := (A.1 p hp).1
  obtain ⟨c1, c2⟩ := pcn_e _ hH
  have hz := (V.2.2.2.1 p hp).2.2
  have hbk := aBack_le (d := d) A
  have et : fX8_time 7 h = ((aT a % 24 : Nat) : Int) := timX7 s2 (by omega)
  have eh : ∀ v : Int, zdiv (fX8_hour 7 (zs h 32 0 v)) 24 = ((aT a / 24 : Nat) : Int) := fun v => by
    show zdiv (zs h 32 0 v 30 48) 24 = _
    rw [zs_row_ne (by decide), s2, zdiv_pos (by omega) (by omega) (by decide) (by decide)]
    rfl
  have eb : ∀ v w : Int, fX8_backlog N 7 (d : Int) (zs (zs h 32 0 v) 32 1 w) = some (aBack t d a : Int) := fun v w => bakX7 V A (by rw [zs_row_ne (by decide), zs_row_ne (by decide)]; exact S) hN (by omega)
  have ez : ∀ g : zH, (∀ b, b ≠ 32 → g b = h b) → fX1_item 2 1 (p : Int) 2 g = t (34 + 4 * p) := fun g hg => xi12 V (HX_to X (hg 16 (by decide)) (hg 17 (by decide)) (hg 18 (by decide))) hp
  have ew : fX8_of 7 1 (p : Int) h = (r : Int) := by rw [ox7_1 (by omega), p2, hw]
  have eH : fX8_of 7 0 (p : Int) h = (aH a p : Int) := by rw [ox7_0 (by omega), p1]
  have p8 : 2 ^ r < 2 ^ 8 := Nat.pow_lt_pow_right (by decide) (by omega)
  obtain ⟨gL, hgL⟩ : ∃ g, g = zs (zs (zs (zs (zs (zs (zs h 32 0 ((aT a % 24 : Nat) : Int)) 32 1 ((aT a / 24 : Nat) : Int)) 32 2 (aBack t d a : Int)) 32 3 (pcn (aH a p) : Int)) 32 4 (p : Int)) 32 5 (r : Int)) 32 6 (t (34 + 4 * p) : Int) := ⟨_, rfl⟩
  have gne : ∀ b, b ≠ 32 → gL b = h b := fun b hb => by
    rw [hgL]; simp only [zs_row_ne hb]
  have gl : ∀ j, j < 7 → gL 32 j = ((fun j => if j = 0 then aT a % 24 else if j = 1 then aT a / 24 else if j = 2 then aBack t d a else if j = 3 then pcn (aH a p) else if j = 4 then p else if j = 5 then r else t (34 + 4 * p)) j : Nat) := fun j hj => by
    rw [hgL]
    simp only [zs_zup]
    have : j = 0 ∨ j = 1 ∨ j = 2 ∨ j = 3 ∨ j = 4 ∨ j = 5 ∨ j = 6 := by omega
    rcases this with rfl | rfl | rfl | rfl | rfl | rfl | rfl <;> rfl
  have Sg : XS np t a (gL 30) := by rw [gne 30 (by decide)]; exact S
  obtain ⟨hl, l1, l2, l3⟩ := leaX7 V A Sg hN hp
  have lne : ∀ b, b ≠ 30 → b ≠ 32 → hl b = h b := fun b b1 b2 => (l2 b b1).trans (gne b b2)
  have Xl : HX np nd nr t hl := HX_to X (lne 16 (by decide) (by decide)) (lne 17 (by decide) (by decide)) (lne 18 (by decide) (by decide))
  obtain ⟨k1, k2, k3, k4, k5⟩ := id l3
  obtain ⟨q1, q2, q3, q4, q5, q6, q7⟩ := k1 p hp
  have eP : fX8_of 7 4 (p : Int) hl = aP a p := by rw [ox7_4 (by omega), q5]; rfl
  have key : fX8_decide N 7 2 (d : Int) (p : Int) h = if zw (hl 5 1) = -1 then some (zs (zs hl 30 (24 + p) (aP a p + (t (67 + 4 * d) : Int))) 30 p (aH a p ||| 2 ^ r : Nat)) else z2 (fX5_worth N 32 (zs hl 30 (24 + p) (aP a p + (t (67 + 4 * d) : Int)))) fun v17 h16 => if zw v17 ≤ 0 then some (zs h16 30 (30 + p) ((h16 30 (30 + p)) + 1)) else some (zs h16 30 p (aH a p ||| 2 ^ r : Nat)) := by
    unfold fX8_decide
    simp only [zlet_v, zf72]
    rw [et, eh, eb, zb_some, ew, eH, c1, ez _ (fun b hb => by simp only [zs_row_ne hb]), ← hgL, l1, z2_some, eP, xi23 V Xl hd, sx7_4 (by omega), zs_row_ne (show 5 ≠ 30 by decide), zw_m1, zshl_1 r (by omega), zor_nat (by omega) (by omega), sx7_0 (by omega)]
    simp only [sx7_5 (show p < 6 by omega), ox7_5 (show p < 6 by omega), sx7_0 (show p < 6 by omega)]
  have hg1 : aGrant t d p gr a = gr (aT a % 24) (aT a / 24) (aBack t d a) (pcn (aH a p)) p r (t (34 + 4 * p)) := by
    unfold aGrant; rw [hw, Int.toNat_natCast]
  have hr2 : (aW a p).toNat = r := by rw [hw, Int.toNat_natCast]
  have fin : ∀ g : zH, (∀ j, g 30 j = zup (hl 30) (24 + p) (aP a p + (t (67 + 4 * d) : Int)) j) → (aGrant t d p gr a = true → XS np t (aDec t d p gr a) (zs g 30 p (aH a p ||| 2 ^ r : Nat) 30)) ∧ (aGrant t d p gr a = false → XS np t (aDec t d p gr a) (zs g 30 (30 + p) (g 30 (30 + p) + 1) 30)) := by
    intro g hg
    have fg : g 30 = zup (hl 30) (24 + p) (aP a p + (t (67 + 4 * d) : Int)) := funext hg
    have ec : aQ (aDec t d p gr a) = aQ (aLeave p a) := rfl
    refine ⟨fun hgr => ?_, fun hgr => ?_⟩
    · simp only [zs_zup, fg]
      refine ⟨fun q hq => ?_, ?_, ?_, fun i hi => ?_, ?_⟩
      · obtain ⟨j1, j2, j3, j4, j5, j6, j7⟩ := k1 q hq
        have e1 : aH (aDec t d p gr a) q = if q = p ∧ aGrant t d p gr a = true then aH a q ||| 2 ^ (aW a p).toNat else aH a q := rfl
        have e2 : aP (aDec t d p gr a) q = if q = p then aP a q + (t (67 + 4 * d) : Int) else aP a q := rfl
        have e3 : aR (aDec t d p gr a) q = if q = p ∧ aGrant t d p gr a = false then aR a q + 1 else aR a q := rfl
        rw [e1, e2, e3, hgr, hr2]
        by_cases hqp : q = p
        · subst hqp
          rw [if_pos ⟨rfl, rfl⟩, if_pos rfl, if_neg (by simp)]
          exact ⟨by simp (disch := omega) only [zup_is, zup_ne], by simp (disch := omega) only [zup_ne]; exact j2, by simp (disch := omega) only [zup_ne]; exact j3, by simp (disch := omega) only [zup_ne]; exact j4, by simp (disch := omega) only [zup_is, zup_ne], by simp (disch := omega) only [zup_ne]; exact j6, by simp (disch := omega) only [zup_ne]; exact j7⟩
        · rw [if_neg (fun x => hqp x.1), if_neg hqp, if_neg (fun x => hqp x.1)]
          exact ⟨by simp (disch := omega) only [zup_ne]; exact j1, by simp (disch := omega) only [zup_ne]; exact j2, by simp (disch := omega) only [zup_ne]; exact j3, by simp (disch := omega) only [zup_ne]; exact j4, by simp (disch := omega) only [zup_ne]; exact j5, by simp (disch := omega) only [zup_ne]; exact j6, by simp (disch := omega) only [zup_ne]; exact j7⟩
      · simp (disch := omega) only [zup_ne]; exact k2
      · simp (disch := omega) only [zup_ne]; exact k3
      · simp (disch := omega) only [zup_ne]; exact k4 i hi
      · simp (disch := omega) only [zup_ne]; exact k5
    · simp only [zs_zup, fg]
      refine ⟨fun q hq => ?_, ?_, ?_, fun i hi => ?_, ?_⟩
      · obtain ⟨j1, j2, j3, j4, j5, j6, j7⟩ := k1 q hq
        have e1 : aH (aDec t d p gr a) q = if q = p ∧ aGrant t d p gr a = true then aH a q ||| 2 ^ (aW a p).toNat else aH a q := rfl
        have e2 : aP (aDec t d p gr a) q = if q = p then aP a q + (t (67 + 4 * d) : Int) else aP a q := rfl
        have e3 : aR (aDec t d p gr a) q = if q = p ∧ aGrant t d p gr a = false then aR a q + 1 else aR a q := rfl
        rw [e1, e2, e3, hgr, if_neg (by simp)]
        by_cases hqp : q = p
        · subst hqp
          rw [if_pos rfl, if_pos ⟨rfl, rfl⟩]
          exact ⟨by simp (disch := omega) only [zup_ne]; exact j1, by simp (disch := omega) only [zup_ne]; exact j2, by simp (disch := omega) only [zup_ne]; exact j3, by simp (disch := omega) only [zup_ne]; exact j4, by simp (disch := omega) only [zup_is, zup_ne], by simp (disch := omega) only [zup_is, zup_ne]; exact congrArg (· + 1) j6, by simp (disch := omega) only [zup_ne]; exact j7⟩
        · rw [if_neg hqp, if_neg (fun x => hqp x.1)]
          exact ⟨by simp (disch := omega) only [zup_ne]; exact j1, by simp (disch := omega) only [zup_ne]; exact j2, by simp (disch := omega) only [zup_ne]; exact j3, by simp (disch := omega) only [zup_ne]; exact j4, by simp (disch := omega) only [zup_ne]; exact j5, by simp (disch := omega) only [zup_ne]; exact j6, by simp (disch := omega) only [zup_ne]; exact j7⟩
      · simp (disch := omega) only [zup_ne]; exact k2
      · simp (disch := omega) only [zup_ne]; exact k3
      · have hi6 : i < 6 := by
          have h1 := aQ_len (aLeave_AV A (p := p))
          have h2 : i < (aQ (aLeave p a)).length := hi
          omega
        simp (disch := omega) only [zup_ne]; exact k4 i hi
      · simp (disch := omega) only [zup_ne]; exact k5
  have hl51 : hl 5 1 = h 5 1 := congrFun (lne 5 (by decide) (by decide)) 1
  rcases G with ⟨G1, G2⟩ | ⟨G1, G2⟩
  · rw [hl51, if_pos G1] at key
    refine ⟨_, key, ⟨fun b b1 b2 b3 b4 => by rw [zs_row_ne b1, zs_row_ne b1, lne b b1 b2], fun j hj => by rw [zs_row_ne (by decide), zs_row_ne (by decide), lne 5 (by decide) (by decide)]⟩, ?_⟩
    exact (fin (zs hl 30 (24 + p) (aP a p + (t (67 + 4 * d) : Int))) (fun j => by rw [zs_zup])).1 (G2 _ _ _ _ _ _ _)
  · rw [hl51, if_neg G1] at key
    obtain ⟨w, hw2, w1, w2, w3, w4⟩ := G2 (zs hl 30 (24 + p) (aP a p + (t (67 + 4 * d) : Int))) (fun j => if j = 0 then aT a % 24 else if j = 1 then aT a / 24 else if j = 2 then aBack t d a else if j = 3 then pcn (aH a p) else if j = 4 then p else if j = 5 then r else t (34 + 4 * p)) (fun j hj => by rw [zs_row_ne (by decide), lne 5 (by decide) (by decide)]) (by rw [zs_row_ne (by decide), lne 24 (by decide) (by decide)]) (by rw [zs_row_ne (by decide), lne 25 (by decide) (by decide)]) (fun j hj => ⟨by rw [zs_row_ne (by decide), l2 32 (by decide)]; exact gl j hj, by
      have h24 : aT a / 24 < 1000 := by omega
      have hm : aT a % 24 < 1000 := by omega
      (repeat' split) <;> omega⟩)
    rw [w1, z2_some] at key
    have wC : ∀ j, hw2 30 j = zup (hl 30) (24 + p) (aP a p + (t (67 + 4 * d) : Int)) j := fun j => by rw [w3 30 (by decide) (by decide), zs_zup]
    have w2' : 0 < zw w ↔ aGrant t d p gr a = true := by rw [hg1]; exact w2
    cases hgr : aGrant t d p gr a with
    | true =>
      have : 0 < zw w := w2'.mpr hgr
      rw [if_neg (by omega)] at key
      refine ⟨_, key, ⟨fun b b1 b2 b3 b4 => by rw [zs_row_ne b1, w3 b b3 b4, zs_row_ne b1, lne b b1 b2], fun j hj => by rw [zs_row_ne (by decide), w4 j hj, zs_row_ne (by decide), lne 5 (by decide) (by decide)]⟩, (fin hw2 wC).1 hgr⟩
    | false =>
      have : ¬ 0 < zw w := fun x => by rw [w2'.mp x] at hgr; cases hgr
      rw [if_pos (by omega)] at key
      refine ⟨_, key, ⟨fun b b1 b2 b3 b4 => by rw [zs_row_ne b1, w3 b b3 b4, zs_row_ne b1, lne b b1 b2], fun j hj => by rw [zs_row_ne (by decide), w4 j hj, zs_row_ne (by decide), lne 5 (by decide) (by decide)]⟩, (fin hw2 wC).2 hgr⟩
theorem serX7 {np nd nr : Nat} {t : Nat → Nat} {a : hSt} {h : zH} (V : HV np nd nr t) (X : HX np nd nr t h) (A : AV np nd nr t a) (D : ADs np nr t a) (S : XS np t a (h 30)) {N : Nat} (hN : 8 ≤ N) {gr : hGr} (G : GX N 32 gr h) (hT : aT a < 20000) {d : Nat} (hd : d < nd) : ∃ h', fX8_serve N 7 2 (d : Int) h = some h' ∧ FX7 h h' ∧ XS np t (aServe t d gr a) (h' 30) := by
  have v := V.1
  have vd := V.2.2.2.2.1 d hd
  unfold fX8_serve aServe
  rw [firX7 V A S hN (by omega), zb_some]
  cases hf : aFirst t d a with
  | none => exact ⟨h, if_pos (by decide), ⟨fun _ _ _ _ _ => rfl, fun _ _ => rfl⟩, S⟩
  | some p =>
    obtain ⟨hp, r, hr, hw, hd2⟩ := aFirst_e A hf
    obtain ⟨p1, p2, p3, p4, p5, p6, p7⟩ := S.1 p hp
    have hD := D p r hp hr hw
    rw [hd2] at hD
    rw [show oI (some p) = (p : Int) from rfl]
    dsimp only
    rw [zw_id (show -2147483648 ≤ (p : Int) ∧ (p : Int) < 2147483648 by omega), zw_m1, if_neg (by omega)]
    simp only [zlet_v]
    rw [ox7_2 (by omega), p3, sx7_2 (by omega), xi22 V (HX_to X (zs_row_ne (by decide)) (zs_row_ne (by decide)) (zs_row_ne (by decide))) hd, zw_id (show -2147483648 ≤ (aD a p : Int) + 1 ∧ (aD a p : Int) + 1 < 2147483648 by omega), zw_id (show -2147483648 ≤ (t (66 + 4 * d) : Int) ∧ (t (66 + 4 * d) : Int) < 2147483648 by omega)]
    have SD : XS np t (aDone p a) (zs h 30 (12 + p) ((aD a p : Int) + 1) 30) := by
      obtain ⟨s1, s2, s3, s4, s5⟩ := S
      rw [zs_zup]
      refine ⟨fun q hq => ?_, ?_, ?_, fun i hi => ?_, ?_⟩
      · obtain ⟨j1, j2, j3, j4, j5, j6, j7⟩ := s1 q hq
        have e1 : aD (aDone p a) q = if q = p then aD a p + 1 else aD a q := rfl
        rw [e1]
        refine ⟨by simp (disch := omega) only [zup_ne]; exact j1, by simp (disch := omega) only [zup_ne]; exact j2, ?_, by simp (disch := omega) only [zup_ne]; exact j4, by simp (disch := omega) only [zup_ne]; exact j5, by simp (disch := omega) only [zup_ne]; exact j6, by simp (disch := omega) only [zup_ne]; exact j7⟩
        by_cases hqp : q = p
        · subst hqp
          rw [if_pos rfl, zup_at]; rfl
        · rw [if_neg hqp, zup_ne (by omega)]; exact j3
      · rw [zup_ne (by omega)]; exact s2
      · rw [zup_ne (by omega)]; exact s3
      · rw [zup_ne (by omega)]; exact s4 i hi
      · rw [zup_ne (by omega)]; exact s5
    have F1 : FX7 h (zs h 30 (12 + p) ((aD a p : Int) + 1)) := ⟨fun b b1 _ _ _ => zs_row_ne b1, fun j _ => by rw [zs_row_ne (by decide)]⟩
    by_cases hc : aD a p + 1 < t (66 + 4 * d)
    · rw [if_pos (by omega), if_pos hc]
      exact ⟨_, rfl, F1, SD⟩
    · rw [if_neg (by omega), if_neg hc]
      obtain ⟨h', e1, e2, e3⟩ := decX7 V (FX7_HX F1 X) (aDone_AV A D (by omega)) SD hN (FX7_GX F1 G) hT hd hp hr hw
      rw [aDec_done] at e3
      rw [e1]
      exact ⟨h', rfl, FX7_tr F1 e2, e3⟩
def FX8 (h h' : zH) : Prop := (∀ b, b ≠ 34 → b ≠ 36 → b ≠ 5 → b ≠ 26 → h' b = h b) ∧ ∀ j, j ≠ 5 → h' 5 j = h 5 j
theorem FX8_HX {np nd nr : Nat} {t : Nat → Nat} {h h' : zH} (F : FX8 h h') (X : HX np nd nr t h) : HX np nd nr t h' := HX_to X (F.1 16 (by decide) (by decide) (by decide) (by decide)) (F.1 17 (by decide) (by decide) (by decide) (by decide)) (F.1 18 (by decide) (by decide) (by decide) (by decide))
theorem FX8_GX {N : Nat} {gr : hGr} {h h' : zH} (F : FX8 h h') (G : GX N 36 gr h) : GX N 36 gr h' := GX_to G F.2 (F.1 24 (by decide) (by decide) (by decide) (by decide)) (F.1 25 (by decide) (by decide) (by decide) (by decide))
theorem FX8_tr {h h' h'' : zH} (F : FX8 h h') (G : FX8 h' h'') : FX8 h h'' := ⟨fun b b1 b2 b3 b4 => (G.1 b b1 b2 b3 b4).trans (F.1 b b1 b2 b3 b4), fun j hj => (G.2 j hj).trans (F.2 j hj)⟩
theorem timX8 {h : zH} {T : Nat} (e : h 34 48 = (T : Int)) (hT : T < 100000) : fX8_time 8 h = ((T % 24 : Nat) : Int) := by
  show zrem (h 34 48) 24 = _
  rw [e, zrem_pos (by omega) (by omega) (by decide) (by decide)]
  rfl
theorem decX8 {np nd nr : Nat} {t : Nat → Nat} {a : hSt} {h : zH} (V : HV np nd nr t) (X : HX np nd nr t h) (A : AV np nd nr t a) (S : XS np t a (h 34)) {N : Nat} (hN : 8 ≤ N) {gr : hGr} (G : GX N 36 gr h) (hT : aT a < 20000) {d p r : Nat} (hd : d < nd) (hp : p < np) (hr : r < nr) (hw : aW a p = (r : Nat)) : ∃ h', fX8_decide N 8 2 (d : Int) (p : Int) h = some h' ∧ FX8 h h' ∧ XS np t (aDec t d p gr a) (h' 34) := by
  have v := V.1
  obtain ⟨s1, s2, s3, s4, s5⟩ := id S
  obtain ⟨p1, p2, p3, p4, p5, p6, p7⟩ := s1 p hp
  have hH := (A.1 p hp).1
  obtain ⟨c1, c2⟩ := pcn_e _ hH
  have hz := (V.2.2.2.1 p hp).2.2
  have hbk := aBack_le (d := d) A
  have et : fX8_time 8 h = ((aT a % 24 : Nat) : Int) := timX8 s2 (by omega)
  have eh : ∀ v : Int, zdiv (fX8_hour 8 (zs h 36 0 v)) 24 = ((aT a / 24 : Nat) : Int) := fun v => by
    show zdiv (zs h 36 0 v 34 48) 24 = _
    rw [zs_row_ne (by decide), s2, zdiv_pos (by omega) (by omega) (by decide) (by decide)]
    rfl
  have eb : ∀ v w : Int, fX8_backlog N 8 (d : Int) (zs (zs h 36 0 v) 36 1 w) = some (aBack t d a : Int) := fun v w => bakX8 V A (by rw [zs_row_ne (by decide), zs_row_ne (by decide)]; exact S) hN (by omega)
  have ez : ∀ g : zH, (∀ b, b ≠ 36 → g b = h b) → fX1_item 2 1 (p : Int) 2 g = t (34 + 4 * p) := fun g hg => xi12 V (HX_to X (hg 16 (by decide)) (hg 17 (by decide)) (hg 18 (by decide))) hp
  have ew : fX8_of 8 1 (p : Int) h = (r : Int) := by rw [ox8_1 (by omega), p2, hw]
  have eH : fX8_of 8 0 (p : Int) h = (aH a p : Int) := by rw [ox8_0 (by omega), p1]
  have p8 : 2 ^ r < 2 ^ 8 := Nat.pow_lt_pow_right (by decide) (by omega)
  obtain ⟨gL, hgL⟩ : ∃ g, g = zs (zs (zs (zs (zs (zs (zs h 36 0 ((aT a % 24 : Nat) : Int)) 36 1 ((aT a / 24 : Nat) : Int)) 36 2 (aBack t d a : Int)) 36 3 (pcn (aH a p) : Int)) 36 4 (p : Int)) 36 5 (r : Int)) 36 6 (t (34 + 4 * p) : Int) := ⟨_, rfl⟩
  have gne : ∀ b, b ≠ 36 → gL b = h b := fun b hb => by
    rw [hgL]; simp only [zs_row_ne hb]
  have gl : ∀ j, j < 7 → gL 36 j = ((fun j => if j = 0 then aT a % 24 else if j = 1 then aT a / 24 else if j = 2 then aBack t d a else if j = 3 then pcn (aH a p) else if j = 4 then p else if j = 5 then r else t (34 + 4 * p)) j : Nat) := fun j hj => by
    rw [hgL]
    simp only [zs_zup]
    have : j = 0 ∨ j = 1 ∨ j = 2 ∨ j = 3 ∨ j = 4 ∨ j = 5 ∨ j = 6 := by omega
    rcases this with rfl | rfl | rfl | rfl | rfl | rfl | rfl <;> rfl
  have Sg : XS np t a (gL 34) := by rw [gne 34 (by decide)]; exact S
  obtain ⟨hl, l1, l2, l3⟩ := leaX8 V A Sg hN hp
  have lne : ∀ b, b ≠ 34 → b ≠ 36 → hl b = h b := fun b b1 b2 => (l2 b b1).trans (gne b b2)
  have Xl : HX np nd nr t hl := HX_to X (lne 16 (by decide) (by decide)) (lne 17 (by decide) (by decide)) (lne 18 (by decide) (by decide))
  obtain ⟨k1, k2, k3, k4, k5⟩ := id l3
  obtain ⟨q1, q2, q3, q4, q5, q6, q7⟩ := k1 p hp
  have eP : fX8_of 8 4 (p : Int) hl = aP a p := by rw [ox8_4 (by omega), q5]; rfl
  have key : fX8_decide N 8 2 (d : Int) (p : Int) h = if zw (hl 5 1) = -1 then some (zs (zs hl 34 (24 + p) (aP a p + (t (67 + 4 * d) : Int))) 34 p (aH a p ||| 2 ^ r : Nat)) else z2 (fX5_worth N 36 (zs hl 34 (24 + p) (aP a p + (t (67 + 4 * d) : Int)))) fun v17 h16 => if zw v17 ≤ 0 then some (zs h16 34 (30 + p) ((h16 34 (30 + p)) + 1)) else some (zs h16 34 p (aH a p ||| 2 ^ r : Nat)) := by
    unfold fX8_decide
    simp only [zlet_v, zf82]
    rw [et, eh, eb, zb_some, ew, eH, c1, ez _ (fun b hb => by simp only [zs_row_ne hb]), ← hgL, l1, z2_some, eP, xi23 V Xl hd, sx8_4 (by omega), zs_row_ne (show 5 ≠ 34 by decide), zw_m1, zshl_1 r (by omega), zor_nat (by omega) (by omega), sx8_0 (by omega)]
    simp only [sx8_5 (show p < 6 by omega), ox8_5 (show p < 6 by omega), sx8_0 (show p < 6 by omega)]
  have hg1 : aGrant t d p gr a = gr (aT a % 24) (aT a / 24) (aBack t d a) (pcn (aH a p)) p r (t (34 + 4 * p)) := by
    unfold aGrant; rw [hw, Int.toNat_natCast]
  have hr2 : (aW a p).toNat = r := by rw [hw, Int.toNat_natCast]
  have fin : ∀ g : zH, (∀ j, g 34 j = zup (hl 34) (24 + p) (aP a p + (t (67 + 4 * d) : Int)) j) → (aGrant t d p gr a = true → XS np t (aDec t d p gr a) (zs g 34 p (aH a p ||| 2 ^ r : Nat) 34)) ∧ (aGrant t d p gr a = false → XS np t (aDec t d p gr a) (zs g 34 (30 + p) (g 34 (30 + p) + 1) 34)) := by
    intro g hg
    have fg : g 34 = zup (hl 34) (24 + p) (aP a p + (t (67 + 4 * d) : Int)) := funext hg
    have ec : aQ (aDec t d p gr a) = aQ (aLeave p a) := rfl
    refine ⟨fun hgr => ?_, fun hgr => ?_⟩
    · simp only [zs_zup, fg]
      refine ⟨fun q hq => ?_, ?_, ?_, fun i hi => ?_, ?_⟩
      · obtain ⟨j1, j2, j3, j4, j5, j6, j7⟩ := k1 q hq
        have e1 : aH (aDec t d p gr a) q = if q = p ∧ aGrant t d p gr a = true then aH a q ||| 2 ^ (aW a p).toNat else aH a q := rfl
        have e2 : aP (aDec t d p gr a) q = if q = p then aP a q + (t (67 + 4 * d) : Int) else aP a q := rfl
        have e3 : aR (aDec t d p gr a) q = if q = p ∧ aGrant t d p gr a = false then aR a q + 1 else aR a q := rfl
        rw [e1, e2, e3, hgr, hr2]
        by_cases hqp : q = p
        · subst hqp
          rw [if_pos ⟨rfl, rfl⟩, if_pos rfl, if_neg (by simp)]
          exact ⟨by simp (disch := omega) only [zup_is, zup_ne], by simp (disch := omega) only [zup_ne]; exact j2, by simp (disch := omega) only [zup_ne]; exact j3, by simp (disch := omega) only [zup_ne]; exact j4, by simp (disch := omega) only [zup_is, zup_ne], by simp (disch := omega) only [zup_ne]; exact j6, by simp (disch := omega) only [zup_ne]; exact j7⟩
        · rw [if_neg (fun x => hqp x.1), if_neg hqp, if_neg (fun x => hqp x.1)]
          exact ⟨by simp (disch := omega) only [zup_ne]; exact j1, by simp (disch := omega) only [zup_ne]; exact j2, by simp (disch := omega) only [zup_ne]; exact j3, by simp (disch := omega) only [zup_ne]; exact j4, by simp (disch := omega) only [zup_ne]; exact j5, by simp (disch := omega) only [zup_ne]; exact j6, by simp (disch := omega) only [zup_ne]; exact j7⟩
      · simp (disch := omega) only [zup_ne]; exact k2
      · simp (disch := omega) only [zup_ne]; exact k3
      · simp (disch := omega) only [zup_ne]; exact k4 i hi
      · simp (disch := omega) only [zup_ne]; exact k5
    · simp only [zs_zup, fg]
      refine ⟨fun q hq => ?_, ?_, ?_, fun i hi => ?_, ?_⟩
      · obtain ⟨j1, j2, j3, j4, j5, j6, j7⟩ := k1 q hq
        have e1 : aH (aDec t d p gr a) q = if q = p ∧ aGrant t d p gr a = true then aH a q ||| 2 ^ (aW a p).toNat else aH a q := rfl
        have e2 : aP (aDec t d p gr a) q = if q = p then aP a q + (t (67 + 4 * d) : Int) else aP a q := rfl
        have e3 : aR (aDec t d p gr a) q = if q = p ∧ aGrant t d p gr a = false then aR a q + 1 else aR a q := rfl
        rw [e1, e2, e3, hgr, if_neg (by simp)]
        by_cases hqp : q = p
        · subst hqp
          rw [if_pos rfl, if_pos ⟨rfl, rfl⟩]
          exact ⟨by simp (disch := omega) only [zup_ne]; exact j1, by simp (disch := omega) only [zup_ne]; exact j2, by simp (disch := omega) only [zup_ne]; exact j3, by simp (disch := omega) only [zup_ne]; exact j4, by simp (disch := omega) only [zup_is, zup_ne], by simp (disch := omega) only [zup_is, zup_ne]; exact congrArg (· + 1) j6, by simp (disch := omega) only [zup_ne]; exact j7⟩
        · rw [if_neg hqp, if_neg (fun x => hqp x.1)]
          exact ⟨by simp (disch := omega) only [zup_ne]; exact j1, by simp (disch := omega) only [zup_ne]; exact j2, by simp (disch := omega) only [zup_ne]; exact j3, by simp (disch := omega) only [zup_ne]; exact j4, by simp (disch := omega) only [zup_ne]; exact j5, by simp (disch := omega) only [zup_ne]; exact j6, by simp (disch := omega) only [zup_ne]; exact j7⟩
      · simp (disch := omega) only [zup_ne]; exact k2
      · simp (disch := omega) only [zup_ne]; exact k3
      · have hi6 : i < 6 := by
          have h1 := aQ_len (aLeave_AV A (p := p))
          have h2 : i < (aQ (aLeave p a)).length := hi
          omega
        simp (disch := omega) only [zup_ne]; exact k4 i hi
      · simp (disch := omega) only [zup_ne]; exact k5
  have hl51 : hl 5 1 = h 5 1 := congrFun (lne 5 (by decide) (by decide)) 1
  rcases G with ⟨G1, G2⟩ | ⟨G1, G2⟩
  · rw [hl51, if_pos G1] at key
    refine ⟨_, key, ⟨fun b b1 b2 b3 b4 => by rw [zs_row_ne b1, zs_row_ne b1, lne b b1 b2], fun j hj => by rw [zs_row_ne (by decide), zs_row_ne (by decide), lne 5 (by decide) (by decide)]⟩, ?_⟩
    exact (fin (zs hl 34 (24 + p) (aP a p + (t (67 + 4 * d) : Int))) (fun j => by rw [zs_zup])).1 (G2 _ _ _ _ _ _ _)
  · rw [hl51, if_neg G1] at key
    obtain ⟨w, hw2, w1, w2, w3, w4⟩ := G2 (zs hl 34 (24 + p) (aP a p + (t (67 + 4 * d) : Int))) (fun j => if j = 0 then aT a % 24 else if j = 1 then aT a / 24 else if j = 2 then aBack t d a else if j = 3 then pcn (aH a p) else if j = 4 then p else if j = 5 then r else t (34 + 4 * p)) (fun j hj => by rw [zs_row_ne (by decide), lne 5 (by decide) (by decide)]) (by rw [zs_row_ne (by decide), lne 24 (by decide) (by decide)]) (by rw [zs_row_ne (by decide), lne 25 (by decide) (by decide)]) (fun j hj => ⟨by rw [zs_row_ne (by decide), l2 36 (by decide)]; exact gl j hj, by
      have h24 : aT a / 24 < 1000 := by omega
      have hm : aT a % 24 < 1000 := by omega
      (repeat' split) <;> omega⟩)
    rw [w1, z2_some] at key
    have wC : ∀ j, hw2 34 j = zup (hl 34) (24 + p) (aP a p + (t (67 + 4 * d) : Int)) j := fun j => by rw [w3 34 (by decide) (by decide), zs_zup]
    have w2' : 0 < zw w ↔ aGrant t d p gr a = true := by rw [hg1]; exact w2
    cases hgr : aGrant t d p gr a with
    | true =>
      have : 0 < zw w := w2'.mpr hgr
      rw [if_neg (by omega)] at key
      refine ⟨_, key, ⟨fun b b1 b2 b3 b4 => by rw [zs_row_ne b1, w3 b b3 b4, zs_row_ne b1, lne b b1 b2], fun j hj => by rw [zs_row_ne (by decide), w4 j hj, zs_row_ne (by decide), lne 5 (by decide) (by decide)]⟩, (fin hw2 wC).1 hgr⟩
    | false =>
      have : ¬ 0 < zw w := fun x => by rw [w2'.mp x] at hgr; cases hgr
      rw [if_pos (by omega)] at key
      refine ⟨_, key, ⟨fun b b1 b2 b3 b4 => by rw [zs_row_ne b1, w3 b b3 b4, zs_row_ne b1, lne b b1 b2], fun j hj => by rw [zs_row_ne (by decide), w4 j hj, zs_row_ne (by decide), lne 5 (by decide) (by decide)]⟩, (fin hw2 wC).2 hgr⟩
theorem serX8 {np nd nr : Nat} {t : Nat → Nat} {a : hSt} {h : zH} (V : HV np nd nr t) (X : HX np nd nr t h) (A : AV np nd nr t a) (D : ADs np nr t a) (S : XS np t a (h 34)) {N : Nat} (hN : 8 ≤ N) {gr : hGr} (G : GX N 36 gr h) (hT : aT a < 20000) {d : Nat} (hd : d < nd) : ∃ h', fX8_serve N 8 2 (d : Int) h = some h' ∧ FX8 h h' ∧ XS np t (aServe t d gr a) (h' 34) := by
  have v := V.1
  have vd := V.2.2.2.2.1 d hd
  unfold fX8_serve aServe
  rw [firX8 V A S hN (by omega), zb_some]
  cases hf : aFirst t d a with
  | none => exact ⟨h, if_pos (by decide), ⟨fun _ _ _ _ _ => rfl, fun _ _ => rfl⟩, S⟩
  | some p =>
    obtain ⟨hp, r, hr, hw, hd2⟩ := aFirst_e A hf
    obtain ⟨p1, p2, p3, p4, p5, p6, p7⟩ := S.1 p hp
    have hD := D p r hp hr hw
    rw [hd2] at hD
    rw [show oI (some p) = (p : Int) from rfl]
    dsimp only
    rw [zw_id (show -2147483648 ≤ (p : Int) ∧ (p : Int) < 2147483648 by omega), zw_m1, if_neg (by omega)]
    simp only [zlet_v]
    rw [ox8_2 (by omega), p3, sx8_2 (by omega), xi22 V (HX_to X (zs_row_ne (by decide)) (zs_row_ne (by decide)) (zs_row_ne (by decide))) hd, zw_id (show -2147483648 ≤ (aD a p : Int) + 1 ∧ (aD a p : Int) + 1 < 2147483648 by omega), zw_id (show -2147483648 ≤ (t (66 + 4 * d) : Int) ∧ (t (66 + 4 * d) : Int) < 2147483648 by omega)]
    have SD : XS np t (aDone p a) (zs h 34 (12 + p) ((aD a p : Int) + 1) 34) := by
      obtain ⟨s1, s2, s3, s4, s5⟩ := S
      rw [zs_zup]
      refine ⟨fun q hq => ?_, ?_, ?_, fun i hi => ?_, ?_⟩
      · obtain ⟨j1, j2, j3, j4, j5, j6, j7⟩ := s1 q hq
        have e1 : aD (aDone p a) q = if q = p then aD a p + 1 else aD a q := rfl
        rw [e1]
        refine ⟨by simp (disch := omega) only [zup_ne]; exact j1, by simp (disch := omega) only [zup_ne]; exact j2, ?_, by simp (disch := omega) only [zup_ne]; exact j4, by simp (disch := omega) only [zup_ne]; exact j5, by simp (disch := omega) only [zup_ne]; exact j6, by simp (disch := omega) only [zup_ne]; exact j7⟩
        by_cases hqp : q = p
        · subst hqp
          rw [if_pos rfl, zup_at]; rfl
        · rw [if_neg hqp, zup_ne (by omega)]; exact j3
      · rw [zup_ne (by omega)]; exact s2
      · rw [zup_ne (by omega)]; exact s3
      · rw [zup_ne (by omega)]; exact s4 i hi
      · rw [zup_ne (by omega)]; exact s5
    have F1 : FX8 h (zs h 34 (12 + p) ((aD a p : Int) + 1)) := ⟨fun b b1 _ _ _ => zs_row_ne b1, fun j _ => by rw [zs_row_ne (by decide)]⟩
    by_cases hc : aD a p + 1 < t (66 + 4 * d)
    · rw [if_pos (by omega), if_pos hc]
      exact ⟨_, rfl, F1, SD⟩
    · rw [if_neg (by omega), if_neg hc]
      obtain ⟨h', e1, e2, e3⟩ := decX8 V (FX8_HX F1 X) (aDone_AV A D (by omega)) SD hN (FX8_GX F1 G) hT hd hp hr hw
      rw [aDec_done] at e3
      rw [e1]
      exact ⟨h', rfl, FX8_tr F1 e2, e3⟩
