/-! what may be done: filing, withdrawing -/
def canF (t : Nat → Nat) (a : hSt) (p r : Nat) : Bool := decide (aW a p = -1) && (!(aH a p).testBit r && decide (bdiff (wm t r) (aH a p) = 0))
theorem canF_w {t : Nat → Nat} {a : hSt} {p r : Nat} (h : canF t a p r = true) : aW a p = -1 := of_decide_eq_true (Bool.and_eq_true_iff.mp h).1
theorem aW_w {np nd nr : Nat} {t : Nat → Nat} {a : hSt} (A : AV np nd nr t a) {p : Nat} (hp : p < np) : -1 ≤ aW a p ∧ aW a p < nr := by
  rcases (A.1 p hp).2 with ⟨h, -⟩ | ⟨r, hr, h, -⟩ <;> omega
theorem canFM {np nd nr B : Nat} {t : Nat → Nat} {a : hSt} {g : zH} (V : HV np nd nr t) (M : HM np nd nr t g) (A : AV np nd nr t a) (S : MS np B a (g 69)) {N : Nat} (hN : 8 ≤ N) {x y : Int} (hx : zw x = x) (hy : zw y = y) : fX11_canFile N x y g = some (if (0 ≤ x ∧ x < np ∧ 0 ≤ y ∧ y < nr) ∧ canF t a x.toNat y.toNat = true then 1 else 0) := by
  have v := V.1
  unfold fX11_canFile
  rw [mpar V M hx, mpap V M hy, zq, zq]
  by_cases h1 : 0 ≤ x ∧ x < np
  · rw [if_pos h1]
    by_cases h2 : 0 ≤ y ∧ y < nr
    · rw [if_pos h2]
      obtain ⟨p, rfl⟩ := Int.eq_ofNat_of_zero_le h1.1
      obtain ⟨r, rfl⟩ := Int.eq_ofNat_of_zero_le h2.1
      have hp : p < np := by omega
      have hr : r < nr := by omega
      have hw := aW_w A hp
      have hH := (A.1 p hp).1
      obtain ⟨s1, s2, -⟩ := S.1 p hp
      have hm := wm_lt V hr
      rw [om_1 (by omega), zb_some, s2, om_0 (by omega), zb_some, s1, has_tab _ hH r (by omega), mw V M (by omega) hr, zb_some, zb_some, zandn_nat (by omega) (by omega), zw_id (show -2147483648 ≤ aW a p ∧ aW a p < 2147483648 by omega), zw_m1, Int.toNat_natCast, Int.toNat_natCast]
      have hb := bdiff_le (wm t r) (aH a p)
      rw [zw_id (show -2147483648 ≤ ((bdiff (wm t r) (aH a p) : Nat) : Int) ∧ ((bdiff (wm t r) (aH a p) : Nat) : Int) < 2147483648 by omega)]
      unfold canF
      by_cases h3 : aW a p = -1
      · rw [if_pos h3, decide_eq_true h3, Bool.true_and]
        cases (aH a p).testBit r with
        | true => exact (if_neg (by decide)).trans (by rw [if_neg (by rintro ⟨-, h⟩; cases h)])
        | false =>
          refine (if_pos (by decide)).trans ?_
          rw [Bool.not_false, Bool.true_and]
          by_cases h4 : bdiff (wm t r) (aH a p) = 0
          · rw [if_pos (by omega), if_pos ⟨by omega, decide_eq_true h4⟩]
          · rw [if_neg (by omega), if_neg (fun x => h4 (of_decide_eq_true x.2))]
      · rw [if_neg h3, decide_eq_false h3, Bool.false_and, if_neg (by rintro ⟨-, h⟩; cases h)]
    · rw [if_neg h2, if_neg (fun x => h2 ⟨x.1.2.2.1, x.1.2.2.2⟩)]
  · rw [if_neg h1, if_neg (fun x => h1 ⟨x.1.1, x.1.2.1⟩)]
theorem canWM {np nd nr B : Nat} {t : Nat → Nat} {a : hSt} {g : zH} (V : HV np nd nr t) (M : HM np nd nr t g) (A : AV np nd nr t a) (S : MS np B a (g 69)) {x : Int} (hx : zw x = x) : fX11_canWithdraw x g = some (if (0 ≤ x ∧ x < np) ∧ aW a x.toNat ≠ -1 then 1 else 0) := by
  have v := V.1
  unfold fX11_canWithdraw
  rw [mpar V M hx, zq]
  by_cases h1 : 0 ≤ x ∧ x < np
  · rw [if_pos h1]
    obtain ⟨p, rfl⟩ := Int.eq_ofNat_of_zero_le h1.1
    have hp : p < np := by omega
    have hw := aW_w A hp
    rw [om_1 (by omega), zb_some, (S.1 p hp).2.1, Int.toNat_natCast, zw_id (show -2147483648 ≤ aW a p ∧ aW a p < 2147483648 by omega), zw_m1]
    by_cases h3 : aW a p = -1
    · rw [if_pos h3, if_neg (fun x => x.2 h3)]
    · rw [if_neg h3, if_pos ⟨h1, h3⟩]
  · rw [if_neg h1, if_neg (fun x => h1 x.1)]
theorem alX7_0 {np nd nr : Nat} {t : Nat → Nat} {a : hSt} {h : zH} (V : HV np nd nr t) (X : HX np nd nr t h) (A : AV np nd nr t a) (S : XS np t a (h 30)) {x y : Int} (hx : zw x = x) (hy : zw y = y) : fX8_allows 7 2 0 x y h = if (0 ≤ x ∧ x < np ∧ 0 ≤ y ∧ y < nr) ∧ canF t a x.toNat y.toNat = true then 1 else 0 := by
  have v := V.1
  unfold fX8_allows
  rw [show zw 0 = 0 from zw_0, show zw 2 = 2 from zw_2, show zw 1 = 1 from zw_1, if_neg (show ¬ (0 : Int) = 2 by decide), if_neg (show ¬ (0 : Int) = 1 by decide), xh1 V X hx, xh3 V X hy, zq]
  by_cases h1 : 0 ≤ x ∧ x < np
  · rw [if_pos h1]
    simp only [zlet_v, zq]
    by_cases h2 : 0 ≤ y ∧ y < nr
    · rw [if_pos h2]
      obtain ⟨p, rfl⟩ := Int.eq_ofNat_of_zero_le h1.1
      obtain ⟨r, rfl⟩ := Int.eq_ofNat_of_zero_le h2.1
      have hp : p < np := by omega
      have hr : r < nr := by omega
      have hw := aW_w A hp
      have hH := (A.1 p hp).1
      obtain ⟨s1, s2, -⟩ := S.1 p hp
      have hm := wm_lt V hr
      rw [ox7_1 (by omega), s2, ox7_0 (by omega), s1, isIn_tab _ hH r (by omega), xw V X hr, zandn_nat (by omega) (by omega), zw_id (show -2147483648 ≤ aW a p ∧ aW a p < 2147483648 by omega), zw_m1, Int.toNat_natCast, Int.toNat_natCast]
      have hb := bdiff_le (wm t r) (aH a p)
      rw [zw_id (show -2147483648 ≤ ((bdiff (wm t r) (aH a p) : Nat) : Int) ∧ ((bdiff (wm t r) (aH a p) : Nat) : Int) < 2147483648 by omega)]
      unfold canF
      by_cases h3 : aW a p = -1
      · rw [if_pos h3, decide_eq_true h3, Bool.true_and]
        cases (aH a p).testBit r with
        | true => exact (if_neg (by decide)).trans (by rw [if_neg (by rintro ⟨-, h⟩; cases h)])
        | false =>
          refine (if_pos (by decide)).trans ?_
          rw [Bool.not_false, Bool.true_and]
          by_cases h4 : bdiff (wm t r) (aH a p) = 0
          · rw [if_pos (by omega), if_pos ⟨by omega, decide_eq_true h4⟩]
          · rw [if_neg (by omega), if_neg (fun x => h4 (of_decide_eq_true x.2))]
      · rw [if_neg h3, decide_eq_false h3, Bool.false_and, if_neg (by rintro ⟨-, h⟩; cases h)]
    · rw [if_neg h2, if_neg (fun x => h2 ⟨x.1.2.2.1, x.1.2.2.2⟩)]
  · rw [if_neg h1, if_neg (fun x => h1 ⟨x.1.1, x.1.2.1⟩)]
theorem alX7_1 {np nd nr : Nat} {t : Nat → Nat} {a : hSt} {h : zH} (V : HV np nd nr t) (X : HX np nd nr t h) (A : AV np nd nr t a) (S : XS np t a (h 30)) {x : Int} (hx : zw x = x) (y : Int) : fX8_allows 7 2 1 x y h = if (0 ≤ x ∧ x < np) ∧ aW a x.toNat ≠ -1 then 1 else 0 := by
  have v := V.1
  unfold fX8_allows
  rw [show zw 2 = 2 from zw_2, show zw 1 = 1 from zw_1, if_neg (by decide), if_pos rfl, xh1 V X hx, zq]
  by_cases h1 : 0 ≤ x ∧ x < np
  · rw [if_pos h1]
    obtain ⟨p, rfl⟩ := Int.eq_ofNat_of_zero_le h1.1
    have hp : p < np := by omega
    have hw := aW_w A hp
    rw [ox7_1 (by omega), (S.1 p hp).2.1, Int.toNat_natCast, zw_id (show -2147483648 ≤ aW a p ∧ aW a p < 2147483648 by omega), zw_m1]
    by_cases h3 : aW a p = -1
    · rw [if_pos h3, if_neg (fun x => x.2 h3)]
    · rw [if_neg h3, if_pos ⟨h1, h3⟩]
  · rw [if_neg h1, if_neg (fun x => h1 x.1)]
theorem alX7_2 {np : Nat} {t : Nat → Nat} {a : hSt} {h : zH} (S : XS np t a (h 30)) (hT : aT a < 20000) (x y : Int) : fX8_allows 7 2 2 x y h = if aT a < 9999 then 1 else 0 := by
  unfold fX8_allows
  have e : fX8_hour 7 h = (aT a : Int) := S.2.1
  rw [if_pos rfl, e, zw_id (show -2147483648 ≤ (aT a : Int) ∧ (aT a : Int) < 2147483648 by omega), show zw 9999 = 9999 by decide]
  by_cases h : aT a < 9999
  · rw [if_neg (by omega), if_pos h]
  · rw [if_pos (by omega), if_neg h]
theorem alX8_0 {np nd nr : Nat} {t : Nat → Nat} {a : hSt} {h : zH} (V : HV np nd nr t) (X : HX np nd nr t h) (A : AV np nd nr t a) (S : XS np t a (h 34)) {x y : Int} (hx : zw x = x) (hy : zw y = y) : fX8_allows 8 2 0 x y h = if (0 ≤ x ∧ x < np ∧ 0 ≤ y ∧ y < nr) ∧ canF t a x.toNat y.toNat = true then 1 else 0 := by
  have v := V.1
  unfold fX8_allows
  rw [show zw 0 = 0 from zw_0, show zw 2 = 2 from zw_2, show zw 1 = 1 from zw_1, if_neg (show ¬ (0 : Int) = 2 by decide), if_neg (show ¬ (0 : Int) = 1 by decide), xh1 V X hx, xh3 V X hy, zq]
  by_cases h1 : 0 ≤ x ∧ x < np
  · rw [if_pos h1]
    simp only [zlet_v, zq]
    by_cases h2 : 0 ≤ y ∧ y < nr
    · rw [if_pos h2]
      obtain ⟨p, rfl⟩ := Int.eq_ofNat_of_zero_le h1.1
      obtain ⟨r, rfl⟩ := Int.eq_ofNat_of_zero_le h2.1
      have hp : p < np := by omega
      have hr : r < nr := by omega
      have hw := aW_w A hp
      have hH := (A.1 p hp).1
      obtain ⟨s1, s2, -⟩ := S.1 p hp
      have hm := wm_lt V hr
      rw [ox8_1 (by omega), s2, ox8_0 (by omega), s1, isIn_tab _ hH r (by omega), xw V X hr, zandn_nat (by omega) (by omega), zw_id (show -2147483648 ≤ aW a p ∧ aW a p < 2147483648 by omega), zw_m1, Int.toNat_natCast, Int.toNat_natCast]
      have hb := bdiff_le (wm t r) (aH a p)
      rw [zw_id (show -2147483648 ≤ ((bdiff (wm t r) (aH a p) : Nat) : Int) ∧ ((bdiff (wm t r) (aH a p) : Nat) : Int) < 2147483648 by omega)]
      unfold canF
      by_cases h3 : aW a p = -1
      · rw [if_pos h3, decide_eq_true h3, Bool.true_and]
        cases (aH a p).testBit r with
        | true => exact (if_neg (by decide)).trans (by rw [if_neg (by rintro ⟨-, h⟩; cases h)])
        | false =>
          refine (if_pos (by decide)).trans ?_
          rw [Bool.not_false, Bool.true_and]
          by_cases h4 : bdiff (wm t r) (aH a p) = 0
          · rw [if_pos (by omega), if_pos ⟨by omega, decide_eq_true h4⟩]
          · rw [if_neg (by omega), if_neg (fun x => h4 (of_decide_eq_true x.2))]
      · rw [if_neg h3, decide_eq_false h3, Bool.false_and, if_neg (by rintro ⟨-, h⟩; cases h)]
    · rw [if_neg h2, if_neg (fun x => h2 ⟨x.1.2.2.1, x.1.2.2.2⟩)]
  · rw [if_neg h1, if_neg (fun x => h1 ⟨x.1.1, x.1.2.1⟩)]
theorem alX8_1 {np nd nr : Nat} {t : Nat → Nat} {a : hSt} {h : zH} (V : HV np nd nr t) (X : HX np nd nr t h) (A : AV np nd nr t a) (S : XS np t a (h 34)) {x : Int} (hx : zw x = x) (y : Int) : fX8_allows 8 2 1 x y h = if (0 ≤ x ∧ x < np) ∧ aW a x.toNat ≠ -1 then 1 else 0 := by
  have v := V.1
  unfold fX8_allows
  rw [show zw 2 = 2 from zw_2, show zw 1 = 1 from zw_1, if_neg (by decide), if_pos rfl, xh1 V X hx, zq]
  by_cases h1 : 0 ≤ x ∧ x < np
  · rw [if_pos h1]
    obtain ⟨p, rfl⟩ := Int.eq_ofNat_of_zero_le h1.1
    have hp : p < np := by omega
    have hw := aW_w A hp
    rw [ox8_1 (by omega), (S.1 p hp).2.1, Int.toNat_natCast, zw_id (show -2147483648 ≤ aW a p ∧ aW a p < 2147483648 by omega), zw_m1]
    by_cases h3 : aW a p = -1
    · rw [if_pos h3, if_neg (fun x => x.2 h3)]
    · rw [if_neg h3, if_pos ⟨h1, h3⟩]
  · rw [if_neg h1, if_neg (fun x => h1 x.1)]
theorem alX8_2 {np : Nat} {t : Nat → Nat} {a : hSt} {h : zH} (S : XS np t a (h 34)) (hT : aT a < 20000) (x y : Int) : fX8_allows 8 2 2 x y h = if aT a < 9999 then 1 else 0 := by
  unfold fX8_allows
  have e : fX8_hour 8 h = (aT a : Int) := S.2.1
  rw [if_pos rfl, e, zw_id (show -2147483648 ≤ (aT a : Int) ∧ (aT a : Int) < 2147483648 by omega), show zw 9999 = 9999 by decide]
  by_cases h : aT a < 9999
  · rw [if_neg (by omega), if_pos h]
  · rw [if_pos (by omega), if_neg h]
/-! the hill with its acts -/
abbrev hW : Type := hSt × List hSt
def WOK (np nd nr : Nat) (t : Nat → Nat) (x : hW) : Prop := AOK np nd nr t x.1 ∧ (∀ a, a ∈ x.2 → AOK np nd nr t a) ∧ x.2.length ≤ 40 ∧ (x.1 :: x.2).Pairwise (fun a b => (aL b).length ≤ (aL a).length)
def CW (np nd nr : Nat) (t : Nat → Nat) (lim : Nat) (x : hW) (h : zH) : Prop := HX np nd nr t h ∧ XS np t x.1 (h 30) ∧ XD (aL x.1) (h 31) ∧ AX np t lim x.2 h ∧ ∀ a, a ∈ x.2 → XD (aL a) (h 31)
def MW (np nd nr : Nat) (t : Nat → Nat) (B : Nat) (x : hW) (g : zH) : Prop := HM np nd nr t g ∧ MS np B x.1 (g 69) ∧ AMo np B x.2 g
theorem AX_to {np : Nat} {t : Nat → Nat} {lim lim' : Nat} {acts : List hSt} {h h' : zH} (H : AX np t lim acts h) (hl : lim ≤ lim') (e0 : h' 10 0 = h 10 0) (e2 : h' 10 2 = h 10 2) (e42 : h' 42 = h 42) : AX np t lim' acts h' := by
  obtain ⟨H1, l, H2, H3, H4, H5⟩ := H
  exact ⟨e0.trans H1, l, e2.trans H2, H3, by omega, by rw [e42]; exact H5⟩
theorem AMo_to {np B B' : Nat} {acts : List hSt} {g g' : zH} (H : AMo np B acts g) (hB : B ≤ B') (e : g' 14 38 = g 14 38) (e70 : g' 70 = g 70) : AMo np B' acts g' := by
  obtain ⟨H1, H2⟩ := H
  exact ⟨e.trans H1, fun i a hi => MS_B hB (by rw [e70]; exact H2 i a hi)⟩
theorem CW_to {np nd nr : Nat} {t : Nat → Nat} {lim lim' : Nat} {x : hW} {h h' : zH} (H : CW np nd nr t lim x h) (hl : lim ≤ lim') (e10 : h' 10 = h 10) (e16 : h' 16 = h 16) (e17 : h' 17 = h 17) (e18 : h' 18 = h 18) (e30 : h' 30 = h 30) (e31 : h' 31 = h 31) (e42 : h' 42 = h 42) : CW np nd nr t lim' x h' := by
  obtain ⟨H1, H2, H3, H4, H5⟩ := H
  exact ⟨HX_to H1 e16 e17 e18, by rw [e30]; exact H2, by rw [e31]; exact H3, AX_to H4 hl (by rw [e10]) (by rw [e10]) e42, by rw [e31]; exact H5⟩
theorem MW_B {np nd nr B B' : Nat} {t : Nat → Nat} {x : hW} {g : zH} (H : MW np nd nr t B x g) (hB : B ≤ B') : MW np nd nr t B' x g := ⟨H.1, MS_B hB H.2.1, AMo_to H.2.2 hB rfl rfl⟩
theorem WOK_keep {np nd nr : Nat} {t : Nat → Nat} {x : hW} (O : WOK np nd nr t x) : WOK np nd nr t (x.1, wKeep x.1 x.2) := by
  obtain ⟨o1, o2, o3, o4⟩ := O
  refine ⟨o1, fun a ha => ?_, ?_, ?_⟩
  · rcases wKeep_mem ha with rfl | h
    · exact o1
    · exact o2 a h
  · show (wKeep x.1 x.2).length ≤ 40
    rw [wKeep_len o3]
    split <;> omega
  · refine List.pairwise_cons.mpr ⟨fun b hb => ?_, List.Pairwise.sublist (List.take_sublist 40 _) o4⟩
    rcases wKeep_mem hb with rfl | h
    · exact Nat.le_refl _
    · exact (List.pairwise_cons.mp o4).1 b h
theorem WOK_set {np nd nr : Nat} {t : Nat → Nat} {x : hW} {b : hSt} (O : WOK np nd nr t x) (B : AOK np nd nr t b) (hl : (aL x.1).length ≤ (aL b).length) : WOK np nd nr t (b, x.2) := by
  obtain ⟨o1, o2, o3, o4⟩ := O
  refine ⟨B, o2, o3, List.pairwise_cons.mpr ⟨fun c hc => Nat.le_trans ((List.pairwise_cons.mp o4).1 c hc) hl, (List.pairwise_cons.mp o4).2⟩⟩
theorem CW_keep {np nd nr : Nat} {t : Nat → Nat} {lim : Nat} {x : hW} {h : zH} (V : HV np nd nr t) (O : WOK np nd nr t x) (H : CW np nd nr t lim x h) (hlim : lim < 1000000000) : ∃ h', fX0_keep 7 h = some h' ∧ FR [10, 42] h h' ∧ CW np nd nr t (lim + 1) (x.1, wKeep x.1 x.2) h' := by
  obtain ⟨H1, H2, H3, H4, H5⟩ := H
  obtain ⟨h', e1, e2, e3⟩ := keepAX V O.1 O.2.1 O.2.2.1 H4 hlim H2
  have e31 : h' 31 = h 31 := e2 31 (by decide)
  refine ⟨h', e1, e2, HX_to H1 (e2 16 (by decide)) (e2 17 (by decide)) (e2 18 (by decide)), by rw [e2 30 (by decide)]; exact H2, by rw [e31]; exact H3, e3, fun a ha => ?_⟩
  rw [e31]
  rcases wKeep_mem ha with rfl | h
  · exact H3
  · exact H5 a h
theorem MW_keep {np nd nr B : Nat} {t : Nat → Nat} {x : hW} {g : zH} (V : HV np nd nr t) (O : WOK np nd nr t x) (H : MW np nd nr t B x g) {N : Nat} (hN : 6600 ≤ N) : ∃ g', fX11_keep N g = some g' ∧ FR [14, 70] g g' ∧ FS 14 [38] g g' ∧ MW np nd nr t B (x.1, wKeep x.1 x.2) g' := by
  obtain ⟨H1, H2, H3⟩ := H
  obtain ⟨g', e1, e2, e2', e3⟩ := keepAM V O.1 O.2.1 O.2.2.1 H3 H2 hN
  exact ⟨g', e1, e2, e2', HM_to H1 ⟨e2' 28 (by decide), e2' 29 (by decide), e2' 30 (by decide)⟩ (e2 63 (by decide)) (e2 64 (by decide)) (e2 65 (by decide)) (e2 66 (by decide)), by rw [e2 69 (by decide)]; exact H2, e3⟩
