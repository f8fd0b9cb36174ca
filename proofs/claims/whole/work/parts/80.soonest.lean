/-! soonest, earliest of both -/
def Lp (t : Nat → Nat) (nr : Nat) (a : hSt) (p b : Nat) : Nat := lck t nr (aH a p ||| b) (bdiff (2 ^ t (32 + 4 * p)) (aH a p ||| b))
theorem Lp_f {np nd nr : Nat} {t : Nat → Nat} {a : hSt} (V : HV np nd nr t) (A : AV np nd nr t a) {p b : Nat} (hp : p < np) (hb : b < 256) : aH a p ||| b < 256 ∧ Lp t nr a p b < 256 ∧ inP nr (aH a p ||| b) (Lp t nr a p b) ∧ ∀ r, r < nr → (Lp t nr a p b).testBit r = true → sub (bdiff (wm t r) (aH a p ||| b)) (Lp t nr a p b) := by
  have v := V.1
  have hf := (V.2.2.2.1 p hp).1
  have hH := (A.1 p hp).1
  have p8 : 2 ^ t (32 + 4 * p) < 2 ^ 8 := Nat.pow_lt_pow_right (by decide) (by omega)
  have hd8 : aH a p ||| b < 2 ^ 8 := Nat.or_lt_two_pow hH hb
  have hs := bdiff_le (2 ^ t (32 + 4 * p)) (aH a p ||| b)
  refine ⟨hd8, lck_lt V (by omega), lck_in V (fun i hi => ?_), fun r hr h => lck_closed V (by omega) hr h⟩
  have h8 := bit_lt (show bdiff (2 ^ t (32 + 4 * p)) (aH a p ||| b) < 256 by omega) hi
  rw [bdiff_bit _ _ _ (by omega), Bool.and_eq_true, Nat.testBit_two_pow] at hi
  refine ⟨by have := of_decide_eq_true hi.1; omega, ?_⟩
  cases hc : (aH a p ||| b).testBit i with
  | true => rw [hc] at hi; cases hi.2
  | false => rfl
theorem lacksOfX {np nd nr : Nat} {t : Nat → Nat} {a : hSt} {h : zH} (V : HV np nd nr t) (X : HX np nd nr t h) (A : AV np nd nr t a) (S : XS np t a (h 30)) {N : Nat} (hN : 10 ≤ N) {p b : Nat} (hp : p < np) (hb : b < 256) : fX10_lacksOf N (p : Int) (b : Int) h = some (Lp t nr a p b : Int) := by
  have v := V.1
  have hf := (V.2.2.2.1 p hp).1
  have hH := (A.1 p hp).1
  have p8 : 2 ^ t (32 + 4 * p) < 2 ^ 8 := Nat.pow_lt_pow_right (by decide) (by omega)
  have hd8 : aH a p ||| b < 2 ^ 8 := Nat.or_lt_two_pow hH hb
  unfold fX10_lacksOf
  rw [xi10 V X hp, ox7_0 (by omega), (S.1 p hp).1, zshl_1 _ (by omega), zor_nat (by omega) (by omega), lckX V X hN (by omega) (by omega)]
  rfl
theorem lacksM {np nd nr : Nat} {t : Nat → Nat} {a : hSt} {g : zH} (V : HV np nd nr t) (M : HM np nd nr t g) (A : AV np nd nr t a) {N : Nat} (hN : 10 ≤ N) {p b : Nat} (hp : p < np) (hb : b < 256) : fX11_lacks N (p : Int) ((aH a p ||| b : Nat) : Int) g = some (Lp t nr a p b : Int) := lckM V M hN (Nat.or_lt_two_pow (n := 8) (A.1 p hp).1 hb) hp
/-- the best row of a parish -/
def sBl (t : Nat → Nat) (nr : Nat) (a : hSt) (p : Nat) : hBr := bl t nr 8 (Lp t nr a p 0) (aT a % 24)
theorem layM {np nd nr : Nat} {t : Nat → Nat} {a : hSt} {g : zH} (V : HV np nd nr t) (M : HM np nd nr t g) (A : AV np nd nr t a) (hT : g 69 42 = (aT a : Int)) (hT2 : aT a ≤ 9999) {N : Nat} (hN : 1100 ≤ N) {p : Nat} (hp : p < np) : ∃ g', fX11_laySoonest N (p : Int) (aH a p : Int) g = some g' ∧ FR [14] g g' ∧ FS 14 [40, 41, 42] g g' ∧ g' 14 41 = hrs (sBl t nr a p) ∧ ∀ z, sBl t nr a p = some z → g' 14 40 = (if Lp t nr a p 0 = 0 then -1 else (z.2.1 : Int)) ∧ g' 14 42 = (z.2.2 : Int) := by
  have v := V.1
  obtain ⟨q1, q2, q3, q4⟩ := Lp_f V A hp (b := 0) (by decide)
  rw [Nat.or_zero] at q1 q3 q4
  have F1 : FR [14] g (zs (zs (zs g 14 41 (-1)) 14 40 (-1)) 14 42 0) := fun b hb => by
    have : b ≠ 14 := fun e => hb (by rw [e]; decide)
    rw [zs_row_ne this, zs_row_ne this, zs_row_ne this]
  have F2 : FS 14 [40, 41, 42] g (zs (zs (zs g 14 41 (-1)) 14 40 (-1)) 14 42 0) := fun j hj => by
    rw [zs_ne (fun e => hj (by rw [e]; decide)), zs_ne (fun e => hj (by rw [e]; decide)), zs_ne (fun e => hj (by rw [e]; decide))]
  have M1 : HM np nd nr t (zs (zs (zs g 14 41 (-1)) 14 40 (-1)) 14 42 0) := HM_to M ⟨F2 28 (by decide), F2 29 (by decide), F2 30 (by decide)⟩ (F1 63 (by decide)) (F1 64 (by decide)) (F1 65 (by decide)) (F1 66 (by decide))
  have lk := lacksM V M1 A (N := N) (by omega) hp (b := 0) (by decide)
  rw [Nat.or_zero] at lk
  have hc8 := cb_le (Lp t nr a p 0)
  have e42 : zs (zs (zs g 14 41 (-1)) 14 40 (-1)) 14 42 0 69 42 = (aT a : Int) := by rw [F1 69 (by decide)]; exact hT
  obtain ⟨g2, f1, f2, f3, f4⟩ := tryM V hN q4 q3 60 (Lp t nr a p 0) (aH a p) (aT a) 0 0 none _ M1 e42 (Nat.le_refl _) (by omega) q2 (fun _ h => h) q1 (fun i hi => by
    cases h1 : (Lp t nr a p 0).testBit i with
    | true => rw [Bool.not_true, Bool.and_false, Bool.or_false]
    | false => rw [Bool.false_and, Bool.or_false]) (by omega) (fun x hx => by cases hx) (by show zs (zs (zs g 14 41 (-1)) 14 40 (-1)) 14 42 0 14 41 = -1; rw [zs_ne (by decide), zs_ne (by decide), zs_at])
  unfold fX11_laySoonest
  simp only [zlet_v]
  rw [lk, zb_some, e42, show fX11_tryRows N (Lp t nr a p 0 : Int) (aH a p : Int) (aT a : Int) 0 0 (zs (zs (zs g 14 41 (-1)) 14 40 (-1)) 14 42 0) = some g2 from f1, zb_some, zw_id (show -2147483648 ≤ (Lp t nr a p 0 : Int) ∧ (Lp t nr a p 0 : Int) < 2147483648 by omega)]
  have f4' : AC (sBl t nr a p) g2 := by
    have : (bl t nr 8 (Lp t nr a p 0) (aT a % 24)).map (shf (aT a - aT a) (0 * 10 ^ cb (Lp t nr a p 0)) 0) = sBl t nr a p := by
      unfold sBl
      cases bl t nr 8 (Lp t nr a p 0) (aT a % 24) with
      | none => rfl
      | some x =>
        show some (aT a - aT a + x.1, 0 * 10 ^ cb (Lp t nr a p 0) + x.2.1, 0 + x.2.2) = some x
        rw [Nat.sub_self, Nat.zero_mul, Nat.zero_add, Nat.zero_add, Nat.zero_add]
    rw [this] at f4
    exact f4
  have e41 : g2 14 41 = hrs (sBl t nr a p) := by
    cases hs : sBl t nr a p with
    | none => rw [hs] at f4'; exact f4'
    | some x => rw [hs] at f4'; exact f4'.1
  by_cases h0 : Lp t nr a p 0 = 0
  · rw [if_pos (show (Lp t nr a p 0 : Int) = 0 by omega)]
    refine ⟨zs g2 14 40 (-1), rfl, FR_tr F1 (FR_tr f2 (fun b hb => zs_row_ne (fun e => hb (by rw [e]; decide)))), FS_tr F2 (FS_tr f3 (fun j hj => zs_ne (fun e => hj (by rw [e]; decide)))), by rw [zs_ne (by decide)]; exact e41, fun z hz => ⟨by rw [if_pos h0]; exact zs_at, ?_⟩⟩
    rw [hz] at f4'
    rw [zs_ne (by decide)]; exact f4'.2.2
  · rw [if_neg (show ¬ (Lp t nr a p 0 : Int) = 0 by omega)]
    refine ⟨zs g2 14 40 (g2 14 40), rfl, FR_tr F1 (FR_tr f2 (fun b hb => zs_row_ne (fun e => hb (by rw [e]; decide)))), FS_tr F2 (FS_tr f3 (fun j hj => zs_ne (fun e => hj (by rw [e]; decide)))), by rw [zs_ne (by decide)]; exact e41, fun z hz => ?_⟩
    rw [hz] at f4'
    exact ⟨by rw [if_neg h0, zs_at]; exact f4'.2.1, by rw [zs_ne (by decide)]; exact f4'.2.2⟩
def wSoon (t : Nat → Nat) (nr : Nat) (a : hSt) (p c : Nat) : Int := match sBl t nr a p with
  | none => -1
  | some z => if c = 0 then (z.1 : Int) else if c = 1 then (if Lp t nr a p 0 = 0 then -1 else (z.2.1 : Int)) else (z.2.2 : Int)
theorem soonX {np nd nr : Nat} {t : Nat → Nat} {a : hSt} {h : zH} (V : HV np nd nr t) (X : HX np nd nr t h) (A : AV np nd nr t a) (S : XS np t a (h 30)) (hT : aT a ≤ 9999) (K : KM t nr h) {N : Nat} (hN : 10 ≤ N) {x y : Int} (hx : zw x = x) (hy : zw y = y) : (¬ ((0 ≤ x ∧ x < np) ∧ 0 ≤ y ∧ y ≤ 2) → fX10_soonest N x y h = some (-1, h)) ∧ ((0 ≤ x ∧ x < np) ∧ 0 ≤ y ∧ y ≤ 2 → ∃ h', fX10_soonest N x y h = some (wSoon t nr a x.toNat y.toNat, h') ∧ FR [43] h h' ∧ KM t nr h') := by
  have v := V.1
  refine ⟨fun hc => ?_, fun hc => ?_⟩
  · unfold fX10_soonest
    rw [xh1 V X hx, zq, hy, zw_2]
    by_cases h1 : 0 ≤ x ∧ x < np
    · rw [if_pos h1]
      by_cases h2 : y < 0
      · rw [if_pos h2]
      · rw [if_neg h2, if_neg (by omega)]
    · rw [if_neg h1]
  · obtain ⟨c1, c2⟩ := hc
    obtain ⟨p, rfl⟩ := Int.eq_ofNat_of_zero_le c1.1
    obtain ⟨c, rfl⟩ := Int.eq_ofNat_of_zero_le c2.1
    have hp : p < np := by omega
    rw [Int.toNat_natCast, Int.toNat_natCast]
    obtain ⟨q1, q2, q3, q4⟩ := Lp_f V A hp (b := 0) (by decide)
    have htm : aT a % 24 < 24 := Nat.mod_lt _ (by decide)
    obtain ⟨h1, e1, e2, e3⟩ := hrsX V hN X K q2 htm
    have X1 : HX np nd nr t h1 := HX_to X (e2 16 (by decide)) (e2 17 (by decide)) (e2 18 (by decide))
    have S1 : XS np t a (h1 30) := by rw [e2 30 (by decide)]; exact S
    have hb := hrs_b V q2 htm
    unfold fX10_soonest fX3_hours
    rw [xh1 V X hx, zq, hy, zw_2, if_pos c1, if_neg (by omega), if_pos (by omega), show fX10_lacksOf N (p : Int) 0 h = some (Lp t nr a p 0 : Int) from lacksOfX V X A S hN hp (b := 0) (by decide), zb_some, timX7 S.2.1 (by omega), e1, z2_some, z2_some, zw_id (show -2147483648 ≤ hrs (bl t nr 8 (Lp t nr a p 0) (aT a % 24)) ∧ hrs (bl t nr 8 (Lp t nr a p 0) (aT a % 24)) < 2147483648 by omega), zw_m1, timX7 S1.2.1 (by omega), zw_1]
    unfold wSoon sBl
    cases hbl : bl t nr 8 (Lp t nr a p 0) (aT a % 24) with
    | none =>
      rw [show hrs none = -1 from rfl, if_pos rfl]
      exact ⟨h1, rfl, e2, e3⟩
    | some z =>
      rw [show hrs (some z) = (z.1 : Int) from rfl, if_neg (by omega)]
      dsimp only
      by_cases c0 : c = 0
      · rw [if_pos (by omega), if_pos c0]
        exact ⟨h1, rfl, e2, e3⟩
      · rw [if_neg (by omega), if_neg c0]
        by_cases c11 : c = 1
        · rw [if_pos (by omega), if_pos c11]
          obtain ⟨h2, f1, f2, f3⟩ := rowX V hN X1 e3 q2 htm hbl
          rw [f1, z2_some]
          exact ⟨h2, rfl, FR_tr e2 f2, f3⟩
        · rw [if_neg (by omega), if_neg c11, feesX V hN X1 q2, zb_some, bl_fee V _ q2 _ z hbl]
          exact ⟨h1, rfl, e2, e3⟩
theorem soonM {np nd nr B : Nat} {t : Nat → Nat} {a : hSt} {g : zH} (V : HV np nd nr t) (M : HM np nd nr t g) (A : AV np nd nr t a) (S : MS np B a (g 69)) (hT : aT a ≤ 9999) {N : Nat} (hN : 1100 ≤ N) {x y : Int} (hx : zw x = x) (hy : zw y = y) : (¬ ((0 ≤ x ∧ x < np) ∧ 0 ≤ y ∧ y ≤ 2) → fX11_soonest N x y g = some (-1, g)) ∧ ((0 ≤ x ∧ x < np) ∧ 0 ≤ y ∧ y ≤ 2 → ∃ g', fX11_soonest N x y g = some (wSoon t nr a x.toNat y.toNat, g') ∧ FR [14] g g' ∧ FS 14 [40, 41, 42] g g') := by
  have v := V.1
  refine ⟨fun hc => ?_, fun hc => ?_⟩
  · unfold fX11_soonest
    rw [mpar V M hx, in_eq hy zw_0 zw_2, zq, zq]
    by_cases h1 : 0 ≤ x ∧ x < np
    · rw [if_pos h1, if_neg (fun e => hc ⟨h1, e⟩)]
    · rw [if_neg h1]
  · obtain ⟨c1, c2⟩ := hc
    obtain ⟨p, rfl⟩ := Int.eq_ofNat_of_zero_le c1.1
    obtain ⟨c, rfl⟩ := Int.eq_ofNat_of_zero_le c2.1
    have hp : p < np := by omega
    rw [Int.toNat_natCast, Int.toNat_natCast]
    obtain ⟨g1, e1, e2, e3, e4, e5⟩ := layM V M A S.2.1 hT hN hp
    have hb := hrs_b V (Lp_f V A hp (b := 0) (by decide)).2.1 (Nat.mod_lt (aT a) (show 0 < 24 by decide))
    unfold fX11_soonest
    rw [mpar V M hx, in_eq hy zw_0 zw_2, zq, zq, if_pos c1, if_pos c2, om_0 (by omega), zb_some, (S.1 p hp).1, e1, zb_some, e4, hy, zw_m1, zw_1]
    unfold wSoon
    cases hbl : sBl t nr a p with
    | none =>
      rw [show hrs none = -1 from rfl, zw_m1, if_pos rfl]
      exact ⟨g1, rfl, e2, e3⟩
    | some z =>
      obtain ⟨u1, u2⟩ := e5 z hbl
      unfold sBl at hbl
      rw [hbl] at hb
      have hb' : -1 ≤ (z.1 : Int) ∧ (z.1 : Int) ≤ 8000 := hb
      rw [show hrs (some z) = (z.1 : Int) from rfl, zw_id (show -2147483648 ≤ (z.1 : Int) ∧ (z.1 : Int) < 2147483648 by omega), if_neg (by omega), u1, u2]
      dsimp only
      by_cases c0 : c = 0
      · rw [if_pos (by omega), if_pos c0]
        exact ⟨g1, rfl, e2, e3⟩
      · rw [if_neg (by omega), if_neg c0]
        by_cases c11 : c = 1
        · rw [if_pos (by omega), if_pos c11]
          exact ⟨g1, rfl, e2, e3⟩
        · rw [if_neg (by omega), if_neg c11]
          exact ⟨g1, rfl, e2, e3⟩
/-- whose row is the shortest -/
def eb (f : Nat → Int) : Nat → Int × Int
  | 0 => (-1, -1)
  | n + 1 => if f n = -1 then eb f n else if (eb f n).1 = -1 then ((n : Int), f n) else if (eb f n).2 ≤ f n then eb f n else ((n : Int), f n)
theorem eb_b {f : Nat → Int} {n : Nat} (hf : ∀ i, i < n → -1 ≤ f i ∧ f i ≤ 8000) : -1 ≤ (eb f n).1 ∧ (eb f n).1 < (n : Int) + 1 ∧ -1 ≤ (eb f n).2 ∧ (eb f n).2 ≤ 8000 := by
  induction n with
  | zero =>
    show -1 ≤ (-1 : Int) ∧ (-1 : Int) < ((0 : Nat) : Int) + 1 ∧ -1 ≤ (-1 : Int) ∧ (-1 : Int) ≤ 8000
    omega
  | succ n ih =>
    have h1 := ih (fun i hi => hf i (by omega))
    have h2 := hf n (by omega)
    unfold eb
    split
    · omega
    · split
      · show -1 ≤ (n : Int) ∧ (n : Int) < ((n + 1 : Nat) : Int) + 1 ∧ -1 ≤ f n ∧ f n ≤ 8000
        omega
      · split
        · omega
        · show -1 ≤ (n : Int) ∧ (n : Int) < ((n + 1 : Nat) : Int) + 1 ∧ -1 ≤ f n ∧ f n ≤ 8000
          omega
theorem earX {np nd nr : Nat} {t : Nat → Nat} {a : hSt} {h : zH} (V : HV np nd nr t) (X : HX np nd nr t h) (A : AV np nd nr t a) (S : XS np t a (h 30)) (hT : aT a ≤ 9999) (K : KM t nr h) {N : Nat} (hN : 10 ≤ N) : ∃ h', fX10_earliest N h = some ((eb (fun p => hrs (sBl t nr a p)) np).1, h') ∧ FR [43] h h' ∧ KM t nr h' := by
  have v := V.1
  have htm : aT a % 24 < 24 := Nat.mod_lt _ (by decide)
  have hf : ∀ i, i < np → -1 ≤ hrs (sBl t nr a i) ∧ hrs (sBl t nr a i) ≤ 8000 := fun i hi => hrs_b V (Lp_f V A hi (b := 0) (by decide)).2.1 htm
  refine zloopq (F := fun k i (s : Int × Int × zH) => fX10_earliest_c6 N k s.1 s.2.1 i s.2.2) (n := np) (s := (-1, -1, h)) (fun i s => (s.1 = (eb (fun p => hrs (sBl t nr a p)) i).1 ∧ s.2.1 = (eb (fun p => hrs (sBl t nr a p)) i).2) ∧ FR [43] h s.2.2 ∧ KM t nr s.2.2) (fun b => ∃ h', b = some ((eb (fun p => hrs (sBl t nr a p)) np).1, h') ∧ FR [43] h h' ∧ KM t nr h') (fun k i s hi hI => ?_) (fun k s hI => ?_) (by omega) ⟨⟨rfl, rfl⟩, FR_rf, K⟩
  · obtain ⟨b, f, s⟩ := s
    obtain ⟨⟨i0, i1⟩, i2, i3⟩ := hI
    dsimp only at i0 i1 i2 i3 ⊢
    have Xs : HX np nd nr t s := HX_to X (i2 16 (by decide)) (i2 17 (by decide)) (i2 18 (by decide))
    have Ss : XS np t a (s 30) := by rw [i2 30 (by decide)]; exact S
    obtain ⟨q1, q2, q3, q4⟩ := Lp_f V A hi (b := 0) (by decide)
    obtain ⟨h1, e1, e2, e3⟩ := hrsX V hN Xs i3 q2 htm
    have bb := eb_b (f := fun p => hrs (sBl t nr a p)) (n := i) (fun j hj => hf j (by omega))
    have hfi := hf i hi
    have e : fX10_earliest_c6 N (k + 1) b f (i : Int) s = if hrs (sBl t nr a i) = -1 then fX10_earliest_c6 N k b f ((i + 1 : Nat) : Int) h1 else if b = -1 then fX10_earliest_c6 N k (i : Int) (hrs (sBl t nr a i)) ((i + 1 : Nat) : Int) h1 else if f ≤ hrs (sBl t nr a i) then fX10_earliest_c6 N k b f ((i + 1 : Nat) : Int) h1 else fX10_earliest_c6 N k (i : Int) (hrs (sBl t nr a i)) ((i + 1 : Nat) : Int) h1 := by
      show fX10_earliest_c6b N (fX10_earliest_c6 N k) _ _ _ _ = _
      unfold fX10_earliest_c6b fX3_hours
      rw [xm1 Xs, zw_id (show -2147483648 ≤ (np : Int) ∧ (np : Int) < 2147483648 by omega), zw_id (show -2147483648 ≤ (i : Int) ∧ (i : Int) < 2147483648 by omega), if_neg (by omega), show fX10_lacksOf N (i : Int) 0 s = some (Lp t nr a i 0 : Int) from lacksOfX V Xs A Ss hN hi (b := 0) (by decide), zb_some, timX7 Ss.2.1 (by omega), e1, z2_some, z2_some, show bl t nr 8 (Lp t nr a i 0) (aT a % 24) = sBl t nr a i from rfl, zw_id (show -2147483648 ≤ hrs (sBl t nr a i) ∧ hrs (sBl t nr a i) < 2147483648 by omega), zw_m1, zw_id (show -2147483648 ≤ b ∧ b < 2147483648 by omega), zw_id (show -2147483648 ≤ f ∧ f < 2147483648 by omega)]
      rfl
    left
    have ee : eb (fun p => hrs (sBl t nr a p)) (i + 1) = if hrs (sBl t nr a i) = -1 then eb (fun p => hrs (sBl t nr a p)) i else if (eb (fun p => hrs (sBl t nr a p)) i).1 = -1 then ((i : Int), hrs (sBl t nr a i)) else if (eb (fun p => hrs (sBl t nr a p)) i).2 ≤ hrs (sBl t nr a i) then eb (fun p => hrs (sBl t nr a p)) i else ((i : Int), hrs (sBl t nr a i)) := rfl
    rw [ee, ← i0, ← i1]
    by_cases c1 : hrs (sBl t nr a i) = -1
    · rw [if_pos c1] at e ⊢
      exact ⟨(b, f, h1), e, ⟨i0, i1⟩, FR_tr i2 e2, e3⟩
    · rw [if_neg c1] at e ⊢
      by_cases c2 : b = -1
      · rw [if_pos c2] at e ⊢
        exact ⟨((i : Int), hrs (sBl t nr a i), h1), e, ⟨rfl, rfl⟩, FR_tr i2 e2, e3⟩
      · rw [if_neg c2] at e ⊢
        by_cases c3 : f ≤ hrs (sBl t nr a i)
        · rw [if_pos c3] at e ⊢
          exact ⟨(b, f, h1), e, ⟨i0, i1⟩, FR_tr i2 e2, e3⟩
        · rw [if_neg c3] at e ⊢
          exact ⟨((i : Int), hrs (sBl t nr a i), h1), e, ⟨rfl, rfl⟩, FR_tr i2 e2, e3⟩
  · obtain ⟨b, f, s⟩ := s
    obtain ⟨⟨i0, i1⟩, i2, i3⟩ := hI
    dsimp only at i0 i1 i2 i3 ⊢
    have Xs : HX np nd nr t s := HX_to X (i2 16 (by decide)) (i2 17 (by decide)) (i2 18 (by decide))
    refine ⟨s, ?_, i2, i3⟩
    show fX10_earliest_c6b N (fX10_earliest_c6 N k) _ _ _ _ = _
    unfold fX10_earliest_c6b
    rw [xm1 Xs, if_pos (by omega), i0]
theorem earM {np nd nr B : Nat} {t : Nat → Nat} {a : hSt} {g : zH} (V : HV np nd nr t) (M : HM np nd nr t g) (A : AV np nd nr t a) (S : MS np B a (g 69)) (hT : aT a ≤ 9999) {N : Nat} (hN : 1100 ≤ N) : ∃ g', fX11_earliest N g = some ((eb (fun p => hrs (sBl t nr a p)) np).1, g') ∧ FR [14] g g' ∧ FS 14 [40, 41, 42] g g' := by
  have v := V.1
  have htm : aT a % 24 < 24 := Nat.mod_lt _ (by decide)
  have hf : ∀ i, i < np → -1 ≤ hrs (sBl t nr a i) ∧ hrs (sBl t nr a i) ≤ 8000 := fun i hi => hrs_b V (Lp_f V A hi (b := 0) (by decide)).2.1 htm
  refine zloopq (F := fun k i (s : Int × Int × zH) => fX11_earliest_c6 N k s.1 s.2.1 i s.2.2) (n := np) (s := (-1, 0, g)) (fun i s => (s.1 = (eb (fun p => hrs (sBl t nr a p)) i).1 ∧ (s.1 ≠ -1 → s.2.1 = (eb (fun p => hrs (sBl t nr a p)) i).2)) ∧ FR [14] g s.2.2 ∧ FS 14 [40, 41, 42] g s.2.2) (fun b => ∃ g', b = some ((eb (fun p => hrs (sBl t nr a p)) np).1, g') ∧ FR [14] g g' ∧ FS 14 [40, 41, 42] g g') (fun k i s hi hI => ?_) (fun k s hI => ?_) (by omega) ⟨⟨rfl, fun h => absurd rfl h⟩, FR_rf, FS_rf⟩
  · obtain ⟨b, f, s⟩ := s
    obtain ⟨⟨i0, i1⟩, i2, i3⟩ := hI
    dsimp only at i0 i1 i2 i3 ⊢
    have Ms : HM np nd nr t s := HM_to M ⟨i3 28 (by decide), i3 29 (by decide), i3 30 (by decide)⟩ (i2 63 (by decide)) (i2 64 (by decide)) (i2 65 (by decide)) (i2 66 (by decide))
    have e69 : s 69 = g 69 := i2 69 (by decide)
    obtain ⟨h1, e1, e2, e3, e4, -⟩ := layM V Ms A (by rw [e69]; exact S.2.1) hT hN hi
    have bb := eb_b (f := fun p => hrs (sBl t nr a p)) (n := i) (fun j hj => hf j (by omega))
    have hfi := hf i hi
    have e : fX11_earliest_c6 N (k + 1) b f (i : Int) s = if hrs (sBl t nr a i) = -1 then fX11_earliest_c6 N k b f ((i + 1 : Nat) : Int) h1 else if b = -1 then fX11_earliest_c6 N k (i : Int) (hrs (sBl t nr a i)) ((i + 1 : Nat) : Int) h1 else if zw f ≤ hrs (sBl t nr a i) then fX11_earliest_c6 N k b f ((i + 1 : Nat) : Int) h1 else fX11_earliest_c6 N k (i : Int) (hrs (sBl t nr a i)) ((i + 1 : Nat) : Int) h1 := by
      show fX11_earliest_c6b N (fX11_earliest_c6 N k) _ _ _ _ = _
      unfold fX11_earliest_c6b
      rw [Ms.1.1, zw_id (show -2147483648 ≤ (np : Int) ∧ (np : Int) < 2147483648 by omega), zw_id (show -2147483648 ≤ (i : Int) ∧ (i : Int) < 2147483648 by omega), if_neg (by omega), om_0 (by omega), zb_some, e69, (S.1 i hi).1, e1, zb_some, e4, zw_id (show -2147483648 ≤ hrs (sBl t nr a i) ∧ hrs (sBl t nr a i) < 2147483648 by omega), zw_m1, zw_id (show -2147483648 ≤ b ∧ b < 2147483648 by omega)]
      rfl
    left
    have ee : eb (fun p => hrs (sBl t nr a p)) (i + 1) = if hrs (sBl t nr a i) = -1 then eb (fun p => hrs (sBl t nr a p)) i else if (eb (fun p => hrs (sBl t nr a p)) i).1 = -1 then ((i : Int), hrs (sBl t nr a i)) else if (eb (fun p => hrs (sBl t nr a p)) i).2 ≤ hrs (sBl t nr a i) then eb (fun p => hrs (sBl t nr a p)) i else ((i : Int), hrs (sBl t nr a i)) := rfl
    rw [ee, ← i0]
    by_cases c1 : hrs (sBl t nr a i) = -1
    · rw [if_pos c1] at e ⊢
      exact ⟨(b, f, h1), e, ⟨i0, i1⟩, FR_tr i2 e2, FS_tr i3 e3⟩
    · rw [if_neg c1] at e ⊢
      by_cases c2 : b = -1
      · rw [if_pos c2] at e ⊢
        exact ⟨((i : Int), hrs (sBl t nr a i), h1), e, ⟨rfl, fun _ => rfl⟩, FR_tr i2 e2, FS_tr i3 e3⟩
      · have hfe := i1 c2
        subst hfe
        rw [if_neg c2, zw_id (show -2147483648 ≤ (eb (fun p => hrs (sBl t nr a p)) i).2 ∧ (eb (fun p => hrs (sBl t nr a p)) i).2 < 2147483648 by omega)] at e
        rw [if_neg c2]
        by_cases c3 : (eb (fun p => hrs (sBl t nr a p)) i).2 ≤ hrs (sBl t nr a i)
        · rw [if_pos c3] at e ⊢
          exact ⟨(b, (eb (fun p => hrs (sBl t nr a p)) i).2, h1), e, ⟨i0, fun _ => rfl⟩, FR_tr i2 e2, FS_tr i3 e3⟩
        · rw [if_neg c3] at e ⊢
          exact ⟨((i : Int), hrs (sBl t nr a i), h1), e, ⟨rfl, fun _ => rfl⟩, FR_tr i2 e2, FS_tr i3 e3⟩
  · obtain ⟨b, f, s⟩ := s
    obtain ⟨⟨i0, i1⟩, i2, i3⟩ := hI
    dsimp only at i0 i1 i2 i3 ⊢
    refine ⟨s, ?_, i2, i3⟩
    show fX11_earliest_c6b N (fX11_earliest_c6 N k) _ _ _ _ = _
    unfold fX11_earliest_c6b
    rw [i3 28 (by decide), M.1.1, if_pos (by omega), i0]
