/-! dawn -/
def bset (f : Nat → Bool) : Nat → Nat
  | 0 => 0
  | n + 1 => bset f n ||| (if f n then 2 ^ n else 0)
theorem bset_bit (f : Nat → Bool) (n i : Nat) : (bset f n).testBit i = (decide (i < n) && f i) := by
  induction n with
  | zero => exact (Nat.zero_testBit i).trans (by rw [decide_eq_false (Nat.not_lt_zero i)]; rfl)
  | succ n ih =>
    show (bset f n ||| (if f n then 2 ^ n else 0)).testBit i = _
    rw [Nat.testBit_or, ih]
    by_cases h : i = n
    · subst h
      rw [decide_eq_false (Nat.lt_irrefl i), decide_eq_true (Nat.lt_succ_self i), Bool.false_and, Bool.false_or, Bool.true_and]
      cases f i with
      | false => exact Nat.zero_testBit i
      | true => exact (Nat.testBit_two_pow).trans (decide_eq_true rfl)
    · have h2 : (if f n then 2 ^ n else 0).testBit i = false := by
        cases f n with
        | false => exact Nat.zero_testBit i
        | true => exact (Nat.testBit_two_pow).trans (decide_eq_false (fun e => h e.symm))
      rw [h2, Bool.or_false]
      by_cases h3 : i < n
      · rw [decide_eq_true h3, decide_eq_true (by omega)]
      · rw [decide_eq_false h3, decide_eq_false (by omega)]
theorem bset_lt (f : Nat → Bool) (n : Nat) : bset f n < 2 ^ n := by
  induction n with
  | zero => exact Nat.zero_lt_one
  | succ n ih =>
    refine Nat.or_lt_two_pow (Nat.lt_trans ih (Nat.pow_lt_pow_right (by decide) (by omega))) ?_
    split
    · exact Nat.pow_lt_pow_right (by decide) (by omega)
    · exact Nat.two_pow_pos _
def nsum (f : Nat → Nat) : Nat → Nat
  | 0 => 0
  | n + 1 => nsum f n + f n
theorem nsum_le {f : Nat → Nat} {n b : Nat} (h : ∀ i, i < n → f i ≤ b) : nsum f n ≤ b * n := by
  induction n with
  | zero => exact Nat.zero_le _
  | succ n ih =>
    have h1 := ih (fun i hi => h i (by omega))
    have h2 := h n (Nat.lt_succ_self n)
    show nsum f n + f n ≤ b * (n + 1)
    rw [Nat.mul_succ]
    omega
def dwho (t : Nat → Nat) (dark : Bool) (a : hSt) (p : Nat) : Bool := !dark && (aH a p).testBit (t (32 + 4 * p))
def dch (t : Nat → Nat) (dark : Bool) (a : hSt) (p : Nat) : Int := if dwho t dark a p then (t (32 + 4 * p) : Int) else -1
def aDawn (np : Nat) (t : Nat → Nat) (dark : Bool) (a : hSt) : hSt := (fun p => if dwho t dark a p then bdiff (aH a p) (2 ^ t (32 + 4 * p)) else aH a p, aW a, aD a, fun p => (por np t (dch t dark a) p : Int), aP a, aR a, aQ a, aT a, (nsum (por np t (dch t dark a)) np, bset (dwho t dark a) np) :: aL a)
def dkI (dark : Bool) : Int := if dark then 1 else 0
theorem zshl_6 : ∀ n : Nat, n < 1000 → zshl (n : Int) 6 = ((64 * n : Nat) : Int) := by decide +kernel
theorem zlog {s w : Nat} (hs : s < 1000) (hw : w < 64) : zor (zshl (s : Int) 6) (w : Int) = ((64 * s + w : Nat) : Int) := by
  rw [zshl_6 s hs, zor_nat (by omega) (by omega)]
  have := Nat.two_pow_add_eq_or_of_lt (i := 6) (b := w) (by omega) s
  rw [show (2 : Nat) ^ 6 = 64 from rfl] at this
  rw [this]
theorem aDawn_b {np nd nr : Nat} {t : Nat → Nat} (V : HV np nd nr t) {dark : Bool} {a : hSt} {i : Nat} (hi : i ≤ np) : nsum (por np t (dch t dark a)) i < 1000 ∧ bset (dwho t dark a) i < 64 := by
  have v := V.1
  have h1 := nsum_le (f := por np t (dch t dark a)) (n := i) (b := 24) (fun j hj => por_le V (by omega))
  have h2 := bset_lt (dwho t dark a) i
  have h3 : 2 ^ i ≤ 2 ^ 6 := Nat.pow_le_pow_right (by decide) (by omega)
  exact ⟨by omega, by omega⟩
theorem aDawn_AV {np nd nr : Nat} {t : Nat → Nat} (V : HV np nd nr t) {dark : Bool} {a : hSt} (A : AV np nd nr t a) : AV np nd nr t (aDawn np t dark a) := by
  obtain ⟨a1, a2, a3, a4, a5⟩ := A
  refine ⟨fun p hp => ⟨?_, (a1 p hp).2⟩, a2, a3, a4, fun e he => ?_⟩
  · show (if dwho t dark a p then bdiff (aH a p) (2 ^ t (32 + 4 * p)) else aH a p) < 256
    have h1 := (a1 p hp).1
    have h2 := bdiff_le (aH a p) (2 ^ t (32 + 4 * p))
    split <;> omega
  · rcases List.mem_cons.mp he with h | h
    · rw [h]; exact aDawn_b V (Nat.le_refl _)
    · exact a5 e h
theorem da2X7 {np nd nr : Nat} {t : Nat → Nat} {a : hSt} {h : zH} (V : HV np nd nr t) (X : HX np nd nr t h) (A : AV np nd nr t a) (S : XS np t a (h 30)) (hL : (aL a).length < 420) {dark : Bool} (hP : ∀ o, o < np → h 33 o = dch t dark a o) {N : Nat} (hN : 8 ≤ N) : ∃ h', fX8_dawn_c66 N 7 2 N 0 0 0 h = some h' ∧ (∀ b, b ≠ 30 → b ≠ 31 → h' b = h b) ∧ h' 31 = zup (h 31) (aL a).length (64 * nsum (por np t (dch t dark a)) np + bset (dwho t dark a) np : Nat) ∧ XS np t (aDawn np t dark a) (h' 30) := by
  have v := V.1
  obtain ⟨s1, s2, s3, s4, s5⟩ := S
  have hf : ∀ o, o < np → t (32 + 4 * o) < 8 := fun o ho => by have := (V.2.2.2.1 o ho).1; omega
  have hch : ∀ o, o < np → -1 ≤ dch t dark a o ∧ dch t dark a o < 1000 := fun o ho => by
    have := hf o ho
    unfold dch
    split <;> omega
  refine zloopq (F := fun k i (s : Int × Int × zH) => fX8_dawn_c66 N 7 2 k s.1 s.2.1 i s.2.2) (n := np) (s := (0, 0, h)) (fun i s => s.1 = (bset (dwho t dark a) i : Nat) ∧ s.2.1 = (nsum (por np t (dch t dark a)) i : Nat) ∧ (∀ b, b ≠ 30 → s.2.2 b = h b) ∧ (∀ j, (i ≤ j ∧ j < 18) ∨ 18 + i ≤ j → s.2.2 30 j = h 30 j) ∧ ∀ p, p < i → s.2.2 30 p = (aH (aDawn np t dark a) p : Nat) ∧ s.2.2 30 (18 + p) = (por np t (dch t dark a) p : Nat)) (fun b => ∃ h', b = some h' ∧ (∀ b, b ≠ 30 → b ≠ 31 → h' b = h b) ∧ h' 31 = zup (h 31) (aL a).length (64 * nsum (por np t (dch t dark a)) np + bset (dwho t dark a) np : Nat) ∧ XS np t (aDawn np t dark a) (h' 30)) (fun k i s hi hI => ?_) (fun k s hI => ?_) (by omega) ⟨rfl, rfl, fun _ _ => rfl, fun _ _ => rfl, fun p hp => absurd hp (Nat.not_lt_zero _)⟩
  · obtain ⟨w, s, g⟩ := s
    obtain ⟨i1, i2, i3, i4, i5⟩ := hI
    dsimp only at i1 i2 i3 i4 i5 ⊢
    have Xg : HX np nd nr t g := HX_to X (i3 16 (by decide)) (i3 17 (by decide)) (i3 18 (by decide))
    have Xg2 : ∀ v, HX np nd nr t (zs g 30 (18 + i) v) := fun v => HX_to Xg (zs_row_ne (by decide)) (zs_row_ne (by decide)) (zs_row_ne (by decide))
    have eP : ∀ o, o < np → g 33 o = dch t dark a o ∧ -1 ≤ dch t dark a o ∧ dch t dark a o < 1000 := fun o ho => ⟨by rw [i3 33 (by decide)]; exact hP o ho, hch o ho⟩
    obtain ⟨b1, b2⟩ := aDawn_b V (dark := dark) (a := a) (Nat.le_of_lt hi)
    have hci := hch i hi
    have hfi := hf i hi
    have hH := (A.1 i hi).1
    have eA : ∀ v, fX10_at 33 (i : Int) (zs g 30 (18 + i) v) = dch t dark a i := fun v => by
      rw [at_in (by omega) (by show _ < ((6 : Nat) : Int); omega), Int.toNat_natCast, zs_row_ne (by decide)]
      exact (eP i hi).1
    have e : fX8_dawn_c66 N 7 2 (k + 1) w s (i : Int) g = if dwho t dark a i then fX8_dawn_c66 N 7 2 k (bset (dwho t dark a) (i + 1) : Nat) (s + (por np t (dch t dark a) i : Nat)) ((i + 1 : Nat) : Int) (zs (zs g 30 (18 + i) (por np t (dch t dark a) i : Nat)) 30 i (bdiff (aH a i) (2 ^ t (32 + 4 * i)) : Nat)) else fX8_dawn_c66 N 7 2 k w (s + (por np t (dch t dark a) i : Nat)) ((i + 1 : Nat) : Int) (zs g 30 (18 + i) (por np t (dch t dark a) i : Nat)) := by
      show fX8_dawn_c66b N 7 2 (fX8_dawn_c66 N 7 2 k) _ _ _ _ = _
      unfold fX8_dawn_c66b
      rw [xm1 Xg, zw_id (show -2147483648 ≤ (np : Int) ∧ (np : Int) < 2147483648 by omega), zw_id (show -2147483648 ≤ (i : Int) ∧ (i : Int) < 2147483648 by omega), if_neg (by omega), zf73, porX V Xg (show zln 33 = 6 from rfl) eP hN hi, zb_some, sx7_3 (by omega)]
      simp only [zlet_v]
      rw [eA, zw_id (show -2147483648 ≤ dch t dark a i ∧ dch t dark a i < 2147483648 by omega), zw_m1]
      cases hb : dwho t dark a i with
      | false =>
        have : dch t dark a i = -1 := by unfold dch; rw [hb]; rfl
        rw [if_pos this]
        rfl
      | true =>
        have e7 : dch t dark a i = (t (32 + 4 * i) : Int) := by unfold dch; rw [hb]; rfl
        have e8 : zs g 30 (18 + i) (por np t (dch t dark a) i : Nat) 30 i = (aH a i : Int) := by rw [zs_ne (by omega), i4 i (by omega), (s1 i hi).1]
        have p8 : 2 ^ t (32 + 4 * i) < 2 ^ 8 := Nat.pow_lt_pow_right (by decide) hfi
        have p6 : 2 ^ i < 2 ^ 6 := Nat.pow_lt_pow_right (by decide) (by omega)
        rw [if_neg (by omega), e7, zshl_1 i (by omega), zshl_1 (t (32 + 4 * i)) (by omega), ox7_0 (by omega), e8, zandn_nat (by omega) (by omega), sx7_0 (by omega), i1, zor_nat (by omega) (by omega)]
        have : bset (dwho t dark a) (i + 1) = bset (dwho t dark a) i ||| 2 ^ i := by
          show bset (dwho t dark a) i ||| (if dwho t dark a i then 2 ^ i else 0) = _
          rw [hb]; rfl
        rw [this]
        rfl
    left
    have eh : aH (aDawn np t dark a) i = if dwho t dark a i then bdiff (aH a i) (2 ^ t (32 + 4 * i)) else aH a i := rfl
    cases hb : dwho t dark a i with
    | false =>
      rw [hb, if_neg (by decide)] at e eh
      have : bset (dwho t dark a) (i + 1) = bset (dwho t dark a) i := by
        show bset (dwho t dark a) i ||| (if dwho t dark a i then 2 ^ i else 0) = _
        rw [hb]; exact Nat.or_zero _
      rw [this]
      refine ⟨(w, s + (por np t (dch t dark a) i : Nat), zs g 30 (18 + i) (por np t (dch t dark a) i : Nat)), e, i1, ?_, fun b hb => ?_, fun j hj => ?_, fun p hp => ?_⟩
      · show s + _ = ((nsum (por np t (dch t dark a)) i + por np t (dch t dark a) i : Nat) : Int)
        omega
      · dsimp only; rw [zs_row_ne hb, i3 b hb]
      · dsimp only; rw [zs_ne (by omega), i4 j (by omega)]
      · dsimp only
        rw [zs_zup]
        by_cases hpi : p = i
        · subst hpi
          rw [zup_ne (by omega), zup_at, i4 p (by omega), (s1 p hi).1, eh]
          exact ⟨rfl, rfl⟩
        · rw [zup_ne (by omega), zup_ne (by omega)]
          exact i5 p (by omega)
    | true =>
      rw [hb, if_pos rfl] at e eh
      refine ⟨((bset (dwho t dark a) (i + 1) : Nat), s + (por np t (dch t dark a) i : Nat), zs (zs g 30 (18 + i) (por np t (dch t dark a) i : Nat)) 30 i (bdiff (aH a i) (2 ^ t (32 + 4 * i)) : Nat)), e, rfl, ?_, fun b hb => ?_, fun j hj => ?_, fun p hp => ?_⟩
      · show s + _ = ((nsum (por np t (dch t dark a)) i + por np t (dch t dark a) i : Nat) : Int)
        omega
      · dsimp only; rw [zs_row_ne hb, zs_row_ne hb, i3 b hb]
      · dsimp only; rw [zs_ne (by omega), zs_ne (by omega), i4 j (by omega)]
      · dsimp only
        simp only [zs_zup]
        by_cases hpi : p = i
        · subst hpi
          rw [zup_at, zup_ne (by omega), zup_at, eh]
          exact ⟨rfl, rfl⟩
        · rw [zup_ne (by omega), zup_ne (by omega), zup_ne (by omega), zup_ne (by omega)]
          exact i5 p (by omega)
  · obtain ⟨w, s, g⟩ := s
    obtain ⟨i1, i2, i3, i4, i5⟩ := hI
    dsimp only at i1 i2 i3 i4 i5 ⊢
    have Xg : HX np nd nr t g := HX_to X (i3 16 (by decide)) (i3 17 (by decide)) (i3 18 (by decide))
    obtain ⟨b1, b2⟩ := aDawn_b V (dark := dark) (a := a) (Nat.le_refl np)
    have e50 : g 30 50 = ((aL a).length : Int) := by rw [i4 50 (by omega), s5]
    refine ⟨zs (zs g 31 (aL a).length (64 * nsum (por np t (dch t dark a)) np + bset (dwho t dark a) np : Nat)) 30 50 (((aL a).length : Int) + 1), ?_, fun b b1 b2 => by rw [zs_row_ne b1, zs_row_ne b2, i3 b b1], ?_, ?_⟩
    · show fX8_dawn_c66b N 7 2 (fX8_dawn_c66 N 7 2 k) _ _ _ _ = _
      unfold fX8_dawn_c66b
      rw [xm1 Xg, if_pos (by omega), zf70, zf71, e50, i1, i2, zlog b1 b2, put_in (by omega) (by show _ < ((420 : Nat) : Int); omega), Int.toNat_natCast]
      simp only [zlet_v]
      rw [zs_row_ne (by decide), e50]
    · rw [zs_row_ne (by decide), zs_zup, i3 31 (by decide)]
    · rw [show zs (zs g 31 (aL a).length (64 * nsum (por np t (dch t dark a)) np + bset (dwho t dark a) np : Nat)) 30 50 (((aL a).length : Int) + 1) 30 = zs g 30 50 (((aL a).length : Int) + 1) 30 by rw [zs_zup, zs_zup, zs_row_ne (by decide)]]
      simp only [zs_zup]
      refine ⟨fun q hq => ?_, ?_, ?_, fun i hi => ?_, ?_⟩
      · obtain ⟨q1, q2, q3, q4, q5, q6, q7⟩ := s1 q hq
        obtain ⟨j1, j2⟩ := i5 q hq
        refine ⟨?_, ?_, ?_, ?_, ?_, ?_, ?_⟩
        · rw [zup_ne (by omega)]; exact j1
        · rw [zup_ne (by omega), i4 _ (by omega)]; exact q2
        · rw [zup_ne (by omega), i4 _ (by omega)]; exact q3
        · rw [zup_ne (by omega)]; exact j2
        · rw [zup_ne (by omega), i4 _ (by omega)]; exact q5
        · rw [zup_ne (by omega), i4 _ (by omega)]; exact q6
        · rw [zup_ne (by omega), i4 _ (by omega)]; exact q7
      · rw [zup_ne (by omega), i4 _ (by omega)]; exact s2
      · rw [zup_ne (by omega), i4 _ (by omega)]; exact s3
      · rw [zup_ne (by have := aQ_len A; have : i < (aQ a).length := hi; omega), i4 _ (by omega)]; exact s4 i hi
      · rw [zup_at]; rfl
theorem dawX7 {np nd nr : Nat} {t : Nat → Nat} {a : hSt} {h : zH} (V : HV np nd nr t) (X : HX np nd nr t h) (A : AV np nd nr t a) (S : XS np t a (h 30)) (hL : (aL a).length < 420) {dark : Bool} {N : Nat} (hN : 8 ≤ N) : ∃ h', fX8_dawn N 7 2 (dkI dark) h = some h' ∧ (∀ b, b ≠ 30 → b ≠ 31 → b ≠ 33 → h' b = h b) ∧ h' 31 = zup (h 31) (aL a).length (64 * nsum (por np t (dch t dark a)) np + bset (dwho t dark a) np : Nat) ∧ XS np t (aDawn np t dark a) (h' 30) := by
  have v := V.1
  have hf : ∀ o, o < np → t (32 + 4 * o) < 8 := fun o ho => by have := (V.2.2.2.1 o ho).1; omega
  refine zloopq (F := fun k i (s : zH) => fX8_dawn_c2 N 7 2 k (dkI dark) i s) (n := np) (s := h) (fun i s => (∀ b, b ≠ 33 → s b = h b) ∧ ∀ p, p < i → s 33 p = dch t dark a p) (fun b => ∃ h', b = some h' ∧ (∀ b, b ≠ 30 → b ≠ 31 → b ≠ 33 → h' b = h b) ∧ h' 31 = zup (h 31) (aL a).length (64 * nsum (por np t (dch t dark a)) np + bset (dwho t dark a) np : Nat) ∧ XS np t (aDawn np t dark a) (h' 30)) (fun k i g hi hI => ?_) (fun k g hI => ?_) (by omega) ⟨fun _ _ => rfl, fun p hp => absurd hp (Nat.not_lt_zero _)⟩
  · obtain ⟨i1, i2⟩ := hI
    have Xg : HX np nd nr t g := HX_to X (i1 16 (by decide)) (i1 17 (by decide)) (i1 18 (by decide))
    have hH := (A.1 i hi).1
    have hfi := hf i hi
    left
    refine ⟨zs g 33 i (dch t dark a i), ?_, fun b hb => by rw [zs_row_ne hb, i1 b hb], fun p hp => ?_⟩
    · show fX8_dawn_c2b N 7 2 (fX8_dawn_c2 N 7 2 k) _ _ _ = _
      unfold fX8_dawn_c2b
      rw [xm1 Xg, zw_id (show -2147483648 ≤ (np : Int) ∧ (np : Int) < 2147483648 by omega), zw_id (show -2147483648 ≤ (i : Int) ∧ (i : Int) < 2147483648 by omega), if_neg (by omega), xi10 V Xg hi, ox7_0 (by omega), i1 30 (by decide), (S.1 i hi).1]
      simp only [zlet_v]
      rw [isIn_tab _ hH _ hfi, zf73]
      have ep : ∀ v : Int, fX10_put 33 (i : Int) v g = zs g 33 i v := fun v => by rw [put_in (by omega) (by show _ < ((6 : Nat) : Int); omega), Int.toNat_natCast]
      rw [ep, ep]
      unfold dkI dch dwho
      cases dark with
      | true => exact if_neg (by decide)
      | false =>
        refine (if_pos (by decide)).trans ?_
        cases (aH a i).testBit (t (32 + 4 * i)) with
        | false => exact if_pos (by decide)
        | true => exact if_neg (by decide)
    · by_cases hpi : p = i
      · subst hpi; exact zs_at
      · rw [zs_ne hpi]; exact i2 p (by omega)
  · obtain ⟨i1, i2⟩ := hI
    have Xg : HX np nd nr t g := HX_to X (i1 16 (by decide)) (i1 17 (by decide)) (i1 18 (by decide))
    have Sg : XS np t a (g 30) := by rw [i1 30 (by decide)]; exact S
    obtain ⟨h', e1, e2, e3, e4⟩ := da2X7 V Xg A Sg hL i2 hN
    refine ⟨h', ?_, fun b b1 b2 b3 => (e2 b b1 b2).trans (i1 b b3), ?_, e4⟩
    · show fX8_dawn_c2b N 7 2 (fX8_dawn_c2 N 7 2 k) _ _ _ = _
      unfold fX8_dawn_c2b
      rw [xm1 Xg, if_pos (by omega)]
      exact e1
    · rw [e3, i1 31 (by decide)]
theorem da2X8 {np nd nr : Nat} {t : Nat → Nat} {a : hSt} {h : zH} (V : HV np nd nr t) (X : HX np nd nr t h) (A : AV np nd nr t a) (S : XS np t a (h 34)) (hL : (aL a).length < 100000) {dark : Bool} (hP : ∀ o, o < np → h 37 o = dch t dark a o) {N : Nat} (hN : 8 ≤ N) : ∃ h', fX8_dawn_c66 N 8 2 N 0 0 0 h = some h' ∧ (∀ b, b ≠ 34 → b ≠ 35 → h' b = h b) ∧ h' 35 = h 35 ∧ XS np t (aDawn np t dark a) (h' 34) := by
  have v := V.1
  obtain ⟨s1, s2, s3, s4, s5⟩ := S
  have hf : ∀ o, o < np → t (32 + 4 * o) < 8 := fun o ho => by have := (V.2.2.2.1 o ho).1; omega
  have hch : ∀ o, o < np → -1 ≤ dch t dark a o ∧ dch t dark a o < 1000 := fun o ho => by
    have := hf o ho
    unfold dch
    split <;> omega
  refine zloopq (F := fun k i (s : Int × Int × zH) => fX8_dawn_c66 N 8 2 k s.1 s.2.1 i s.2.2) (n := np) (s := (0, 0, h)) (fun i s => s.1 = (bset (dwho t dark a) i : Nat) ∧ s.2.1 = (nsum (por np t (dch t dark a)) i : Nat) ∧ (∀ b, b ≠ 34 → s.2.2 b = h b) ∧ (∀ j, (i ≤ j ∧ j < 18) ∨ 18 + i ≤ j → s.2.2 34 j = h 34 j) ∧ ∀ p, p < i → s.2.2 34 p = (aH (aDawn np t dark a) p : Nat) ∧ s.2.2 34 (18 + p) = (por np t (dch t dark a) p : Nat)) (fun b => ∃ h', b = some h' ∧ (∀ b, b ≠ 34 → b ≠ 35 → h' b = h b) ∧ h' 35 = h 35 ∧ XS np t (aDawn np t dark a) (h' 34)) (fun k i s hi hI => ?_) (fun k s hI => ?_) (by omega) ⟨rfl, rfl, fun _ _ => rfl, fun _ _ => rfl, fun p hp => absurd hp (Nat.not_lt_zero _)⟩
  · obtain ⟨w, s, g⟩ := s
    obtain ⟨i1, i2, i3, i4, i5⟩ := hI
    dsimp only at i1 i2 i3 i4 i5 ⊢
    have Xg : HX np nd nr t g := HX_to X (i3 16 (by decide)) (i3 17 (by decide)) (i3 18 (by decide))
    have Xg2 : ∀ v, HX np nd nr t (zs g 34 (18 + i) v) := fun v => HX_to Xg (zs_row_ne (by decide)) (zs_row_ne (by decide)) (zs_row_ne (by decide))
    have eP : ∀ o, o < np → g 37 o = dch t dark a o ∧ -1 ≤ dch t dark a o ∧ dch t dark a o < 1000 := fun o ho => ⟨by rw [i3 37 (by decide)]; exact hP o ho, hch o ho⟩
    obtain ⟨b1, b2⟩ := aDawn_b V (dark := dark) (a := a) (Nat.le_of_lt hi)
    have hci := hch i hi
    have hfi := hf i hi
    have hH := (A.1 i hi).1
    have eA : ∀ v, fX10_at 37 (i : Int) (zs g 34 (18 + i) v) = dch t dark a i := fun v => by
      rw [at_in (by omega) (by show _ < ((6 : Nat) : Int); omega), Int.toNat_natCast, zs_row_ne (by decide)]
      exact (eP i hi).1
    have e : fX8_dawn_c66 N 8 2 (k + 1) w s (i : Int) g = if dwho t dark a i then fX8_dawn_c66 N 8 2 k (bset (dwho t dark a) (i + 1) : Nat) (s + (por np t (dch t dark a) i : Nat)) ((i + 1 : Nat) : Int) (zs (zs g 34 (18 + i) (por np t (dch t dark a) i : Nat)) 34 i (bdiff (aH a i) (2 ^ t (32 + 4 * i)) : Nat)) else fX8_dawn_c66 N 8 2 k w (s + (por np t (dch t dark a) i : Nat)) ((i + 1 : Nat) : Int) (zs g 34 (18 + i) (por np t (dch t dark a) i : Nat)) := by
      show fX8_dawn_c66b N 8 2 (fX8_dawn_c66 N 8 2 k) _ _ _ _ = _
      unfold fX8_dawn_c66b
      rw [xm1 Xg, zw_id (show -2147483648 ≤ (np : Int) ∧ (np : Int) < 2147483648 by omega), zw_id (show -2147483648 ≤ (i : Int) ∧ (i : Int) < 2147483648 by omega), if_neg (by omega), zf83, porX V Xg (show zln 37 = 6 from rfl) eP hN hi, zb_some, sx8_3 (by omega)]
      simp only [zlet_v]
      rw [eA, zw_id (show -2147483648 ≤ dch t dark a i ∧ dch t dark a i < 2147483648 by omega), zw_m1]
      cases hb : dwho t dark a i with
      | false =>
        have : dch t dark a i = -1 := by unfold dch; rw [hb]; rfl
        rw [if_pos this]
        rfl
      | true =>
        have e7 : dch t dark a i = (t (32 + 4 * i) : Int) := by unfold dch; rw [hb]; rfl
        have e8 : zs g 34 (18 + i) (por np t (dch t dark a) i : Nat) 34 i = (aH a i : Int) := by rw [zs_ne (by omega), i4 i (by omega), (s1 i hi).1]
        have p8 : 2 ^ t (32 + 4 * i) < 2 ^ 8 := Nat.pow_lt_pow_right (by decide) hfi
        have p6 : 2 ^ i < 2 ^ 6 := Nat.pow_lt_pow_right (by decide) (by omega)
        rw [if_neg (by omega), e7, zshl_1 i (by omega), zshl_1 (t (32 + 4 * i)) (by omega), ox8_0 (by omega), e8, zandn_nat (by omega) (by omega), sx8_0 (by omega), i1, zor_nat (by omega) (by omega)]
        have : bset (dwho t dark a) (i + 1) = bset (dwho t dark a) i ||| 2 ^ i := by
          show bset (dwho t dark a) i ||| (if dwho t dark a i then 2 ^ i else 0) = _
          rw [hb]; rfl
        rw [this]
        rfl
    left
    have eh : aH (aDawn np t dark a) i = if dwho t dark a i then bdiff (aH a i) (2 ^ t (32 + 4 * i)) else aH a i := rfl
    cases hb : dwho t dark a i with
    | false =>
      rw [hb, if_neg (by decide)] at e eh
      have : bset (dwho t dark a) (i + 1) = bset (dwho t dark a) i := by
        show bset (dwho t dark a) i ||| (if dwho t dark a i then 2 ^ i else 0) = _
        rw [hb]; exact Nat.or_zero _
      rw [this]
      refine ⟨(w, s + (por np t (dch t dark a) i : Nat), zs g 34 (18 + i) (por np t (dch t dark a) i : Nat)), e, i1, ?_, fun b hb => ?_, fun j hj => ?_, fun p hp => ?_⟩
      · show s + _ = ((nsum (por np t (dch t dark a)) i + por np t (dch t dark a) i : Nat) : Int)
        omega
      · dsimp only; rw [zs_row_ne hb, i3 b hb]
      · dsimp only; rw [zs_ne (by omega), i4 j (by omega)]
      · dsimp only
        rw [zs_zup]
        by_cases hpi : p = i
        · subst hpi
          rw [zup_ne (by omega), zup_at, i4 p (by omega), (s1 p hi).1, eh]
          exact ⟨rfl, rfl⟩
        · rw [zup_ne (by omega), zup_ne (by omega)]
          exact i5 p (by omega)
    | true =>
      rw [hb, if_pos rfl] at e eh
      refine ⟨((bset (dwho t dark a) (i + 1) : Nat), s + (por np t (dch t dark a) i : Nat), zs (zs g 34 (18 + i) (por np t (dch t dark a) i : Nat)) 34 i (bdiff (aH a i) (2 ^ t (32 + 4 * i)) : Nat)), e, rfl, ?_, fun b hb => ?_, fun j hj => ?_, fun p hp => ?_⟩
      · show s + _ = ((nsum (por np t (dch t dark a)) i + por np t (dch t dark a) i : Nat) : Int)
        omega
      · dsimp only; rw [zs_row_ne hb, zs_row_ne hb, i3 b hb]
      · dsimp only; rw [zs_ne (by omega), zs_ne (by omega), i4 j (by omega)]
      · dsimp only
        simp only [zs_zup]
        by_cases hpi : p = i
        · subst hpi
          rw [zup_at, zup_ne (by omega), zup_at, eh]
          exact ⟨rfl, rfl⟩
        · rw [zup_ne (by omega), zup_ne (by omega), zup_ne (by omega), zup_ne (by omega)]
          exact i5 p (by omega)
  · obtain ⟨w, s, g⟩ := s
    obtain ⟨i1, i2, i3, i4, i5⟩ := hI
    dsimp only at i1 i2 i3 i4 i5 ⊢
    have Xg : HX np nd nr t g := HX_to X (i3 16 (by decide)) (i3 17 (by decide)) (i3 18 (by decide))
    obtain ⟨b1, b2⟩ := aDawn_b V (dark := dark) (a := a) (Nat.le_refl np)
    have e50 : g 34 50 = ((aL a).length : Int) := by rw [i4 50 (by omega), s5]
    refine ⟨zs g 34 50 (((aL a).length : Int) + 1), ?_, fun b b1 b2 => by rw [zs_row_ne b1, i3 b b1], ?_, ?_⟩
    · show fX8_dawn_c66b N 8 2 (fX8_dawn_c66 N 8 2 k) _ _ _ _ = _
      unfold fX8_dawn_c66b
      rw [xm1 Xg, if_pos (by omega), zf80, zf81, e50, put_out (by omega) (Or.inr (by show ((0 : Nat) : Int) ≤ _; omega))]
      simp only [zlet_v]
      rw [e50]
    · rw [zs_row_ne (by decide), i3 35 (by decide)]
    · simp only [zs_zup]
      refine ⟨fun q hq => ?_, ?_, ?_, fun i hi => ?_, ?_⟩
      · obtain ⟨q1, q2, q3, q4, q5, q6, q7⟩ := s1 q hq
        obtain ⟨j1, j2⟩ := i5 q hq
        refine ⟨?_, ?_, ?_, ?_, ?_, ?_, ?_⟩
        · rw [zup_ne (by omega)]; exact j1
        · rw [zup_ne (by omega), i4 _ (by omega)]; exact q2
        · rw [zup_ne (by omega), i4 _ (by omega)]; exact q3
        · rw [zup_ne (by omega)]; exact j2
        · rw [zup_ne (by omega), i4 _ (by omega)]; exact q5
        · rw [zup_ne (by omega), i4 _ (by omega)]; exact q6
        · rw [zup_ne (by omega), i4 _ (by omega)]; exact q7
      · rw [zup_ne (by omega), i4 _ (by omega)]; exact s2
      · rw [zup_ne (by omega), i4 _ (by omega)]; exact s3
      · rw [zup_ne (by have := aQ_len A; have : i < (aQ a).length := hi; omega), i4 _ (by omega)]; exact s4 i hi
      · rw [zup_at]; rfl
theorem dawX8 {np nd nr : Nat} {t : Nat → Nat} {a : hSt} {h : zH} (V : HV np nd nr t) (X : HX np nd nr t h) (A : AV np nd nr t a) (S : XS np t a (h 34)) (hL : (aL a).length < 100000) {dark : Bool} {N : Nat} (hN : 8 ≤ N) : ∃ h', fX8_dawn N 8 2 (dkI dark) h = some h' ∧ (∀ b, b ≠ 34 → b ≠ 35 → b ≠ 37 → h' b = h b) ∧ h' 35 = h 35 ∧ XS np t (aDawn np t dark a) (h' 34) := by
  have v := V.1
  have hf : ∀ o, o < np → t (32 + 4 * o) < 8 := fun o ho => by have := (V.2.2.2.1 o ho).1; omega
  refine zloopq (F := fun k i (s : zH) => fX8_dawn_c2 N 8 2 k (dkI dark) i s) (n := np) (s := h) (fun i s => (∀ b, b ≠ 37 → s b = h b) ∧ ∀ p, p < i → s 37 p = dch t dark a p) (fun b => ∃ h', b = some h' ∧ (∀ b, b ≠ 34 → b ≠ 35 → b ≠ 37 → h' b = h b) ∧ h' 35 = h 35 ∧ XS np t (aDawn np t dark a) (h' 34)) (fun k i g hi hI => ?_) (fun k g hI => ?_) (by omega) ⟨fun _ _ => rfl, fun p hp => absurd hp (Nat.not_lt_zero _)⟩
  · obtain ⟨i1, i2⟩ := hI
    have Xg : HX np nd nr t g := HX_to X (i1 16 (by decide)) (i1 17 (by decide)) (i1 18 (by decide))
    have hH := (A.1 i hi).1
    have hfi := hf i hi
    left
    refine ⟨zs g 37 i (dch t dark a i), ?_, fun b hb => by rw [zs_row_ne hb, i1 b hb], fun p hp => ?_⟩
    · show fX8_dawn_c2b N 8 2 (fX8_dawn_c2 N 8 2 k) _ _ _ = _
      unfold fX8_dawn_c2b
      rw [xm1 Xg, zw_id (show -2147483648 ≤ (np : Int) ∧ (np : Int) < 2147483648 by omega), zw_id (show -2147483648 ≤ (i : Int) ∧ (i : Int) < 2147483648 by omega), if_neg (by omega), xi10 V Xg hi, ox8_0 (by omega), i1 34 (by decide), (S.1 i hi).1]
      simp only [zlet_v]
      rw [isIn_tab _ hH _ hfi, zf83]
      have ep : ∀ v : Int, fX10_put 37 (i : Int) v g = zs g 37 i v := fun v => by rw [put_in (by omega) (by show _ < ((6 : Nat) : Int); omega), Int.toNat_natCast]
      rw [ep, ep]
      unfold dkI dch dwho
      cases dark with
      | true => exact if_neg (by decide)
      | false =>
        refine (if_pos (by decide)).trans ?_
        cases (aH a i).testBit (t (32 + 4 * i)) with
        | false => exact if_pos (by decide)
        | true => exact if_neg (by decide)
    · by_cases hpi : p = i
      · subst hpi; exact zs_at
      · rw [zs_ne hpi]; exact i2 p (by omega)
  · obtain ⟨i1, i2⟩ := hI
    have Xg : HX np nd nr t g := HX_to X (i1 16 (by decide)) (i1 17 (by decide)) (i1 18 (by decide))
    have Sg : XS np t a (g 34) := by rw [i1 34 (by decide)]; exact S
    obtain ⟨h', e1, e2, e3, e4⟩ := da2X8 V Xg A Sg hL i2 hN
    refine ⟨h', ?_, fun b b1 b2 b3 => (e2 b b1 b2).trans (i1 b b3), ?_, e4⟩
    · show fX8_dawn_c2b N 8 2 (fX8_dawn_c2 N 8 2 k) _ _ _ = _
      unfold fX8_dawn_c2b
      rw [xm1 Xg, if_pos (by omega)]
      exact e1
    · rw [e3, i1 35 (by decide)]
