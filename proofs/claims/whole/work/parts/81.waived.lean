/-! waived of both -/
def isRb (t : Nat → Nat) (nr left : Nat) : Bool := (bl t nr 8 left 0).isSome
theorem isRb_e {t : Nat → Nat} {nr left : Nat} : isRb t nr left = true ↔ isR t nr left := by
  unfold isRb isR
  cases bl t nr 8 left 0 with
  | none => exact ⟨fun h => absurd h (by decide), fun h => absurd rfl h⟩
  | some x => exact ⟨fun _ h => Option.some_ne_none x h, fun _ => rfl⟩
/-- what is had so far -/
def hvG (hd L G rem : Nat) : Prop := rem < 256 ∧ sub rem L ∧ G < 256 ∧ ∀ i, i < 8 → G.testBit i = (hd.testBit i || (L.testBit i && !rem.testBit i))
theorem hvG_d {nr hd L G rem : Nat} (hL : L < 256) (hI : inP nr hd L) (H : hvG hd L G rem) : bdiff L G = rem := by
  obtain ⟨h1, h2, h3, h4⟩ := H
  apply Nat.eq_of_testBit_eq
  intro i
  by_cases hi : i < 8
  · rw [bdiff_bit _ _ _ (by omega), h4 i hi]
    cases hLi : L.testBit i with
    | false =>
      cases hr : rem.testBit i with
      | true => rw [h2 i hr] at hLi; cases hLi
      | false => rfl
    | true =>
      rw [(hI i hLi).2]
      cases rem.testBit i <;> rfl
  · rw [hi_bit (Nat.lt_of_le_of_lt (bdiff_le _ _) hL) (by omega), hi_bit h1 (by omega)]
theorem has24 {np nd nr : Nat} {t : Nat → Nat} {g : zH} (V : HV np nd nr t) (M : HM np nd nr t g) {N : Nat} (hN : 10 ≤ N) {hd L : Nat} (hL8 : L < 256) (hL : ∀ r, r < nr → L.testBit r = true → sub (bdiff (wm t r) hd) L) (hI : inP nr hd L) (K : Int → Int → Int → Option Int) {G0 rem0 : Nat} (H0 : hvG hd L G0 rem0) : ∃ (G rem : Nat) (m : Int), fX11_hasRow_c24 N g K N (L : Int) (G0 : Int) 0 0 = K (L : Int) (G : Int) m ∧ hvG hd L G rem ∧ (isR t nr rem0 ↔ isR t nr rem) ∧ ((m = 0 ∧ rem = rem0 ∧ ∀ r, r < nr → ¬ nxt t rem0 r = true) ∨ (m = 1 ∧ cb rem < cb rem0)) := by
  have v := V.1
  refine zloopq (F := fun k i (s : Int × Int) => fX11_hasRow_c24 N g K k (L : Int) s.1 s.2 i) (n := nr) (s := ((G0 : Int), 0)) (fun i s => ∃ G rem : Nat, s.1 = (G : Int) ∧ hvG hd L G rem ∧ (isR t nr rem0 ↔ isR t nr rem) ∧ ((s.2 = 0 ∧ rem = rem0 ∧ ∀ r, r < i → ¬ nxt t rem0 r = true) ∨ (s.2 = 1 ∧ cb rem < cb rem0))) (fun b => ∃ (G rem : Nat) (m : Int), b = K (L : Int) (G : Int) m ∧ hvG hd L G rem ∧ (isR t nr rem0 ↔ isR t nr rem) ∧ ((m = 0 ∧ rem = rem0 ∧ ∀ r, r < nr → ¬ nxt t rem0 r = true) ∨ (m = 1 ∧ cb rem < cb rem0))) (fun k i s hi hI2 => ?_) (fun k s hI2 => ?_) (by omega) ⟨G0, rem0, rfl, H0, Iff.rfl, Or.inl ⟨rfl, rfl, fun r hr => absurd hr (Nat.not_lt_zero _)⟩⟩
  · obtain ⟨s, m⟩ := s
    obtain ⟨G, rem, rfl, H, j2, j3⟩ := hI2
    dsimp only at j3 ⊢
    obtain ⟨k1, k2, k3, k4⟩ := id H
    have hw := wm_lt V hi
    have hbw := bdiff_le (wm t i) G
    have p8 : 2 ^ i < 2 ^ 8 := Nat.pow_lt_pow_right (by decide) (by omega)
    have e : fX11_hasRow_c24 N g K (k + 1) (L : Int) (G : Int) m (i : Int) = if L.testBit i = true then (if G.testBit i = true then fX11_hasRow_c24 N g K k (L : Int) (G : Int) m ((i + 1 : Nat) : Int) else if bdiff (wm t i) G = 0 then fX11_hasRow_c24 N g K k (L : Int) ((G ||| 2 ^ i : Nat) : Int) 1 ((i + 1 : Nat) : Int) else fX11_hasRow_c24 N g K k (L : Int) (G : Int) m ((i + 1 : Nat) : Int)) else fX11_hasRow_c24 N g K k (L : Int) (G : Int) m ((i + 1 : Nat) : Int) := by
      show fX11_hasRow_c24b N g K (fX11_hasRow_c24 N g K k) _ _ _ _ = _
      unfold fX11_hasRow_c24b
      rw [M.1.2.2, zw_id (show -2147483648 ≤ (nr : Int) ∧ (nr : Int) < 2147483648 by omega), zw_id (show -2147483648 ≤ (i : Int) ∧ (i : Int) < 2147483648 by omega), if_neg (by omega), has_tab _ hL8 i (by omega), zq, has_tab _ k3 i (by omega), zq, mw V M (by omega) hi, zb_some, zandn_nat (by omega) (by omega), zw_id (show -2147483648 ≤ ((bdiff (wm t i) G : Nat) : Int) ∧ ((bdiff (wm t i) G : Nat) : Int) < 2147483648 by omega), zshl_1 i (by omega), zor_nat (by omega) (by omega), zlet_v]
      by_cases c1 : L.testBit i = true
      · rw [if_pos c1, if_pos c1]
        by_cases c2 : G.testBit i = true
        · rw [if_pos c2, if_pos c2]; rfl
        · rw [if_neg c2, if_neg c2]
          by_cases c3 : bdiff (wm t i) G = 0
          · rw [if_pos (by omega), if_pos c3]; rfl
          · rw [if_neg (by omega), if_neg c3]; rfl
      · rw [if_neg c1, if_neg c1]; rfl
    left
    have keep : ¬ nxt t rem i = true → ∃ s' : Int × Int, fX11_hasRow_c24 N g K k (L : Int) (G : Int) m ((i + 1 : Nat) : Int) = fX11_hasRow_c24 N g K k (L : Int) s'.1 s'.2 ((i + 1 : Nat) : Int) ∧ ∃ G rem : Nat, s'.1 = (G : Int) ∧ hvG hd L G rem ∧ (isR t nr rem0 ↔ isR t nr rem) ∧ ((s'.2 = 0 ∧ rem = rem0 ∧ ∀ r, r < i + 1 → ¬ nxt t rem0 r = true) ∨ (s'.2 = 1 ∧ cb rem < cb rem0)) := by
      intro hn
      refine ⟨((G : Int), m), rfl, G, rem, rfl, H, j2, ?_⟩
      rcases j3 with ⟨q1, q2, q3⟩ | q
      · refine Or.inl ⟨q1, q2, fun r hr => ?_⟩
        by_cases hri : r = i
        · subst hri; rw [← q2]; exact hn
        · exact q3 r (by omega)
      · exact Or.inr q
    by_cases c1 : L.testBit i = true
    · rw [if_pos c1] at e
      have hdi : hd.testBit i = false := (hI i c1).2
      have hGi := k4 i (by omega)
      rw [hdi, c1, Bool.false_or, Bool.true_and] at hGi
      by_cases c2 : G.testBit i = true
      · rw [if_pos c2] at e
        have hri : ¬ rem.testBit i = true := fun h => by rw [h, c2] at hGi; cases hGi
        obtain ⟨s', q1, q2⟩ := keep (fun hn => hri (nxt_bit hn))
        exact ⟨s', e.trans q1, q2⟩
      · rw [if_neg c2] at e
        have hri : rem.testBit i = true := by
          cases hr : rem.testBit i with
          | true => rfl
          | false => rw [hr] at hGi; exact absurd hGi c2
        have hiff := nxt_held V hL hI k2 k1 k4 hi hri
        by_cases c3 : bdiff (wm t i) G = 0
        · rw [if_pos c3] at e
          have hn : nxt t rem i = true := by
            unfold nxt
            rw [hri, decide_eq_true (hiff.mp c3)]
            rfl
          have hcb := cb_rm rem k1 i (by omega) hri
          refine ⟨(((G ||| 2 ^ i : Nat) : Int), 1), e, G ||| 2 ^ i, rm rem i, rfl, ⟨rm_lt k1, fun j hj => ?_, Nat.or_lt_two_pow (n := 8) k3 p8, fun j hj => ?_⟩, j2.trans (isR_ex V rem k1 i hi hn), Or.inr ⟨rfl, ?_⟩⟩
          · have j8 := bit_lt (rm_lt k1) hj
            rw [rm_bit (by omega), Bool.and_eq_true] at hj
            exact k2 j hj.1
          · rw [Nat.testBit_or, Nat.testBit_two_pow, k4 j hj, rm_bit (by omega)]
            by_cases hij : i = j
            · subst hij
              rw [decide_eq_true rfl, c1, Bool.or_true, Bool.not_true, Bool.and_false, Bool.not_false, Bool.and_true, Bool.or_true]
            · rw [decide_eq_false hij, Bool.or_false, Bool.not_false, Bool.and_true]
          · rcases j3 with ⟨q1, q2, q3⟩ | q
            · rw [← q2]; omega
            · have := q.2; omega
        · rw [if_neg c3] at e
          obtain ⟨s', q1, q2⟩ := keep (fun hn => c3 (hiff.mpr (of_decide_eq_true (Bool.and_eq_true_iff.mp hn).2)))
          exact ⟨s', e.trans q1, q2⟩
    · rw [if_neg c1] at e
      obtain ⟨s', q1, q2⟩ := keep (fun hn => c1 (k2 i (nxt_bit hn)))
      exact ⟨s', e.trans q1, q2⟩
  · obtain ⟨s, m⟩ := s
    obtain ⟨G, rem, rfl, H, j2, j3⟩ := hI2
    dsimp only at j3 ⊢
    refine ⟨G, rem, m, ?_, H, j2, j3⟩
    show fX11_hasRow_c24b N g K (fX11_hasRow_c24 N g K k) _ _ _ _ = _
    unfold fX11_hasRow_c24b
    rw [M.1.2.2, if_pos (by omega)]
theorem hasRM {np nd nr : Nat} {t : Nat → Nat} {a : hSt} {g : zH} (V : HV np nd nr t) (M : HM np nd nr t g) (A : AV np nd nr t a) {N : Nat} (hN : 20 ≤ N) {p b : Nat} (hp : p < np) (hb : b < 256) : fX11_hasRow N (p : Int) ((aH a p ||| b : Nat) : Int) g = some (if isRb t nr (Lp t nr a p b) = true then 1 else 0) := by
  obtain ⟨q1, q2, q3, q4⟩ := Lp_f V A hp hb
  unfold fX11_hasRow
  rw [lacksM V M A (by omega) hp hb, zb_some]
  have key : ∀ (F G rem : Nat) (m : Int), hvG (aH a p ||| b) (Lp t nr a p b) G rem → (isR t nr (Lp t nr a p b) ↔ isR t nr rem) → ((m = 0 ∧ 0 < F ∧ ∀ r, r < nr → ¬ nxt t rem r = true) ∨ (m = 1 ∧ cb rem + 1 < F)) → fX11_hasRow_c13 N g F (Lp t nr a p b : Int) (G : Int) m = some (if isRb t nr (Lp t nr a p b) = true then 1 else 0) := by
    intro F
    induction F with
    | zero => intro G rem m _ _ h; omega
    | succ F ih =>
      intro G rem m H hiff hm
      have hrem := hvG_d q2 q3 H
      obtain ⟨k1, k2, k3, k4⟩ := id H
      have hle := bdiff_le (Lp t nr a p b) G
      show fX11_hasRow_c13b N g (fX11_hasRow_c13 N g F) _ _ _ = _
      unfold fX11_hasRow_c13b
      rcases hm with ⟨rfl, -, hno⟩ | ⟨rfl, hF⟩
      · rw [zif0, zandn_nat (by omega) (by omega), hrem, zw_id (show -2147483648 ≤ (rem : Int) ∧ (rem : Int) < 2147483648 by omega)]
        by_cases h0 : rem = 0
        · rw [if_pos (by omega), if_pos (isRb_e.mpr (hiff.mpr (by rw [h0]; exact isR_0)))]
        · rw [if_neg (by omega), if_neg (fun h => isR_no k1 h0 hno (hiff.mp (isRb_e.mp h)))]
      · rw [zif1]
        obtain ⟨G', rem', m', e1, e2, e3, e4⟩ := has24 V M (N := N) (by omega) q2 q4 q3 (fX11_hasRow_c13 N g F) H
        rw [e1]
        rcases e4 with ⟨rfl, h2, h3⟩ | ⟨rfl, h3⟩
        · exact ih G' rem' 0 e2 (hiff.trans e3) (Or.inl ⟨rfl, by omega, by rw [h2]; exact h3⟩)
        · exact ih G' rem' 1 e2 (hiff.trans e3) (Or.inr ⟨rfl, by omega⟩)
  refine key N (aH a p ||| b) (Lp t nr a p b) 1 ⟨q2, fun _ h => h, q1, fun i hi => ?_⟩ Iff.rfl (Or.inr ⟨rfl, by have := cb_le (Lp t nr a p b); omega⟩)
  cases h1 : (Lp t nr a p b).testBit i with
  | true => rw [Bool.not_true, Bool.and_false, Bool.or_false]
  | false => rw [Bool.false_and, Bool.or_false]
theorem hasRX {np nd nr : Nat} {t : Nat → Nat} {a : hSt} {h : zH} (V : HV np nd nr t) (X : HX np nd nr t h) (A : AV np nd nr t a) (S : XS np t a (h 30)) (hT : aT a ≤ 9999) (K : KM t nr h) {N : Nat} (hN : 10 ≤ N) {p b : Nat} (hp : p < np) (hb : b < 256) : ∃ h', fX10_hasRow N (p : Int) (b : Int) h = some (if isRb t nr (Lp t nr a p b) = true then 1 else 0, h') ∧ FR [43] h h' ∧ KM t nr h' := by
  obtain ⟨q1, q2, q3, q4⟩ := Lp_f V A hp hb
  have htm : aT a % 24 < 24 := Nat.mod_lt _ (by decide)
  obtain ⟨h1, e1, e2, e3⟩ := hrsX V hN X K q2 htm
  have hbd := hrs_b V q2 htm
  unfold fX10_hasRow fX3_hours
  rw [lacksOfX V X A S hN hp hb, zb_some, timX7 S.2.1 (by omega), e1, z2_some, z2_some, zw_id (show -2147483648 ≤ hrs (bl t nr 8 (Lp t nr a p b) (aT a % 24)) ∧ hrs (bl t nr 8 (Lp t nr a p b) (aT a % 24)) < 2147483648 by omega), zw_m1]
  refine ⟨h1, ?_, e2, e3⟩
  cases hbl : bl t nr 8 (Lp t nr a p b) (aT a % 24) with
  | none =>
    rw [show hrs none = -1 from rfl, if_pos rfl, if_neg (fun hc => isRb_e.mp hc (bl_tm _ q2 _ 0 hbl))]
  | some z =>
    rw [show hrs (some z) = (z.1 : Int) from rfl, if_neg (by omega), if_pos (isRb_e.mpr (fun hc => by rw [bl_tm _ q2 0 (aT a % 24) hc] at hbl; cases hbl))]
/-- the fewest papers -/
def wv (P : Nat → Bool) : Nat → Int
  | 0 => -1
  | n + 1 => if wv P n = -1 then (if P n = true then (n : Int) else -1) else if pcn (wv P n).toNat ≤ pcn n then wv P n else if P n = true then (n : Int) else wv P n
theorem wv_e {P : Nat → Bool} (n : Nat) : (wv P n = -1 ∧ ∀ s, s < n → ¬ P s = true) ∨ ∃ s0 : Nat, wv P n = (s0 : Int) ∧ s0 < n ∧ P s0 = true ∧ (∀ s, s < n → P s = true → pcn s0 ≤ pcn s) ∧ ∀ s, s < s0 → P s = true → pcn s0 < pcn s := by
  induction n with
  | zero => exact Or.inl ⟨rfl, fun s hs => absurd hs (Nat.not_lt_zero _)⟩
  | succ n ih =>
    unfold wv
    rcases ih with ⟨h1, h2⟩ | ⟨s0, h1, h2, h3, h4, h5⟩
    · rw [if_pos h1]
      by_cases hp : P n = true
      · rw [if_pos hp]
        refine Or.inr ⟨n, rfl, by omega, hp, fun s hs hps => ?_, fun s hs hps => absurd hps (h2 s hs)⟩
        by_cases hsn : s = n
        · subst hsn; exact Nat.le_refl _
        · exact absurd hps (h2 s (by omega))
      · rw [if_neg hp]
        refine Or.inl ⟨rfl, fun s hs => ?_⟩
        by_cases hsn : s = n
        · subst hsn; exact hp
        · exact h2 s (by omega)
    · rw [h1, if_neg (by omega), Int.toNat_natCast]
      by_cases hle : pcn s0 ≤ pcn n
      · rw [if_pos hle]
        refine Or.inr ⟨s0, rfl, by omega, h3, fun s hs hps => ?_, h5⟩
        by_cases hsn : s = n
        · subst hsn; exact hle
        · exact h4 s (by omega) hps
      · rw [if_neg hle]
        by_cases hp : P n = true
        · rw [if_pos hp]
          refine Or.inr ⟨n, rfl, by omega, hp, fun s hs hps => ?_, fun s hs hps => ?_⟩
          · by_cases hsn : s = n
            · subst hsn; exact Nat.le_refl _
            · have := h4 s (by omega) hps; omega
          · have := h4 s (by omega) hps; omega
        · rw [if_neg hp]
          refine Or.inr ⟨s0, rfl, by omega, h3, fun s hs hps => ?_, h5⟩
          by_cases hsn : s = n
          · subst hsn; exact absurd hps hp
          · exact h4 s (by omega) hps
theorem pcn_0 : ∀ s : Nat, s < 256 → pcn s = 0 → s = 0 := by decide +kernel
theorem pcn_1 : ∀ s : Nat, s < 256 → pcn s = 1 → ∃ r, r < 8 ∧ s = 2 ^ r := by decide +kernel
theorem pcn_p : ∀ r : Nat, r < 8 → pcn (2 ^ r) = 1 := by decide +kernel
/-- one paper is enough -/
theorem wv_one {P : Nat → Bool} {nr f : Nat} (hn : nr ≤ 8) (hf : f < nr) (hPf : P (2 ^ f) = true) : (P 0 = true → wv P (2 ^ nr) = 0) ∧ (¬ P 0 = true → ∃ r, r < nr ∧ wv P (2 ^ nr) = ((2 ^ r : Nat) : Int) ∧ P (2 ^ r) = true ∧ ∀ q, q < r → ¬ P (2 ^ q) = true) := by
  have p8 : 2 ^ nr ≤ 2 ^ 8 := Nat.pow_le_pow_right (by decide) hn
  have pf : 2 ^ f < 2 ^ nr := Nat.pow_lt_pow_right (by decide) hf
  rcases wv_e (P := P) (2 ^ nr) with ⟨h1, h2⟩ | ⟨s0, h1, h2, h3, h4, h5⟩
  · exact absurd hPf (h2 _ pf)
  · refine ⟨fun hp0 => ?_, fun hp0 => ?_⟩
    · have := h4 0 (Nat.two_pow_pos _) hp0
      have h0 : pcn 0 = 0 := by decide
      have := pcn_0 s0 (by omega) (by omega)
      rw [h1, this]; rfl
    · have h6 := h4 _ pf hPf
      rw [pcn_p f (by omega)] at h6
      have h7 : pcn s0 ≠ 0 := fun e => by
        have := pcn_0 s0 (by omega) e
        subst this
        exact hp0 h3
      obtain ⟨r, hr, rfl⟩ := pcn_1 s0 (by omega) (by omega)
      have hrn : r < nr := by
        refine Classical.byContradiction (fun hc => ?_)
        have : 2 ^ nr ≤ 2 ^ r := Nat.pow_le_pow_right (by decide) (by omega)
        omega
      refine ⟨r, hrn, h1, h3, fun q hq hpq => ?_⟩
      have h8 := h5 (2 ^ q) (Nat.pow_lt_pow_right (by decide) hq) hpq
      rw [pcn_p q (by omega), pcn_p r hr] at h8
      omega
theorem Lp_form {np nd nr : Nat} {t : Nat → Nat} {a : hSt} (V : HV np nd nr t) (A : AV np nd nr t a) {p : Nat} (hp : p < np) : Lp t nr a p (2 ^ t (32 + 4 * p)) = 0 := by
  have v := V.1
  have hf := (V.2.2.2.1 p hp).1
  have hH := (A.1 p hp).1
  have p8 : 2 ^ t (32 + 4 * p) < 2 ^ 8 := Nat.pow_lt_pow_right (by decide) (by omega)
  have hd8 : aH a p ||| 2 ^ t (32 + 4 * p) < 2 ^ 8 := Nat.or_lt_two_pow hH p8
  unfold Lp
  rw [bdiff_form (by omega) hd8, if_pos (by rw [Nat.testBit_or, Nat.testBit_two_pow, decide_eq_true rfl, Bool.or_true])]
  have : ∀ k, swpN t nr (aH a p ||| 2 ^ t (32 + 4 * p)) 0 k = 0 := by
    intro k
    induction k with
    | zero => rfl
    | succ k ih =>
      show swp _ _ (swpN t nr (aH a p ||| 2 ^ t (32 + 4 * p)) 0 k) nr = 0
      rw [ih]; exact swp_0 nr
  exact this 8
theorem waiX {np nd nr : Nat} {t : Nat → Nat} {a : hSt} {h : zH} (V : HV np nd nr t) (X : HX np nd nr t h) (A : AV np nd nr t a) (S : XS np t a (h 30)) (hT : aT a ≤ 9999) (K : KM t nr h) {N : Nat} (hN : 10 ≤ N) {x : Int} (hx : zw x = x) : (¬ (0 ≤ x ∧ x < np) → fX10_waived N x h = some (-1, h)) ∧ (0 ≤ x ∧ x < np → ∃ h', fX10_waived N x h = some (wv (fun s => isRb t nr (Lp t nr a x.toNat s)) (2 ^ nr), h') ∧ FR [43] h h' ∧ KM t nr h') := by
  have v := V.1
  refine ⟨fun hc => ?_, fun hc => ?_⟩
  · unfold fX10_waived
    rw [xh1 V X hx, zq, if_neg hc]
  · obtain ⟨p, rfl⟩ := Int.eq_ofNat_of_zero_le hc.1
    have hp : p < np := by omega
    rw [Int.toNat_natCast]
    have hf := (V.2.2.2.1 p hp).1
    have one := wv_one (P := fun s => isRb t nr (Lp t nr a p s)) v.2.2 hf (by show isRb t nr (Lp t nr a p (2 ^ t (32 + 4 * p))) = true; rw [Lp_form V A hp]; exact isRb_e.mpr isR_0)
    obtain ⟨h1, e1, e2, e3⟩ := hasRX V X A S hT K hN hp (b := 0) (by decide)
    unfold fX10_waived
    rw [xh1 V X hx, zq, if_pos hc, show fX10_hasRow N (p : Int) 0 h = _ from e1, z2_some, zq]
    by_cases h0 : isRb t nr (Lp t nr a p 0) = true
    · rw [if_pos h0, one.1 h0]
      exact ⟨h1, rfl, e2, e3⟩
    · rw [if_neg h0]
      obtain ⟨r, hr, w1, w2, w3⟩ := one.2 h0
      rw [w1]
      refine zloopq (F := fun k i (s : zH) => fX10_waived_c27 N k (p : Int) i s) (n := nr) (s := h1) (fun i s => i ≤ r ∧ FR [43] h s ∧ KM t nr s) (fun b => ∃ h', b = some (((2 ^ r : Nat) : Int), h') ∧ FR [43] h h' ∧ KM t nr h') (fun k i s hi hI => ?_) (fun k s hI => ?_) (by omega) ⟨Nat.zero_le _, e2, e3⟩
      · obtain ⟨i0, i1, i2⟩ := hI
        have Xs : HX np nd nr t s := HX_to X (i1 16 (by decide)) (i1 17 (by decide)) (i1 18 (by decide))
        have Ss : XS np t a (s 30) := by rw [i1 30 (by decide)]; exact S
        have p8 : 2 ^ i < 2 ^ 8 := Nat.pow_lt_pow_right (by decide) (by omega)
        obtain ⟨h2, f1, f2, f3⟩ := hasRX V Xs A Ss hT i2 hN hp (b := 2 ^ i) (by omega)
        have e : fX10_waived_c27 N (k + 1) (p : Int) (i : Int) s = if isRb t nr (Lp t nr a p (2 ^ i)) = true then some (((2 ^ i : Nat) : Int), h2) else fX10_waived_c27 N k (p : Int) ((i + 1 : Nat) : Int) h2 := by
          show fX10_waived_c27b N (fX10_waived_c27 N k) _ _ _ = _
          unfold fX10_waived_c27b
          rw [xm3 Xs, zw_id (show -2147483648 ≤ (nr : Int) ∧ (nr : Int) < 2147483648 by omega), zw_id (show -2147483648 ≤ (i : Int) ∧ (i : Int) < 2147483648 by omega), if_neg (by omega), zshl_1 i (by omega), f1, z2_some, zq]
          rfl
        by_cases hir : i = r
        · subst hir
          right
          rw [if_pos w2] at e
          exact ⟨h2, e, FR_tr i1 f2, f3⟩
        · left
          rw [if_neg (w3 i (by omega))] at e
          exact ⟨h2, e, by omega, FR_tr i1 f2, f3⟩
      · obtain ⟨i0, i1, i2⟩ := hI
        omega
theorem waiM {np nd nr B : Nat} {t : Nat → Nat} {a : hSt} {g : zH} (V : HV np nd nr t) (M : HM np nd nr t g) (A : AV np nd nr t a) (S : MS np B a (g 69)) {N : Nat} (hN : 300 ≤ N) {x : Int} (hx : zw x = x) : (¬ (0 ≤ x ∧ x < np) → fX11_waived N x g = some (-1)) ∧ (0 ≤ x ∧ x < np → fX11_waived N x g = some (wv (fun s => isRb t nr (Lp t nr a x.toNat s)) (2 ^ nr))) := by
  have v := V.1
  refine ⟨fun hc => ?_, fun hc => ?_⟩
  · unfold fX11_waived
    rw [mpar V M hx, zq, if_neg hc]
  · obtain ⟨p, rfl⟩ := Int.eq_ofNat_of_zero_le hc.1
    have hp : p < np := by omega
    have hH := (A.1 p hp).1
    have p8 : 2 ^ nr ≤ 2 ^ 8 := Nat.pow_le_pow_right (by decide) v.2.2
    rw [Int.toNat_natCast]
    unfold fX11_waived
    rw [mpar V M hx, zq, if_pos hc]
    have ws : ∀ i, i ≤ 2 ^ nr → -1 ≤ wv (fun s => isRb t nr (Lp t nr a p s)) i ∧ wv (fun s => isRb t nr (Lp t nr a p s)) i < 256 := by
      intro i hi
      rcases wv_e (P := fun s => isRb t nr (Lp t nr a p s)) i with ⟨h1, -⟩ | ⟨s0, h1, h2, -⟩ <;> omega
    refine zloopq (F := fun k i (s : Int) => fX11_waived_c14 N g k (p : Int) s i) (n := 2 ^ nr) (s := -1) (fun i s => s = wv (fun s => isRb t nr (Lp t nr a p s)) i) (fun b => b = some (wv (fun s => isRb t nr (Lp t nr a p s)) (2 ^ nr))) (fun k i s hi hI => ?_) (fun k s hI => ?_) (by omega) rfl
    · have hb := ws i (by omega)
      have p8i : i < 2 ^ 8 := by omega
      have c45 : ∀ b : Bool, fX11_waived_c45 N g (fX11_waived_c14 N g k) (p : Int) s (i : Int) (if b = true then 1 else 0) = if b = true then (if isRb t nr (Lp t nr a p i) = true then fX11_waived_c14 N g k (p : Int) (i : Int) ((i + 1 : Nat) : Int) else fX11_waived_c14 N g k (p : Int) s ((i + 1 : Nat) : Int)) else fX11_waived_c14 N g k (p : Int) s ((i + 1 : Nat) : Int) := by
        intro b
        unfold fX11_waived_c45
        rw [zq]
        cases b with
        | false => rfl
        | true =>
          rw [if_pos rfl, if_pos rfl, om_0 (by omega), zb_some, (S.1 p hp).1, zor_nat (by omega) (by omega), hasRM V M A (by omega) hp (by omega), zb_some, zq]
          rfl
      left
      refine ⟨_, ?_, rfl⟩
      show fX11_waived_c14b N g (fX11_waived_c14 N g k) _ _ _ = _
      unfold fX11_waived_c14b
      rw [M.1.2.2, zshl_1 nr (by omega), zw_id (show -2147483648 ≤ ((2 ^ nr : Nat) : Int) ∧ ((2 ^ nr : Nat) : Int) < 2147483648 by omega), zw_id (show -2147483648 ≤ (i : Int) ∧ (i : Int) < 2147483648 by omega), if_neg (by omega), zw_m1]
      have ewv : wv (fun s => isRb t nr (Lp t nr a p s)) (i + 1) = if wv (fun s => isRb t nr (Lp t nr a p s)) i = -1 then (if isRb t nr (Lp t nr a p i) = true then (i : Int) else -1) else if pcn (wv (fun s => isRb t nr (Lp t nr a p s)) i).toNat ≤ pcn i then wv (fun s => isRb t nr (Lp t nr a p s)) i else if isRb t nr (Lp t nr a p i) = true then (i : Int) else wv (fun s => isRb t nr (Lp t nr a p s)) i := rfl
      rw [ewv, ← hI, zw_id (show -2147483648 ≤ s ∧ s < 2147483648 by omega)]
      by_cases c1 : s = -1
      · rw [if_pos c1, if_pos c1]
        refine (c45 true).trans ?_
        rw [if_pos rfl]
        by_cases c2 : isRb t nr (Lp t nr a p i) = true
        · rw [if_pos c2, if_pos c2]
        · rw [if_neg c2, if_neg c2, c1]
      · rw [if_neg c1, if_neg c1]
        obtain ⟨s0, hs0⟩ := Int.eq_ofNat_of_zero_le (show 0 ≤ s by omega)
        obtain ⟨u1, u2⟩ := pcn_e s0 (by omega)
        obtain ⟨u3, u4⟩ := pcn_e i (by omega)
        rw [hs0, Int.toNat_natCast, u1, u3, zw_id (show -2147483648 ≤ (pcn s0 : Int) ∧ (pcn s0 : Int) < 2147483648 by omega), zw_id (show -2147483648 ≤ (pcn i : Int) ∧ (pcn i : Int) < 2147483648 by omega), ← hs0]
        by_cases c2 : pcn s0 ≤ pcn i
        · rw [if_pos (by omega), if_pos c2]
          exact (c45 false).trans (if_neg (by decide))
        · rw [if_neg (by omega), if_neg c2]
          refine (c45 true).trans ?_
          rw [if_pos rfl]
          by_cases c3 : isRb t nr (Lp t nr a p i) = true
          · rw [if_pos c3, if_pos c3]
          · rw [if_neg c3, if_neg c3]
    · show fX11_waived_c14b N g (fX11_waived_c14 N g k) _ _ _ = _
      unfold fX11_waived_c14b
      rw [M.1.2.2, zshl_1 nr (by omega), if_pos (Int.le_refl _), hI]
