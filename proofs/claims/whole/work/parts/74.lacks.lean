/-! what is lacked -/
def swp (t : Nat → Nat) (hd s : Nat) : Nat → Nat
  | 0 => s
  | n + 1 => if (swp t hd s n).testBit n = true then swp t hd s n ||| bdiff (wm t n) hd else swp t hd s n
def swpN (t : Nat → Nat) (nr hd s : Nat) : Nat → Nat
  | 0 => s
  | k + 1 => swp t hd (swpN t nr hd s k) nr
def lck (t : Nat → Nat) (nr hd s : Nat) : Nat := swpN t nr hd s 8
theorem swp_lt {np nd nr : Nat} {t : Nat → Nat} (V : HV np nd nr t) {hd s : Nat} (hs : s < 256) {n : Nat} (hn : n ≤ nr) : swp t hd s n < 256 := by
  induction n with
  | zero => exact hs
  | succ n ih =>
    have h1 := ih (by omega)
    have h2 := wm_lt V (show n < nr by omega)
    have h3 := bdiff_le (wm t n) hd
    unfold swp
    split
    · exact Nat.or_lt_two_pow (n := 8) h1 (by omega)
    · exact h1
theorem swpN_lt {np nd nr : Nat} {t : Nat → Nat} (V : HV np nd nr t) {hd s : Nat} (hs : s < 256) (k : Nat) : swpN t nr hd s k < 256 := by
  induction k with
  | zero => exact hs
  | succ k ih => exact swp_lt V ih (Nat.le_refl _)
theorem lck_lt {np nd nr : Nat} {t : Nat → Nat} (V : HV np nd nr t) {hd s : Nat} (hs : s < 256) : lck t nr hd s < 256 := swpN_lt V hs 8
theorem swp_0 {t : Nat → Nat} {hd : Nat} (n : Nat) : swp t hd 0 n = 0 := by
  induction n with
  | zero => rfl
  | succ n ih =>
    unfold swp
    rw [ih, if_neg (by rw [Nat.zero_testBit]; decide)]
theorem swpN_fix {t : Nat → Nat} {nr hd s k : Nat} (h : swpN t nr hd s (k + 1) = swpN t nr hd s k) (j : Nat) : swpN t nr hd s (k + j) = swpN t nr hd s k := by
  induction j with
  | zero => rfl
  | succ j ih =>
    show swp t hd (swpN t nr hd s (k + j)) nr = _
    rw [ih]
    exact h
theorem lck31 {np nd nr : Nat} {t : Nat → Nat} {h : zH} (V : HV np nd nr t) (X : HX np nd nr t h) {N : Nat} (hN : 10 ≤ N) (K : Int → Int → Int → Int → Option Int) {hd s : Nat} (hh : hd < 256) (hs : s < 256) (b r : Int) : fX1_lacks_c31 N 2 h K N (hd : Int) (s : Int) b r 0 = K (hd : Int) (swp t hd s nr : Int) b (r + 1) := by
  have v := V.1
  refine zloopq (F := fun k i (x : Int) => fX1_lacks_c31 N 2 h K k (hd : Int) x b r i) (n := nr) (s := (s : Int)) (fun i x => x = (swp t hd s i : Int)) (fun z => z = K (hd : Int) (swp t hd s nr : Int) b (r + 1)) (fun k i x hi hI => ?_) (fun k x hI => ?_) (by omega) rfl
  · have hl := swp_lt V (hd := hd) hs (Nat.le_of_lt hi)
    have hw := wm_lt V hi
    have hb := bdiff_le (wm t i) hd
    left
    refine ⟨_, ?_, rfl⟩
    show fX1_lacks_c31b N 2 h K (fX1_lacks_c31 N 2 h K k) _ _ _ _ _ = _
    unfold fX1_lacks_c31b
    rw [xm3 X, zw_id (show -2147483648 ≤ (nr : Int) ∧ (nr : Int) < 2147483648 by omega), zw_id (show -2147483648 ≤ (i : Int) ∧ (i : Int) < 2147483648 by omega), if_neg (by omega), hI, isIn_tab _ hl i (by omega), xw V X hi, zandn_nat (by omega) (by omega), zor_nat (by omega) (by omega), zlet_v]
    have e : swp t hd s (i + 1) = if (swp t hd s i).testBit i = true then swp t hd s i ||| bdiff (wm t i) hd else swp t hd s i := rfl
    rw [e, zq]
    by_cases hc : (swp t hd s i).testBit i = true
    · rw [if_pos hc, if_pos hc]; rfl
    · rw [if_neg hc, if_neg hc]; rfl
  · show fX1_lacks_c31b N 2 h K (fX1_lacks_c31 N 2 h K k) _ _ _ _ _ = _
    unfold fX1_lacks_c31b
    rw [xm3 X, if_pos (by omega), hI]
theorem lckX {np nd nr : Nat} {t : Nat → Nat} {h : zH} (V : HV np nd nr t) (X : HX np nd nr t h) {N : Nat} (hN : 10 ≤ N) {hd s : Nat} (hh : hd < 256) (hs : s < 256) : fX1_lacks N 2 (s : Int) (hd : Int) h = some (lck t nr hd (bdiff s hd) : Int) := by
  have hb := bdiff_le s hd
  unfold fX1_lacks
  rw [zandn_nat (by omega) (by omega), zlet_v]
  refine zloopq (F := fun k i (x : Int × Int) => fX1_lacks_c12 N 2 h k (hd : Int) x.1 x.2 i) (n := 8) (s := ((bdiff s hd : Int), 0)) (fun i x => x.1 = (swpN t nr hd (bdiff s hd) i : Int) ∧ (i = 0 ∧ x.2 = 0 ∨ ∃ j, i = j + 1 ∧ x.2 = (swpN t nr hd (bdiff s hd) j : Int))) (fun z => z = some (lck t nr hd (bdiff s hd) : Int)) (fun k i x hi hI => ?_) (fun k x hI => ?_) (by omega) ⟨rfl, Or.inl ⟨rfl, rfl⟩⟩
  · obtain ⟨x, y⟩ := x
    obtain ⟨i1, i2⟩ := hI
    dsimp only at i1 i2 ⊢
    have hl := swpN_lt V (hd := hd) (s := bdiff s hd) (by omega) i
    have hyb : zw y = y := by
      rcases i2 with ⟨-, rfl⟩ | ⟨j, -, rfl⟩
      · exact zw_0
      · have := swpN_lt V (hd := hd) (s := bdiff s hd) (by omega) j
        exact zw_id (by omega)
    have e : fX1_lacks_c12 N 2 h (k + 1) (hd : Int) x y (i : Int) = if x = y then some x else fX1_lacks_c12 N 2 h k (hd : Int) (swpN t nr hd (bdiff s hd) (i + 1) : Int) x ((i + 1 : Nat) : Int) := by
      show fX1_lacks_c12b N 2 h (fX1_lacks_c12 N 2 h k) _ _ _ _ = _
      unfold fX1_lacks_c12b
      rw [zw_8, zw_id (show -2147483648 ≤ (i : Int) ∧ (i : Int) < 2147483648 by omega), if_neg (by omega), hyb, i1, zw_id (show -2147483648 ≤ (swpN t nr hd (bdiff s hd) i : Int) ∧ (swpN t nr hd (bdiff s hd) i : Int) < 2147483648 by omega), lck31 V X hN _ hh hl]
      rfl
    by_cases hc : x = y
    · right
      rw [if_pos hc] at e
      show fX1_lacks_c12 N 2 h (k + 1) (hd : Int) x y (i : Int) = _
      rw [e, i1]
      congr 1
      rcases i2 with ⟨rfl, h2⟩ | ⟨j, rfl, h2⟩
      · have h0 : swpN t nr hd (bdiff s hd) 0 = 0 := by omega
        have f : swpN t nr hd (bdiff s hd) (0 + 1) = swpN t nr hd (bdiff s hd) 0 := by
          show swp t hd (swpN t nr hd (bdiff s hd) 0) nr = _
          rw [h0]; exact swp_0 nr
        have := swpN_fix f 8
        rw [Nat.zero_add] at this
        unfold lck
        rw [this]
      · have f : swpN t nr hd (bdiff s hd) (j + 1) = swpN t nr hd (bdiff s hd) j := by omega
        have := swpN_fix f (8 - j)
        rw [show j + (8 - j) = 8 by omega] at this
        unfold lck
        rw [this, f]
    · left
      rw [if_neg hc] at e
      exact ⟨(_, x), e, rfl, Or.inr ⟨i, rfl, i1⟩⟩
  · obtain ⟨x, y⟩ := x
    obtain ⟨i1, i2⟩ := hI
    dsimp only at i1 i2 ⊢
    show fX1_lacks_c12b N 2 h (fX1_lacks_c12 N 2 h k) _ _ _ _ = _
    unfold fX1_lacks_c12b
    rw [if_pos (by decide), i1]
    rfl
theorem bdiff_0 {a : Nat} (ha : a < 4294967296) : bdiff a 0 = a := by
  unfold bdiff
  rw [Nat.zero_xor]
  have := Nat.and_two_pow_sub_one_eq_mod a 32
  rw [show (2 : Nat) ^ 32 - 1 = 4294967295 from rfl] at this
  rw [this]
  exact Nat.mod_eq_of_lt ha
theorem lckM37 {np nd nr : Nat} {t : Nat → Nat} {g : zH} (V : HV np nd nr t) (M : HM np nd nr t g) {N : Nat} (hN : 10 ≤ N) (K : Int → Int → Int → Option Int) {hd s : Nat} (hh : hd < 256) (hs : s < 256) (r : Int) : fX11_lacks_c37 N g K N (hd : Int) (s : Int) r 0 = K (hd : Int) (swp t hd s nr : Int) (r + 1) := by
  have v := V.1
  refine zloopq (F := fun k i (x : Int) => fX11_lacks_c37 N g K k (hd : Int) x r i) (n := nr) (s := (s : Int)) (fun i x => x = (swp t hd s i : Int)) (fun z => z = K (hd : Int) (swp t hd s nr : Int) (r + 1)) (fun k i x hi hI => ?_) (fun k x hI => ?_) (by omega) rfl
  · have hl := swp_lt V (hd := hd) hs (Nat.le_of_lt hi)
    have hw := wm_lt V hi
    have hb := bdiff_le (wm t i) hd
    left
    refine ⟨_, ?_, rfl⟩
    show fX11_lacks_c37b N g K (fX11_lacks_c37 N g K k) _ _ _ _ = _
    unfold fX11_lacks_c37b
    have z0 : zor (swp t hd s i : Int) 0 = (swp t hd s i : Int) := by
      have := zor_nat (a := swp t hd s i) (b := 0) (by omega) (by decide)
      rw [Nat.or_zero] at this
      exact this
    rw [M.1.2.2, zw_id (show -2147483648 ≤ (nr : Int) ∧ (nr : Int) < 2147483648 by omega), zw_id (show -2147483648 ≤ (i : Int) ∧ (i : Int) < 2147483648 by omega), if_neg (by omega), hI, has_tab _ hl i (by omega), mw V M (by omega) hi, zb_some, zandn_nat (by omega) (by omega), zor_nat (by omega) (by omega), zlet_v, z0]
    have e : swp t hd s (i + 1) = if (swp t hd s i).testBit i = true then swp t hd s i ||| bdiff (wm t i) hd else swp t hd s i := rfl
    rw [e, zq]
    by_cases hc : (swp t hd s i).testBit i = true
    · rw [if_pos hc, if_pos hc]; rfl
    · rw [if_neg hc, if_neg hc]; rfl
  · show fX11_lacks_c37b N g K (fX11_lacks_c37 N g K k) _ _ _ _ = _
    unfold fX11_lacks_c37b
    rw [M.1.2.2, if_pos (by omega), hI]
theorem lckM27 {np nd nr : Nat} {t : Nat → Nat} {g : zH} (V : HV np nd nr t) (M : HM np nd nr t g) {N : Nat} (hN : 10 ≤ N) {hd s : Nat} (hh : hd < 256) (hs : s < 256) : fX11_lacks_c27 N g N (hd : Int) (s : Int) 0 = some (lck t nr hd s : Int) := by
  refine zloopq (F := fun k i (x : Int) => fX11_lacks_c27 N g k (hd : Int) x i) (n := 8) (s := (s : Int)) (fun i x => x = (swpN t nr hd s i : Int)) (fun z => z = some (lck t nr hd s : Int)) (fun k i x hi hI => ?_) (fun k x hI => ?_) (by omega) rfl
  · have hl := swpN_lt V (hd := hd) hs i
    left
    refine ⟨_, ?_, rfl⟩
    show fX11_lacks_c27b N g (fX11_lacks_c27 N g k) _ _ _ = _
    unfold fX11_lacks_c27b
    rw [zw_8, zw_id (show -2147483648 ≤ (i : Int) ∧ (i : Int) < 2147483648 by omega), if_neg (by omega), hI, lckM37 V M hN _ hh hl]
    rfl
  · show fX11_lacks_c27b N g (fX11_lacks_c27 N g k) _ _ _ = _
    unfold fX11_lacks_c27b
    rw [if_pos (by decide), hI]
    rfl
theorem bdiff_form {f hd : Nat} (hf : f < 8) (hh : hd < 256) : bdiff (2 ^ f) hd = if hd.testBit f = true then 0 else 2 ^ f := by
  apply Nat.eq_of_testBit_eq
  intro i
  by_cases hi : i < 32
  · rw [bdiff_bit _ _ _ hi, Nat.testBit_two_pow]
    by_cases h : f = i
    · subst h
      rw [decide_eq_true rfl, Bool.true_and]
      cases hb : hd.testBit f with
      | true => rw [if_pos rfl, Nat.zero_testBit]; rfl
      | false => rw [if_neg (by decide), Nat.testBit_two_pow, decide_eq_true rfl]; rfl
    · rw [decide_eq_false h, Bool.false_and]
      split
      · rw [Nat.zero_testBit]
      · rw [Nat.testBit_two_pow, decide_eq_false h]
  · have h1 : bdiff (2 ^ f) hd < 2 ^ i := Nat.lt_of_le_of_lt (bdiff_le _ _) (Nat.pow_lt_pow_right (by decide) (by omega))
    rw [Nat.testBit_lt_two_pow h1]
    split
    · rw [Nat.zero_testBit]
    · rw [Nat.testBit_two_pow, decide_eq_false (by omega)]
theorem lckM {np nd nr : Nat} {t : Nat → Nat} {g : zH} (V : HV np nd nr t) (M : HM np nd nr t g) {N : Nat} (hN : 10 ≤ N) {hd p : Nat} (hh : hd < 256) (hp : p < np) : fX11_lacks N (p : Int) (hd : Int) g = some (lck t nr hd (bdiff (2 ^ t (32 + 4 * p)) hd) : Int) := by
  have v := V.1
  have hf := (V.2.2.2.1 p hp).1
  have p8 : 2 ^ t (32 + 4 * p) < 2 ^ 8 := Nat.pow_lt_pow_right (by decide) (by omega)
  unfold fX11_lacks
  rw [mform V M hp, zb_some, zb_some, has_tab _ hh _ (by omega), zq, bdiff_form (by omega) hh]
  by_cases hc : hd.testBit (t (32 + 4 * p)) = true
  · rw [if_pos hc, if_pos hc]
    exact lckM27 V M hN hh (s := 0) (by decide)
  · rw [if_neg hc, if_neg hc, zlet_v, zshl_1 _ (by omega)]
    exact lckM27 V M hN hh (by omega)
theorem needM13 {np nd nr : Nat} {t : Nat → Nat} {g : zH} (V : HV np nd nr t) (M : HM np nd nr t g) {N : Nat} (hN : 10 ≤ N) (K : Int → Int → Option Int) {s : Nat} (hs : s < 256) (r : Int) : fX11_neededFor_c13 N g K N (s : Int) r 0 = K (swp t 0 s nr : Int) (r + 1) := by
  have v := V.1
  refine zloopq (F := fun k i (x : Int) => fX11_neededFor_c13 N g K k x r i) (n := nr) (s := (s : Int)) (fun i x => x = (swp t 0 s i : Int)) (fun z => z = K (swp t 0 s nr : Int) (r + 1)) (fun k i x hi hI => ?_) (fun k x hI => ?_) (by omega) rfl
  · have hl := swp_lt V (hd := 0) hs (Nat.le_of_lt hi)
    have hw := wm_lt V hi
    left
    refine ⟨_, ?_, rfl⟩
    show fX11_neededFor_c13b N g K (fX11_neededFor_c13 N g K k) _ _ _ = _
    unfold fX11_neededFor_c13b
    have z0 : zor (swp t 0 s i : Int) 0 = (swp t 0 s i : Int) := by
      have := zor_nat (a := swp t 0 s i) (b := 0) (by omega) (by decide)
      rw [Nat.or_zero] at this
      exact this
    rw [M.1.2.2, zw_id (show -2147483648 ≤ (nr : Int) ∧ (nr : Int) < 2147483648 by omega), zw_id (show -2147483648 ≤ (i : Int) ∧ (i : Int) < 2147483648 by omega), if_neg (by omega), hI, has_tab _ hl i (by omega), mw V M (by omega) hi, zb_some, zor_nat (by omega) (by omega), z0]
    have e : swp t 0 s (i + 1) = if (swp t 0 s i).testBit i = true then swp t 0 s i ||| bdiff (wm t i) 0 else swp t 0 s i := rfl
    rw [e, zq, bdiff_0 (by omega)]
    by_cases hc : (swp t 0 s i).testBit i = true
    · rw [if_pos hc, if_pos hc]; rfl
    · rw [if_neg hc, if_neg hc]; rfl
  · show fX11_neededFor_c13b N g K (fX11_neededFor_c13 N g K k) _ _ _ = _
    unfold fX11_neededFor_c13b
    rw [M.1.2.2, if_pos (by omega), hI]
theorem needM {np nd nr : Nat} {t : Nat → Nat} {g : zH} (V : HV np nd nr t) (M : HM np nd nr t g) {N : Nat} (hN : 10 ≤ N) {s : Nat} (hs : s < 256) : fX11_neededFor N (s : Int) g = some (lck t nr 0 s : Int) := by
  refine zloopq (F := fun k i (x : Int) => fX11_neededFor_c4 N g k x i) (n := 8) (s := (s : Int)) (fun i x => x = (swpN t nr 0 s i : Int)) (fun z => z = some (lck t nr 0 s : Int)) (fun k i x hi hI => ?_) (fun k x hI => ?_) (by omega) rfl
  · have hl := swpN_lt V (hd := 0) hs i
    left
    refine ⟨_, ?_, rfl⟩
    show fX11_neededFor_c4b N g (fX11_neededFor_c4 N g k) _ _ = _
    unfold fX11_neededFor_c4b
    rw [zw_8, zw_id (show -2147483648 ≤ (i : Int) ∧ (i : Int) < 2147483648 by omega), if_neg (by omega), hI, needM13 V M hN _ hl]
    rfl
  · show fX11_neededFor_c4b N g (fX11_neededFor_c4 N g k) _ _ = _
    unfold fX11_neededFor_c4b
    rw [if_pos (by decide), hI]
    rfl
theorem needed_both {np nd nr : Nat} {t : Nat → Nat} {h g : zH} (V : HV np nd nr t) (X : HX np nd nr t h) (M : HM np nd nr t g) {N : Nat} (hN : 10 ≤ N) {x : Int} (hx : zw x = x) : ∃ r, fX10_needed N x h = some r ∧ fX11_needed N x g = some r := by
  have v := V.1
  unfold fX10_needed fX11_needed
  rw [xh3 V X hx, mpap V M hx, zq, zq]
  by_cases hc : 0 ≤ x ∧ x < nr
  · rw [if_pos hc, if_pos hc]
    obtain ⟨r, rfl⟩ := Int.eq_ofNat_of_zero_le hc.1
    have p8 : 2 ^ r < 2 ^ 8 := Nat.pow_lt_pow_right (by decide) (by omega)
    have e := lckX V X hN (hd := 0) (s := 2 ^ r) (by decide) (by omega)
    rw [bdiff_0 (by omega)] at e
    rw [zshl_1 r (by omega), needM V M hN (by omega), show fX1_lacks N 2 ((2 ^ r : Nat) : Int) 0 h = _ from e]
    exact ⟨_, rfl, rfl⟩
  · rw [if_neg hc, if_neg hc]
    exact ⟨_, rfl, rfl⟩
theorem band_two {s i : Nat} : s &&& 2 ^ i = if s.testBit i = true then 2 ^ i else 0 := by
  apply Nat.eq_of_testBit_eq
  intro j
  rw [Nat.testBit_and, Nat.testBit_two_pow]
  by_cases h : i = j
  · subst h
    rw [decide_eq_true rfl, Bool.and_true]
    cases hb : s.testBit i with
    | true => rw [if_pos rfl, Nat.testBit_two_pow, decide_eq_true rfl]
    | false => rw [if_neg (by decide), Nat.zero_testBit]
  · rw [decide_eq_false h, Bool.and_false]
    split
    · rw [Nat.testBit_two_pow, decide_eq_false h]
    · rw [Nat.zero_testBit]
theorem ring_both {np nd nr : Nat} {t : Nat → Nat} {h g : zH} (V : HV np nd nr t) (X : HX np nd nr t h) (M : HM np nd nr t g) {N : Nat} (hN : 10 ≤ N) : ∃ r, fX10_ring N h = some r ∧ fX11_ring N g = some r := by
  have v := V.1
  unfold fX10_ring fX11_ring
  rw [hasHillX V X, zq, M.1.1, zw_id (show -2147483648 ≤ (np : Int) ∧ (np : Int) < 2147483648 by omega)]
  by_cases h0 : 0 < np
  · rw [if_pos h0, if_neg (show ¬ (np : Int) = 0 by omega)]
    have bb : ∀ i, i ≤ nr → bset (fun r => (lck t nr 0 (wm t r)).testBit r) i < 256 := fun i hi => Nat.lt_of_lt_of_le (bset_lt _ i) (Nat.pow_le_pow_right (by decide) (by omega) : 2 ^ i ≤ 2 ^ 8)
    have eX : fX10_ring_c13 N h N 0 0 = some (bset (fun r => (lck t nr 0 (wm t r)).testBit r) nr : Int) := by
      refine zloopq (F := fun k i (x : Int) => fX10_ring_c13 N h k x i) (n := nr) (s := 0) (fun i x => x = (bset (fun r => (lck t nr 0 (wm t r)).testBit r) i : Int)) (fun z => z = some (bset (fun r => (lck t nr 0 (wm t r)).testBit r) nr : Int)) (fun k i x hi hI => ?_) (fun k x hI => ?_) (by omega) rfl
      · have hw := wm_lt V hi
        have hl := lck_lt V (hd := 0) hw
        have b1 := bb i (by omega)
        have p8 : 2 ^ i < 2 ^ 8 := Nat.pow_lt_pow_right (by decide) (by omega)
        have e := lckX V X hN (hd := 0) (by decide) hw
        rw [bdiff_0 (by omega)] at e
        have la : lck t nr 0 (wm t i) &&& 2 ^ i ≤ lck t nr 0 (wm t i) := Nat.and_le_left
        left
        refine ⟨_, ?_, rfl⟩
        show fX10_ring_c13b N h (fX10_ring_c13 N h k) _ _ = _
        unfold fX10_ring_c13b
        rw [xm3 X, zw_id (show -2147483648 ≤ (nr : Int) ∧ (nr : Int) < 2147483648 by omega), zw_id (show -2147483648 ≤ (i : Int) ∧ (i : Int) < 2147483648 by omega), if_neg (by omega), xw V X hi, show fX1_lacks N 2 ((wm t i : Nat) : Int) 0 h = _ from e, zb_some, zlet_v, hI, zshl_1 i (by omega), zand_nat (by omega) (by omega), zor_nat (by omega) (by omega), band_two]
        rfl
      · show fX10_ring_c13b N h (fX10_ring_c13 N h k) _ _ = _
        unfold fX10_ring_c13b
        rw [xm3 X, if_pos (by omega), hI]
    have eM : fX11_ring_c13 N g N 0 0 = some (bset (fun r => (lck t nr 0 (wm t r)).testBit r) nr : Int) := by
      refine zloopq (F := fun k i (x : Int) => fX11_ring_c13 N g k x i) (n := nr) (s := 0) (fun i x => x = (bset (fun r => (lck t nr 0 (wm t r)).testBit r) i : Int)) (fun z => z = some (bset (fun r => (lck t nr 0 (wm t r)).testBit r) nr : Int)) (fun k i x hi hI => ?_) (fun k x hI => ?_) (by omega) rfl
      · have hw := wm_lt V hi
        have hl := lck_lt V (hd := 0) hw
        have b1 := bb i (by omega)
        have p8 : 2 ^ i < 2 ^ 8 := Nat.pow_lt_pow_right (by decide) (by omega)
        have z0 : zor (bset (fun r => (lck t nr 0 (wm t r)).testBit r) i : Int) 0 = (bset (fun r => (lck t nr 0 (wm t r)).testBit r) i : Int) := by
          have := zor_nat (a := bset (fun r => (lck t nr 0 (wm t r)).testBit r) i) (b := 0) (by omega) (by decide)
          rw [Nat.or_zero] at this
          exact this
        have eb : bset (fun r => (lck t nr 0 (wm t r)).testBit r) (i + 1) = bset (fun r => (lck t nr 0 (wm t r)).testBit r) i ||| (if (lck t nr 0 (wm t i)).testBit i = true then 2 ^ i else 0) := rfl
        left
        refine ⟨_, ?_, rfl⟩
        show fX11_ring_c13b N g (fX11_ring_c13 N g k) _ _ = _
        unfold fX11_ring_c13b
        rw [M.1.2.2, zw_id (show -2147483648 ≤ (nr : Int) ∧ (nr : Int) < 2147483648 by omega), zw_id (show -2147483648 ≤ (i : Int) ∧ (i : Int) < 2147483648 by omega), if_neg (by omega), mw V M (by omega) hi, zb_some, needM V M hN hw, zb_some, has_tab _ hl i (by omega), zq, zlet_v, hI, zshl_1 i (by omega), z0, zor_nat (by omega) (by omega), eb]
        by_cases hc : (lck t nr 0 (wm t i)).testBit i = true
        · rw [if_pos hc, if_pos hc]; rfl
        · rw [if_neg hc, if_neg hc, Nat.or_zero]; rfl
      · show fX11_ring_c13b N g (fX11_ring_c13 N g k) _ _ = _
        unfold fX11_ring_c13b
        rw [M.1.2.2, if_pos (by omega), hI]
    exact ⟨_, eX, eM⟩
  · rw [if_neg h0, if_pos (show (np : Int) = 0 by omega)]
    exact ⟨_, rfl, rfl⟩
