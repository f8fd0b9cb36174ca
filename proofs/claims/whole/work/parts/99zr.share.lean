/-! shares by a row -/
def fmk (t : Nat → Nat) : Nat → Nat
  | 0 => 0
  | k + 1 => fmk t k ||| 2 ^ t (32 + 4 * k)
theorem fmk_lt {np nd nr : Nat} {t : Nat → Nat} (V : HV np nd nr t) (k : Nat) (hk : k ≤ np) : fmk t k < 2 ^ 8 := by
  induction k with
  | zero => exact (show (0 : Nat) < 2 ^ 8 by decide)
  | succ k ih =>
    have v := V.2.2.2.1 k (by omega)
    have v1 := V.1
    exact Nat.or_lt_two_pow (ih (by omega)) (Nat.pow_lt_pow_right (by decide) (by omega))
theorem fmk_t {t : Nat → Nat} {v : Nat} (k : Nat) : (fmk t k).testBit v = true ↔ ∃ p, p < k ∧ t (32 + 4 * p) = v := by
  induction k with
  | zero =>
    show Nat.testBit 0 v = true ↔ _
    rw [Nat.zero_testBit]
    exact ⟨fun h => (by cases h), fun ⟨p, hp, _⟩ => absurd hp (by omega)⟩
  | succ k ih =>
    show (fmk t k ||| 2 ^ t (32 + 4 * k)).testBit v = true ↔ _
    rw [Nat.testBit_or, Bool.or_eq_true, ih, Nat.testBit_two_pow, decide_eq_true_iff]
    constructor
    · rintro (⟨p, hp, e⟩ | e)
      · exact ⟨p, by omega, e⟩
      · exact ⟨k, by omega, e⟩
    · rintro ⟨p, hp, e⟩
      by_cases h : p = k
      · right; rw [← h]; exact e
      · exact Or.inl ⟨p, by omega, e⟩
theorem formsX {np nd nr : Nat} {t : Nat → Nat} {h : zH} (V : HV np nd nr t) (X : HX np nd nr t h) {N : Nat} (hN : 20 ≤ N) : fX6_formsOf N 2 h = some (fmk t np : Int) := by
  have v := V.1
  refine zloopq (F := fun m i (s : Int) => fX6_formsOf_c4 N 2 h m s i) (n := np) (s := 0) (fun i s => s = (fmk t i : Int)) (fun r => r = some (fmk t np : Int)) (fun m i s hi hI => ?_) (fun m s hI => ?_) (show np < N by omega) rfl
  · have hI : s = (fmk t i : Int) := hI
    subst hI
    left
    refine ⟨(fmk t (i + 1) : Int), ?_, rfl⟩
    show fX6_formsOf_c4b N 2 h (fX6_formsOf_c4 N 2 h m) _ (i : Int) = _
    unfold fX6_formsOf_c4b
    have f := fmk_lt V i (by omega)
    have vi := V.2.2.2.1 i hi
    have p : 2 ^ t (32 + 4 * i) < 2 ^ 8 := Nat.pow_lt_pow_right (by decide) (by omega)
    rw [xm1 X, zw_id (show -2147483648 ≤ (np : Int) ∧ (np : Int) < 2147483648 by omega), zw_id (show -2147483648 ≤ (i : Int) ∧ (i : Int) < 2147483648 by omega), if_neg (by omega), xi10 V X hi, zlet_v, zshl_1 _ (by omega), zor_nat (by omega) (by omega)]
    rfl
  · have hI : s = (fmk t np : Int) := hI
    subst hI
    show fX6_formsOf_c4b N 2 h (fX6_formsOf_c4 N 2 h m) _ (np : Int) = _
    unfold fX6_formsOf_c4b
    rw [xm1 X, if_pos (Int.le_refl _)]
/-- a row's signs: whether all are FORMS, and each -/
def vR (f : Nat) : Nat → Nat → Bool
  | 0, left => decide (left = 0)
  | m + 1, left => f.testBit (left % 10) && vR f m (left / 10)
def chR : Nat → Nat → Nat → Nat
  | 0, _, _ => 0
  | m + 1, left, p => if p = m then left % 10 else chR m (left / 10) p
theorem chR_10 (m : Nat) : ∀ left p, chR m left p < 10 := by
  induction m with
  | zero => intro left p; exact (by decide : 0 < 10)
  | succ m ih =>
    intro left p
    unfold chR
    split
    · omega
    · exact ih _ _
theorem isIn8 {f v : Nat} (hf : f < 256) (hv : v < 10) : fX10_isIn (f : Int) (v : Int) = if f.testBit v then 1 else 0 := by
  by_cases h : v < 8
  · exact isIn_tab f hf v h
  · rw [isIn_out (by omega) (by omega)]
    have : f.testBit v = false := Nat.testBit_lt_two_pow (Nat.lt_of_lt_of_le hf (by
      have := Nat.pow_le_pow_right (show 0 < 2 by decide) (show 8 ≤ v by omega)
      omega))
    rw [this]; rfl
theorem put44 {j : Nat} (hj : j < 6) (v : Int) (h : zH) : fX10_put 44 (j : Int) v h = zs h 44 j v := by
  rw [put_in (by omega) (by show _ < ((6 : Nat) : Int); omega), Int.toNat_natCast]
theorem chooseL {N f x : Nat} (hf : f < 256) (hx : x < 2147483648) (m : Nat) : ∀ (left F : Nat) (h : zH), m ≤ 6 → left < 2147483648 → m < F → ∃ h', fX6_choose_c17 N 2 F (x : Int) (f : Int) (left : Int) ((m : Int) - 1) h = some (if vR f m left = true then 1 else 0, h') ∧ FR [44] h h' ∧ (∀ p, m ≤ p → h' 44 p = h 44 p) ∧ (vR f m left = true → ∀ p, p < m → h' 44 p = (chR m left p : Int)) := by
  induction m with
  | zero =>
    intro left F h hm hl hF
    obtain ⟨F, rfl⟩ : ∃ F', F = F' + 1 := ⟨F - 1, by omega⟩
    refine ⟨h, ?_, FR_rf, fun p _ => rfl, fun _ p hp => absurd hp (by omega)⟩
    show fX6_choose_c17b N 2 (fX6_choose_c17 N 2 F) (x : Int) (f : Int) (left : Int) (0 - 1) h = _
    unfold fX6_choose_c17b vR
    rw [if_pos (by decide), zw_id (show -2147483648 ≤ (left : Int) ∧ (left : Int) < 2147483648 by omega)]
    by_cases c : left = 0
    · rw [if_pos (by omega), if_pos (decide_eq_true c)]
    · rw [if_neg (by omega), if_neg (by simp [c])]
  | succ m ih =>
    intro left F h hm hl hF
    obtain ⟨F, rfl⟩ : ∃ F', F = F' + 1 := ⟨F - 1, by omega⟩
    show ∃ h', fX6_choose_c17b N 2 (fX6_choose_c17 N 2 F) (x : Int) (f : Int) (left : Int) (((m + 1 : Nat) : Int) - 1) h = _ ∧ _
    unfold fX6_choose_c17b
    have r1 : zrem (left : Int) 10 = ((left % 10 : Nat) : Int) := by rw [zrem_pos (by omega) (by omega) (by decide) (by decide)]; omega
    have r2 : zdiv (left : Int) 10 = ((left / 10 : Nat) : Int) := by rw [zdiv_pos (by omega) (by omega) (by decide) (by decide)]; omega
    rw [show ((m + 1 : Nat) : Int) - 1 = (m : Int) by omega, zw_id (show -2147483648 ≤ (m : Int) ∧ (m : Int) < 2147483648 by omega), if_neg (by omega), zw_id (show -2147483648 ≤ (x : Int) ∧ (x : Int) < 2147483648 by omega), if_neg (by omega), r1, r2, isIn8 hf (by omega)]
    unfold vR chR
    by_cases c : f.testBit (left % 10) = true
    · rw [c, if_pos rfl, if_neg (show ¬ zw 1 = 0 by decide), put44 (by omega), zlet_v, Bool.true_and]
      obtain ⟨h', e1, e2, e3, e4⟩ := ih (left / 10) F (zs h 44 m ((left % 10 : Nat) : Int)) (by omega) (by omega) (by omega)
      refine ⟨h', ?_, FR_tr (fun b hb => zs_row_ne (fun e => hb (by rw [e]; decide))) e2, fun p hp => ?_, fun hv p hp => ?_⟩
      · rw [← e1]; rfl
      · rw [e3 p (by omega), zs_ne (by omega)]
      · by_cases e : p = m
        · rw [if_pos e, e, e3 m (Nat.le_refl _), zs_at]
        · rw [if_neg e]; exact e4 hv p (by omega)
    · have c' : f.testBit (left % 10) = false := Bool.eq_false_iff.mpr c
      rw [c', if_pos (show zw (if false = true then (1 : Int) else 0) = 0 by decide), Bool.false_and, if_neg (show ¬ false = true by decide)]
      exact ⟨h, rfl, FR_rf, fun p _ => rfl, fun h => (by cases h)⟩
/-- what a row is worth to a parish -/
def shareV (np : Nat) (t : Nat → Nat) (x y : Int) : Int := if (0 ≤ y ∧ y < np) ∧ np ≤ 5 ∧ 0 ≤ x ∧ vR (fmk t np) np x.toNat = true then (por np t (fun p => (chR np x.toNat p : Int)) y.toNat : Int) else -1000000
theorem shareX {np nd nr : Nat} {t : Nat → Nat} {h : zH} (V : HV np nd nr t) (X : HX np nd nr t h) {N : Nat} (hN : 300 ≤ N) {x y : Int} (hx : zw x = x) (hy : zw y = y) : ∃ h', fX10_share N x y h = some (shareV np t x y, h') ∧ FR [44] h h' := by
  have v := V.1
  unfold fX10_share shareV
  rw [xh1 V X hy, zq, xm1 X, show zw 5 = 5 by decide, zw_id (show -2147483648 ≤ (np : Int) ∧ (np : Int) < 2147483648 by omega)]
  by_cases c1 : 0 ≤ y ∧ y < np
  · rw [if_pos c1]
    by_cases c2 : np ≤ 5
    · rw [if_neg (by omega)]
      have f8 := fmk_lt V np (Nat.le_refl np)
      unfold fX6_choose
      rw [formsX V X (by omega), zb_some, xm1 X, zlet_v]
      by_cases c3 : 0 ≤ x
      · obtain ⟨z, rfl⟩ := Int.eq_ofNat_of_zero_le c3
        have hz : z < 2147483648 := by
          have := zw_lt (z : Int)
          omega
        obtain ⟨h', e1, e2, e3, e4⟩ := chooseL (N := N) (show fmk t np < 256 by omega) hz np z N h (by omega) hz (by omega)
        rw [e1, z2_some, Int.toNat_natCast]
        by_cases c4 : vR (fmk t np) np z = true
        · rw [if_pos c4, if_neg (show ¬ zw 1 = 0 by decide), if_pos ⟨c1, c2, c3, c4⟩]
          obtain ⟨p, rfl⟩ := Int.eq_ofNat_of_zero_le c1.1
          have hp : p < np := by omega
          have X' : HX np nd nr t h' := HX_to X (e2 16 (by decide)) (e2 17 (by decide)) (e2 18 (by decide))
          rw [porX V X' (o1 := 44) rfl (ch := fun p => (chR np z p : Int)) (fun o ho => ⟨e4 c4 o ho, by omega, by have := chR_10 np z o; omega⟩) (by omega) hp, zb_some, Int.toNat_natCast]
          exact ⟨h', rfl, e2⟩
        · rw [if_neg c4, if_pos zw_0, if_neg (fun h => c4 h.2.2.2)]
          exact ⟨h', rfl, e2⟩
      · obtain ⟨m, rfl⟩ : ∃ m, np = m + 1 := ⟨np - 1, by omega⟩
        obtain ⟨K, rfl⟩ : ∃ K, N = K + 1 := ⟨N - 1, by omega⟩
        have e1 : fX6_choose_c17 (K + 1) 2 (K + 1) x (fmk t (m + 1) : Int) x (((m + 1 : Nat) : Int) - 1) h = some (0, h) := by
          show fX6_choose_c17b (K + 1) 2 (fX6_choose_c17 (K + 1) 2 K) x _ x (((m + 1 : Nat) : Int) - 1) h = _
          unfold fX6_choose_c17b
          rw [show ((m + 1 : Nat) : Int) - 1 = (m : Int) by omega, zw_id (show -2147483648 ≤ (m : Int) ∧ (m : Int) < 2147483648 by omega), if_neg (by omega), hx, if_pos (by omega)]
        rw [e1, z2_some, if_pos zw_0, if_neg (fun h => c3 h.2.2.1)]
        exact ⟨h, rfl, FR_rf⟩
    · rw [if_pos (by omega), if_neg (fun h => c2 h.2.1)]
      exact ⟨h, rfl, FR_rf⟩
  · rw [if_neg c1, if_neg (fun h => c1 h.1)]
    exact ⟨h, rfl, FR_rf⟩
/-! the reference's -/
theorem ten10L {N k : Nat} (hk : k ≤ 6) (m : Nat) : ∀ (i F : Nat), i + m = k → m < F → fX11_ten_c4 N F (k : Int) ((10 ^ i : Nat) : Int) (i : Int) = some ((10 ^ k : Nat) : Int) := by
  induction m with
  | zero =>
    intro i F hi hF
    obtain ⟨F, rfl⟩ : ∃ F', F = F' + 1 := ⟨F - 1, by omega⟩
    have : i = k := by omega
    subst this
    show fX11_ten_c4b N (fX11_ten_c4 N F) _ _ _ = _
    unfold fX11_ten_c4b
    rw [if_pos (Int.le_refl _)]
  | succ m ih =>
    intro i F hi hF
    obtain ⟨F, rfl⟩ : ∃ F', F = F' + 1 := ⟨F - 1, by omega⟩
    show fX11_ten_c4b N (fX11_ten_c4 N F) _ _ _ = _
    unfold fX11_ten_c4b
    rw [zw_id (show -2147483648 ≤ (k : Int) ∧ (k : Int) < 2147483648 by omega), zw_id (show -2147483648 ≤ (i : Int) ∧ (i : Int) < 2147483648 by omega), if_neg (by omega), ← ih (i + 1) F (by omega) (by omega)]
    have : ((10 ^ i : Nat) : Int) * 10 = ((10 ^ (i + 1) : Nat) : Int) := by rw [Nat.pow_succ]; omega
    rw [this]; rfl
theorem ten10M {N k : Nat} (hN : 20 ≤ N) (hk : k ≤ 6) : fX11_ten N (k : Int) = some ((10 ^ k : Nat) : Int) := ten10L hk k 0 N (by omega) (by omega)
theorem ten10_b {k : Nat} (hk : k ≤ 6) : 1 ≤ 10 ^ k ∧ 10 ^ k ≤ 1000000 := by
  have h1 := Nat.pow_le_pow_right (show 0 < 10 by decide) hk
  have h2 := Nat.pow_pos (show 0 < 10 by decide) (n := k)
  omega
theorem isFoM {np nd nr : Nat} {t : Nat → Nat} {g : zH} (V : HV np nd nr t) (M : HM np nd nr t g) {N : Nat} (hN : 20 ≤ N) {v : Nat} (hv : v < 10) : fX11_isForm N (v : Int) g = some (if (fmk t np).testBit v = true then 1 else 0) := by
  have vv := V.1
  refine zloopq (F := fun m i (_ : Unit) => fX11_isForm_c2 N g m (v : Int) i) (n := np) (s := ()) (fun i _ => ∀ p, p < i → t (32 + 4 * p) ≠ v) (fun r => r = some (if (fmk t np).testBit v = true then 1 else 0)) (fun m i s hi hI => ?_) (fun m s hI => ?_) (show np < N by omega) (fun p hp => absurd hp (by omega))
  · have vi := V.2.2.2.1 i hi
    have e : fX11_isForm_c2 N g (m + 1) (v : Int) (i : Int) = if t (32 + 4 * i) = v then some 1 else fX11_isForm_c2 N g m (v : Int) ((i + 1 : Nat) : Int) := by
      show fX11_isForm_c2b N g (fX11_isForm_c2 N g m) _ (i : Int) = _
      unfold fX11_isForm_c2b
      rw [M.1.1, zw_id (show -2147483648 ≤ (np : Int) ∧ (np : Int) < 2147483648 by omega), zw_id (show -2147483648 ≤ (i : Int) ∧ (i : Int) < 2147483648 by omega), if_neg (by omega), mform V M hi, zb_some, zw_id (show -2147483648 ≤ (t (32 + 4 * i) : Int) ∧ (t (32 + 4 * i) : Int) < 2147483648 by omega), zw_id (show -2147483648 ≤ (v : Int) ∧ (v : Int) < 2147483648 by omega)]
      by_cases c : t (32 + 4 * i) = v
      · rw [if_pos (by omega), if_pos c]
      · rw [if_neg (by omega), if_neg c]; rfl
    by_cases c : t (32 + 4 * i) = v
    · right
      show fX11_isForm_c2 N g (m + 1) (v : Int) (i : Int) = _
      rw [e, if_pos c, if_pos ((fmk_t np).mpr ⟨i, hi, c⟩)]
    · left
      refine ⟨(), ?_, fun p hp => ?_⟩
      · show fX11_isForm_c2 N g (m + 1) (v : Int) (i : Int) = _
        rw [e, if_neg c]
      · by_cases h : p = i
        · rw [h]; exact c
        · exact hI p (by omega)
  · show fX11_isForm_c2b N g (fX11_isForm_c2 N g m) _ (np : Int) = _
    unfold fX11_isForm_c2b
    rw [M.1.1, if_pos (Int.le_refl _), if_neg (fun h => by
      obtain ⟨p, hp, e⟩ := (fmk_t np).mp h
      exact hI p hp e)]
theorem chR_v (m : Nat) : ∀ x p, p < m → chR m x p = x / 10 ^ (m - 1 - p) % 10 := by
  induction m with
  | zero => intro x p hp; omega
  | succ m ih =>
    intro x p hp
    unfold chR
    by_cases e : p = m
    · rw [if_pos e, e, show m + 1 - 1 - m = 0 by omega, Nat.pow_zero, Nat.div_one]
    · rw [if_neg e, ih (x / 10) p (by omega), Nat.div_div_eq_div_mul, show m + 1 - 1 - p = (m - 1 - p) + 1 by omega, Nat.pow_succ, Nat.mul_comm 10]
/-- the first i signs, and that it is a row -/
def vA (f np x : Nat) : Nat → Bool
  | 0 => decide (x < 10 ^ np)
  | i + 1 => vA f np x i && f.testBit (chR np x i)
theorem vA_t {f np x : Nat} (i : Nat) : vA f np x i = true ↔ x < 10 ^ np ∧ ∀ p, p < i → f.testBit (chR np x p) = true := by
  induction i with
  | zero =>
    show decide (x < 10 ^ np) = true ↔ _
    rw [decide_eq_true_iff]
    exact ⟨fun h => ⟨h, fun p hp => absurd hp (by omega)⟩, fun h => h.1⟩
  | succ i ih =>
    show (vA f np x i && f.testBit (chR np x i)) = true ↔ _
    rw [Bool.and_eq_true, ih]
    constructor
    · rintro ⟨⟨h1, h2⟩, h3⟩
      refine ⟨h1, fun p hp => ?_⟩
      by_cases e : p = i
      · rw [e]; exact h3
      · exact h2 p (by omega)
    · rintro ⟨h1, h2⟩
      exact ⟨⟨h1, fun p hp => h2 p (by omega)⟩, h2 i (by omega)⟩
theorem vR_t {f : Nat} (m : Nat) : ∀ x, vR f m x = true ↔ x < 10 ^ m ∧ ∀ p, p < m → f.testBit (chR m x p) = true := by
  induction m with
  | zero =>
    intro x
    show decide (x = 0) = true ↔ _
    rw [decide_eq_true_iff, Nat.pow_zero]
    exact ⟨fun h => ⟨by omega, fun p hp => absurd hp (by omega)⟩, fun h => by omega⟩
  | succ m ih =>
    intro x
    show (f.testBit (x % 10) && vR f m (x / 10)) = true ↔ _
    have p10 : x / 10 < 10 ^ m ↔ x < 10 ^ (m + 1) := by rw [Nat.pow_succ]; exact Nat.div_lt_iff_lt_mul (by decide)
    rw [Bool.and_eq_true, ih, p10]
    constructor
    · rintro ⟨h1, h2, h3⟩
      refine ⟨h2, fun p hp => ?_⟩
      unfold chR
      by_cases e : p = m
      · rw [if_pos e]; exact h1
      · rw [if_neg e]; exact h3 p (by omega)
    · rintro ⟨h1, h2⟩
      refine ⟨?_, h1, fun p hp => ?_⟩
      · have := h2 m (by omega)
        unfold chR at this
        rw [if_pos rfl] at this
        exact this
      · have := h2 p (by omega)
        unfold chR at this
        rw [if_neg (by omega)] at this
        exact this
theorem vA_R {f np x : Nat} : vA f np x np = vR f np x := by
  rw [Bool.eq_iff_iff, vA_t, vR_t]
