/-! the hours of light of a parish -/
def cntE (ch : Nat → Int) (v : Int) (n : Nat) : Nat := (List.range n).countP (fun o => decide (ch o = v))
def cntL (ch : Nat → Int) (v : Int) (p n : Nat) : Nat := (List.range n).countP (fun o => decide (ch o = v ∧ o < p))
theorem cntE_s {ch : Nat → Int} {v : Int} {n : Nat} : cntE ch v (n + 1) = cntE ch v n + if ch n = v then 1 else 0 := by
  unfold cntE
  rw [List.range_succ, List.countP_append, List.countP_cons, List.countP_nil]
  by_cases h : ch n = v
  · rw [if_pos h, if_pos (decide_eq_true h)]
  · rw [if_neg h, if_neg (fun x => h (of_decide_eq_true x))]
theorem cntL_s {ch : Nat → Int} {v : Int} {p n : Nat} : cntL ch v p (n + 1) = cntL ch v p n + if ch n = v ∧ n < p then 1 else 0 := by
  unfold cntL
  rw [List.range_succ, List.countP_append, List.countP_cons, List.countP_nil]
  by_cases h : ch n = v ∧ n < p
  · rw [if_pos h, if_pos (decide_eq_true h)]
  · rw [if_neg h, if_neg (fun x => h (of_decide_eq_true x))]
theorem cntE_le {ch : Nat → Int} {v : Int} {n : Nat} : cntE ch v n ≤ n := by
  have := List.countP_le_length (p := fun o => decide (ch o = v)) (l := List.range n)
  rw [List.length_range] at this
  exact this
theorem cntL_le {ch : Nat → Int} {v : Int} {p n : Nat} : cntL ch v p n ≤ n := by
  have := List.countP_le_length (p := fun o => decide (ch o = v ∧ o < p)) (l := List.range n)
  rw [List.length_range] at this
  exact this
theorem cntE_pos {ch : Nat → Int} {n p : Nat} (hp : p < n) : 0 < cntE ch (ch p) n := List.countP_pos_iff.mpr ⟨p, List.mem_range.mpr hp, decide_eq_true rfl⟩
theorem cntE_congr {ch ch' : Nat → Int} {v v' : Int} {n : Nat} (h : ∀ o, o < n → (ch o = v ↔ ch' o = v')) : cntE ch v n = cntE ch' v' n := List.countP_congr (fun o ho => by rw [decide_eq_true_iff, decide_eq_true_iff]; exact h o (List.mem_range.mp ho))
theorem cntL_congr {ch ch' : Nat → Int} {v v' : Int} {p n : Nat} (h : ∀ o, o < n → (ch o = v ↔ ch' o = v')) : cntL ch v p n = cntL ch' v' p n := List.countP_congr (fun o ho => by rw [decide_eq_true_iff, decide_eq_true_iff, h o (List.mem_range.mp ho)])
def shr (t : Nat → Nat) (p s l : Nat) : Nat := min (t 1 / s + if l < t 1 % s then 1 else 0) (t (33 + 4 * p))
def por (np : Nat) (t : Nat → Nat) (ch : Nat → Int) (p : Nat) : Nat := if ch p = -1 then 0 else shr t p (cntE ch (ch p) np) (cntL ch (ch p) p np)
theorem por_no {np : Nat} {t : Nat → Nat} {ch : Nat → Int} {p : Nat} (h : ch p = -1) : por np t ch p = 0 := if_pos h
theorem por_is {np : Nat} {t : Nat → Nat} {ch : Nat → Int} {p : Nat} {v : Int} (h : ch p = v) (hv : v ≠ -1) : por np t ch p = shr t p (cntE ch v np) (cntL ch v p np) := by
  subst h
  exact if_neg hv
theorem por_le {np nd nr : Nat} {t : Nat → Nat} (V : HV np nd nr t) {ch : Nat → Int} {p : Nat} (hp : p < np) : por np t ch p ≤ 24 := by
  have := (V.2.2.2.1 p hp).2.1
  unfold por shr
  split <;> omega
theorem shr_i {np nd nr : Nat} {t : Nat → Nat} (V : HV np nd nr t) {p s l : Nat} (hp : p < np) (hs : 0 < s ∧ s ≤ 6) (hl : l ≤ 6) : (zrem (t 1 : Int) (s : Int) = ((t 1 % s : Nat) : Int)) ∧ (zdiv (t 1 : Int) (s : Int) = ((t 1 / s : Nat) : Int)) ∧ t 1 / s ≤ 24 ∧ t 1 % s < 6 ∧ (0 : Int) ≤ ((t 1 / s : Nat) : Int) ∧ (0 : Int) ≤ ((t 1 % s : Nat) : Int) := by
  have v := V.2.2.1
  refine ⟨?_, ?_, ?_, ?_, Int.natCast_nonneg _, Int.natCast_nonneg _⟩
  · rw [zrem_pos (by omega) (by omega) (by omega) (by omega)]; rfl
  · rw [zdiv_pos (by omega) (by omega) (by omega) (by omega)]; rfl
  · exact Nat.le_trans (Nat.div_le_self _ _) v.2
  · have := Nat.mod_lt (t 1) hs.1
    omega
theorem porX {np nd nr : Nat} {t : Nat → Nat} {h : zH} (V : HV np nd nr t) (X : HX np nd nr t h) {o1 : Nat} (hz : zln o1 = 6) {ch : Nat → Int} (hc : ∀ o, o < np → h o1 o = ch o ∧ -1 ≤ ch o ∧ ch o < 1000) {N : Nat} (hN : 8 ≤ N) {p : Nat} (hp : p < np) : fX1_portion N 2 o1 (p : Int) h = some (por np t ch p : Int) := by
  have v := V.1
  have hat : ∀ o, o < np → fX10_at o1 (o : Int) h = ch o := fun o ho => by rw [at_in (by omega) (by rw [hz]; omega), Int.toNat_natCast, (hc o ho).1]
  have hw : ∀ o, o < np → zw (ch o) = ch o := fun o ho => zw_id (by have := hc o ho; omega)
  unfold fX1_portion
  rw [hat p hp, zlet_v]
  refine zloopq (F := fun k i (s : Int × Int) => fX1_portion_c15 N 2 o1 h k (p : Int) (ch p) s.1 s.2 i) (n := np) (s := (0, 0)) (fun i s => s.1 = (cntE ch (ch p) i : Nat) ∧ s.2 = (cntL ch (ch p) p i : Nat)) (fun b => b = some (por np t ch p : Int)) (fun k i s hi hI => ?_) (fun k s hI => ?_) (by omega) ⟨rfl, rfl⟩
  · obtain ⟨s, l⟩ := s
    obtain ⟨i1, i2⟩ := hI
    dsimp only at i1 i2 ⊢
    have e : fX1_portion_c15 N 2 o1 h (k + 1) (p : Int) (ch p) s l (i : Int) = if ch i = ch p then (if i < p then fX1_portion_c15 N 2 o1 h k (p : Int) (ch p) (s + 1) (l + 1) ((i + 1 : Nat) : Int) else fX1_portion_c15 N 2 o1 h k (p : Int) (ch p) (s + 1) (l + 0) ((i + 1 : Nat) : Int)) else fX1_portion_c15 N 2 o1 h k (p : Int) (ch p) s l ((i + 1 : Nat) : Int) := by
      show fX1_portion_c15b N 2 o1 h (fX1_portion_c15 N 2 o1 h k) _ _ _ _ _ = _
      unfold fX1_portion_c15b
      rw [xm1 X, zw_id (show -2147483648 ≤ (np : Int) ∧ (np : Int) < 2147483648 by omega), zw_id (show -2147483648 ≤ (i : Int) ∧ (i : Int) < 2147483648 by omega), zw_id (show -2147483648 ≤ (p : Int) ∧ (p : Int) < 2147483648 by omega), if_neg (by omega), hat i hi, hw i hi, hw p hp]
      by_cases h1 : ch i = ch p
      · rw [if_pos h1, if_pos h1]
        by_cases h2 : i < p
        · rw [if_pos h2, if_neg (by omega)]; rfl
        · rw [if_neg h2, if_pos (by omega)]; rfl
      · rw [if_neg h1, if_neg h1]; rfl
    left
    rw [cntE_s, cntL_s]
    by_cases h1 : ch i = ch p
    · rw [if_pos h1] at e
      rw [if_pos h1]
      by_cases h2 : i < p
      · rw [if_pos h2] at e
        rw [if_pos ⟨h1, h2⟩]
        exact ⟨(s + 1, l + 1), e, by dsimp only; omega⟩
      · rw [if_neg h2] at e
        rw [if_neg (fun x => h2 x.2)]
        exact ⟨(s + 1, l + 0), e, by dsimp only; omega⟩
    · rw [if_neg h1] at e
      rw [if_neg h1, if_neg (fun x => h1 x.1)]
      exact ⟨(s, l), e, by dsimp only; omega⟩
  · obtain ⟨s, l⟩ := s
    obtain ⟨i1, i2⟩ := hI
    dsimp only at i1 i2 ⊢
    show fX1_portion_c15b N 2 o1 h (fX1_portion_c15 N 2 o1 h k) _ _ _ _ _ = _
    unfold fX1_portion_c15b
    have c1 := cntE_le (ch := ch) (v := ch p) (n := np)
    have c2 := cntL_le (ch := ch) (v := ch p) (p := p) (n := np)
    have c3 := cntE_pos (ch := ch) hp
    have hn := (V.2.2.2.1 p hp).2.1
    obtain ⟨r1, r2, r3, r4, r5, r6⟩ := shr_i V hp (s := cntE ch (ch p) np) (l := cntL ch (ch p) p np) ⟨c3, by omega⟩ (by omega)
    rw [xm1 X, if_pos (by omega), hw p hp, zw_m1, i1, i2, xis1 X (by omega), zlet_v, xi11 V X hp, r1, r2, zw_1]
    unfold por
    by_cases h1 : ch p = -1
    · rw [if_pos h1, if_pos h1]; rfl
    · rw [if_neg h1, if_neg h1, zw_id (show -2147483648 ≤ (cntE ch (ch p) np : Int) ∧ (cntE ch (ch p) np : Int) < 2147483648 by omega), if_pos (by omega), if_pos (by omega), if_pos (by omega), zw_id (show -2147483648 ≤ ((t 1 % cntE ch (ch p) np : Nat) : Int) ∧ ((t 1 % cntE ch (ch p) np : Nat) : Int) < 2147483648 by omega), zw_id (show -2147483648 ≤ (cntL ch (ch p) p np : Int) ∧ (cntL ch (ch p) p np : Int) < 2147483648 by omega)]
      unfold shr
      by_cases h2 : cntL ch (ch p) p np < t 1 % cntE ch (ch p) np
      · rw [if_neg (by omega), if_pos h2, min_eq (zw_id (by omega)) (zw_id (by omega)), zlet_v]
        split <;> congr 1 <;> omega
      · rw [if_pos (by omega), if_neg h2, min_eq (zw_id (by omega)) (zw_id (by omega)), zlet_v]
        split <;> congr 1 <;> omega
theorem shaM {np nd nr : Nat} {t : Nat → Nat} {g : zH} (V : HV np nd nr t) (M : HM np nd nr t g) {p s l : Nat} (hp : p < np) (hs : 0 < s ∧ s ≤ 6) (hl : l ≤ 6) : fX11_shareOf (p : Int) (s : Int) (l : Int) g = some (shr t p s l : Int) := by
  have v := V.1
  have hn := (V.2.2.2.1 p hp).2.1
  obtain ⟨r1, r2, r3, r4, r5, r6⟩ := shr_i V hp hs hl
  unfold fX11_shareOf
  have e1 : g 63 1 = t 1 := (M.2.1 (by omega)).2
  have e2 : g 64 (3 * p + 1) = t (33 + 4 * p) := (M.2.2.1 p 1 hp (by decide)).trans (by rw [show 32 + 4 * p + 1 = 33 + 4 * p by omega])
  rw [e1, r1, r2, zw_id (show -2147483648 ≤ (s : Int) ∧ (s : Int) < 2147483648 by omega), if_pos (by omega), if_pos (by omega), zw_id (show -2147483648 ≤ ((t 1 % s : Nat) : Int) ∧ ((t 1 % s : Nat) : Int) < 2147483648 by omega), zw_id (show -2147483648 ≤ (l : Int) ∧ (l : Int) < 2147483648 by omega), show (3 * (p : Int)) + 1 = ((3 * p + 1 : Nat) : Int) by omega, zw_id (show -2147483648 ≤ ((3 * p + 1 : Nat) : Int) ∧ ((3 * p + 1 : Nat) : Int) < 2147483648 by omega)]
  simp only [zlet_v]
  unfold shr
  by_cases h2 : l < t 1 % s
  · rw [if_neg (by omega), if_pos h2, if_pos (by omega), Int.toNat_natCast, e2, min_eq (zw_id (by omega)) (zw_id (by omega))]
    split <;> congr 1 <;> omega
  · rw [if_pos (by omega), if_neg h2, if_pos (by omega), Int.toNat_natCast, e2, min_eq (zw_id (by omega)) (zw_id (by omega))]
    split <;> congr 1 <;> omega
theorem houM {np nd nr : Nat} {t : Nat → Nat} {g : zH} (V : HV np nd nr t) (M : HM np nd nr t g) {N : Nat} (hN : 8 ≤ N) {s : Nat} (hs : s < 256) {p : Nat} (hp : p < np) : fX11_hoursBy N (p : Int) (s : Int) g = some (por np t (fun o => if s.testBit o then (t (32 + 4 * o) : Int) else -1) p : Int) := by
  have v := V.1
  have hf : ∀ o, o < np → t (32 + 4 * o) < 8 := fun o ho => by have := (V.2.2.2.1 o ho).1; omega
  unfold fX11_hoursBy
  rw [has_tab s hs p (by omega)]
  by_cases hb : s.testBit p = true
  · rw [por_is (v := (t (32 + 4 * p) : Int)) (by rw [hb, if_pos rfl]) (by omega), hb, show (if true = true then (1 : Int) else 0) = 1 from rfl, zif1]
    refine zloopq (F := fun k i (x : Int × Int) => fX11_hoursBy_c18 N g k (p : Int) (s : Int) x.1 x.2 i) (n := np) (s := (0, 0)) (fun i x => x.1 = (cntE (fun o => if s.testBit o then (t (32 + 4 * o) : Int) else -1) (t (32 + 4 * p) : Int) i : Nat) ∧ x.2 = (cntL (fun o => if s.testBit o then (t (32 + 4 * o) : Int) else -1) (t (32 + 4 * p) : Int) p i : Nat)) (fun b => b = some (shr t p (cntE (fun o => if s.testBit o then (t (32 + 4 * o) : Int) else -1) (t (32 + 4 * p) : Int) np) (cntL (fun o => if s.testBit o then (t (32 + 4 * o) : Int) else -1) (t (32 + 4 * p) : Int) p np) : Int)) (fun k i x hi hI => ?_) (fun k x hI => ?_) (by omega) ⟨rfl, rfl⟩
    · obtain ⟨x, l⟩ := x
      obtain ⟨i1, i2⟩ := hI
      dsimp only at i1 i2 ⊢
      have c68 : ∀ (b : Bool) (s1 : Int), fX11_hoursBy_c68 N g (fX11_hoursBy_c18 N g k) (p : Int) (s : Int) l (i : Int) (if b then 1 else 0) s1 x = if b then (if i < p then fX11_hoursBy_c18 N g k (p : Int) (s : Int) (x + s1) (l + 1) ((i + 1 : Nat) : Int) else fX11_hoursBy_c18 N g k (p : Int) (s : Int) (x + s1) (l + 0) ((i + 1 : Nat) : Int)) else fX11_hoursBy_c18 N g k (p : Int) (s : Int) (x + s1) (l + 0) ((i + 1 : Nat) : Int) := by
        intro b s1
        unfold fX11_hoursBy_c68
        rw [zw_id (show -2147483648 ≤ (i : Int) ∧ (i : Int) < 2147483648 by omega), zw_id (show -2147483648 ≤ (p : Int) ∧ (p : Int) < 2147483648 by omega)]
        cases b with
        | false => exact if_pos (by decide)
        | true =>
          refine (if_neg (by decide)).trans ?_
          by_cases h2 : i < p
          · rw [if_neg (by omega), if_pos rfl, if_pos h2]; rfl
          · rw [if_pos (by omega), if_pos rfl, if_neg h2]; rfl
      have e : fX11_hoursBy_c18 N g (k + 1) (p : Int) (s : Int) x l (i : Int) = if s.testBit i = true ∧ t (32 + 4 * i) = t (32 + 4 * p) then (if i < p then fX11_hoursBy_c18 N g k (p : Int) (s : Int) (x + 1) (l + 1) ((i + 1 : Nat) : Int) else fX11_hoursBy_c18 N g k (p : Int) (s : Int) (x + 1) (l + 0) ((i + 1 : Nat) : Int)) else fX11_hoursBy_c18 N g k (p : Int) (s : Int) (x + 0) (l + 0) ((i + 1 : Nat) : Int) := by
        show fX11_hoursBy_c18b N g (fX11_hoursBy_c18 N g k) _ _ _ _ _ = _
        unfold fX11_hoursBy_c18b
        rw [M.1.1, zw_id (show -2147483648 ≤ (np : Int) ∧ (np : Int) < 2147483648 by omega), zw_id (show -2147483648 ≤ (i : Int) ∧ (i : Int) < 2147483648 by omega), if_neg (by omega), has_tab s hs i (by omega), mform V M hi, zb_some, mform V M hp, zb_some]
        simp only [zif0, zif1]
        have f1 := hf i hi
        have f2 := hf p hp
        rw [zw_id (show -2147483648 ≤ (t (32 + 4 * i) : Int) ∧ (t (32 + 4 * i) : Int) < 2147483648 by omega), zw_id (show -2147483648 ≤ (t (32 + 4 * p) : Int) ∧ (t (32 + 4 * p) : Int) < 2147483648 by omega)]
        cases hbi : s.testBit i with
        | false =>
          rw [show (if false = true then (1 : Int) else 0) = 0 from rfl, zif0, if_neg (by intro x; exact absurd x.1 (by decide))]
          exact (c68 false 0).trans (if_neg (by decide))
        | true =>
          rw [show (if true = true then (1 : Int) else 0) = 1 from rfl, zif1]
          by_cases h2 : t (32 + 4 * i) = t (32 + 4 * p)
          · rw [if_pos (by omega), if_pos ⟨rfl, h2⟩]
            exact (c68 true 1).trans (if_pos rfl)
          · rw [if_neg (by omega), if_neg (fun x => h2 x.2)]
            exact (c68 false 0).trans (if_neg (by decide))
      left
      have ii : (if s.testBit i = true then (t (32 + 4 * i) : Int) else -1) = (t (32 + 4 * p) : Int) ↔ s.testBit i = true ∧ t (32 + 4 * i) = t (32 + 4 * p) := by
        by_cases h1 : s.testBit i = true
        · rw [if_pos h1]
          exact ⟨fun x => ⟨h1, by omega⟩, fun x => by have := x.2; omega⟩
        · rw [if_neg h1]
          exact ⟨fun x => by omega, fun x => absurd x.1 h1⟩
      rw [cntE_s, cntL_s]
      by_cases h1 : s.testBit i = true ∧ t (32 + 4 * i) = t (32 + 4 * p)
      · rw [if_pos h1] at e
        rw [if_pos (ii.mpr h1)]
        by_cases h2 : i < p
        · rw [if_pos h2] at e
          rw [if_pos ⟨ii.mpr h1, h2⟩]
          exact ⟨(x + 1, l + 1), e, by dsimp only; omega⟩
        · rw [if_neg h2] at e
          rw [if_neg (fun x => h2 x.2)]
          exact ⟨(x + 1, l + 0), e, by dsimp only; omega⟩
      · rw [if_neg h1] at e
        rw [if_neg (fun x => h1 (ii.mp x)), if_neg (fun x => h1 (ii.mp x.1))]
        exact ⟨(x + 0, l + 0), e, by dsimp only; omega⟩
    · obtain ⟨x, l⟩ := x
      obtain ⟨i1, i2⟩ := hI
      dsimp only at i1 i2 ⊢
      have c1 := cntE_le (ch := fun o => if s.testBit o then (t (32 + 4 * o) : Int) else -1) (v := (t (32 + 4 * p) : Int)) (n := np)
      have c2 := cntL_le (ch := fun o => if s.testBit o then (t (32 + 4 * o) : Int) else -1) (v := (t (32 + 4 * p) : Int)) (p := p) (n := np)
      have c3 := cntE_pos (ch := fun o => if s.testBit o then (t (32 + 4 * o) : Int) else -1) hp
      rw [hb, if_pos rfl] at c3
      show fX11_hoursBy_c18b N g (fX11_hoursBy_c18 N g k) _ _ _ _ _ = _
      unfold fX11_hoursBy_c18b
      rw [M.1.1, if_pos (by omega), i1, i2, shaM V M hp ⟨c3, by omega⟩ (by omega)]
      rfl
  · have hb' : s.testBit p = false := by cases h : s.testBit p with
      | false => rfl
      | true => exact absurd h hb
    rw [por_no (by rw [hb', if_neg (by decide)]), hb', show (if false = true then (1 : Int) else 0) = 0 from rfl, zif0]
    rfl
