/-! kit of the mathematics: rows, loops, numbers; the hill as plain numbers -/
def zup (r : Nat → Int) (j : Nat) (v : Int) : Nat → Int := fun b => if b = j then v else r b
theorem zup_at {r : Nat → Int} {j : Nat} {v : Int} : zup r j v j = v := if_pos rfl
theorem zup_is {r : Nat → Int} {j b : Nat} {v : Int} (h : b = j) : zup r j v b = v := if_pos h
theorem zup_ne {r : Nat → Int} {j b : Nat} {v : Int} (h : b ≠ j) : zup r j v b = r b := if_neg h
theorem zs_zup {h : zH} {o j : Nat} {v : Int} : zs h o j v o = zup (h o) j v := zs_row
theorem zb_some {α β : Type} {a : α} {f : α → Option β} : zb (some a) f = f a := rfl
theorem z2_some {β : Type} {v : Int} {g : zH} {f : Int → zH → Option β} : z2 (some (v, g)) f = f v g := rfl
theorem zlet_v {α β : Type} {v : α} {f : α → β} : zlet v f = f v := rfl
theorem zlet2_v {β : Type} {v : Int} {g : zH} {f : Int → zH → β} : zlet2 (v, g) f = f v g := rfl
theorem zif0 {α : Type} {x y : α} : (if zw 0 = 0 then x else y) = x := if_pos (by decide)
theorem zif1 {α : Type} {x y : α} : (if zw 1 = 0 then x else y) = y := if_neg (by decide)
/-- a loop by its steps: each goes on or ends well -/
theorem zloopq {σ β : Type} {F : Nat → Int → σ → β} {n : Nat} (I : Nat → σ → Prop) (Q : β → Prop)
    (hs : ∀ k i s, i < n → I i s → (∃ s', F (k + 1) (i : Int) s = F k ((i + 1 : Nat) : Int) s' ∧ I (i + 1) s') ∨ Q (F (k + 1) (i : Int) s))
    (hl : ∀ k s, I n s → Q (F (k + 1) (n : Int) s)) {N : Nat} (hN : n < N) {s : σ} (h0 : I 0 s) : Q (F N 0 s) := by
  have go : ∀ j i M s, i + j = n → I i s → Q (F (M + j + 1) (i : Int) s) := by
    intro j
    induction j with
    | zero =>
      intro i M s hi hI
      have : i = n := by omega
      subst this
      exact hl M s hI
    | succ j ih =>
      intro i M s hi hI
      rcases hs (M + j + 1) i s (by omega) hI with ⟨s', e, hI'⟩ | hq
      · have := ih (i + 1) M s' (by omega) hI'
        rw [← e] at this
        exact this
      · exact hq
  have h1 := go n 0 (N - n - 1) s (by omega) h0
  rw [show N - n - 1 + n + 1 = N by omega] at h1
  exact h1
/-- what is valid of a hill: np PARISHES, nd DESKS, nr PAPERS, its cells t (the class's places) -/
def HV (np nd nr : Nat) (t : Nat → Nat) : Prop := (np ≤ 6 ∧ nd ≤ 4 ∧ nr ≤ 8) ∧ (0 < np → 0 < nd ∧ 0 < nr) ∧ (t 0 ≤ 23 ∧ t 1 ≤ 24) ∧ (∀ p, p < np → t (32 + 4 * p) < nr ∧ (1 ≤ t (33 + 4 * p) ∧ t (33 + 4 * p) ≤ 24) ∧ t (34 + 4 * p) ≤ 9) ∧ (∀ d, d < nd → t (64 + 4 * d) < t (65 + 4 * d) ∧ t (65 + 4 * d) ≤ 24 ∧ (1 ≤ t (66 + 4 * d) ∧ t (66 + 4 * d) ≤ 9) ∧ t (67 + 4 * d) ≤ 9) ∧ ∀ r, r < nr → t (96 + 4 * r) < nd ∧ (t (97 + 4 * r) = 8 ∨ t (97 + 4 * r) < nr) ∧ (t (98 + 4 * r) = 8 ∨ t (98 + 4 * r) < nr)
/-- what a paper wants, as bits -/
def wm (t : Nat → Nat) (r : Nat) : Nat := (if t (97 + 4 * r) = 8 then 0 else 2 ^ t (97 + 4 * r)) ||| (if t (98 + 4 * r) = 8 then 0 else 2 ^ t (98 + 4 * r))
def HX (np nd nr : Nat) (t : Nat → Nat) (h : zH) : Prop := (h 17 1 = np ∧ h 17 2 = nd ∧ h 17 3 = nr) ∧ (0 < np → h 16 0 = t 0 ∧ h 16 1 = t 1) ∧ (∀ i c : Nat, i < np → c < 3 → h 16 (32 + 4 * i + c) = t (32 + 4 * i + c)) ∧ (∀ i c : Nat, i < nd → c < 4 → h 16 (64 + 4 * i + c) = t (64 + 4 * i + c)) ∧ (∀ i c : Nat, i < nr → c < 3 → h 16 (96 + 4 * i + c) = t (96 + 4 * i + c)) ∧ ∀ r : Nat, r < nr → h 18 r = wm t r
def HM (np nd nr : Nat) (t : Nat → Nat) (g : zH) : Prop := (g 14 28 = np ∧ g 14 29 = nd ∧ g 14 30 = nr) ∧ (0 < np → g 63 0 = t 0 ∧ g 63 1 = t 1) ∧ (∀ i c : Nat, i < np → c < 3 → g 64 (3 * i + c) = t (32 + 4 * i + c)) ∧ (∀ i c : Nat, i < nd → c < 4 → g 65 (4 * i + c) = t (64 + 4 * i + c)) ∧ (∀ i c : Nat, i < nr → c < 3 → g 66 (3 * i + c) = t (96 + 4 * i + c))
theorem HX_to {np nd nr : Nat} {t : Nat → Nat} {h g : zH} (H : HX np nd nr t h) (e1 : g 16 = h 16) (e2 : g 17 = h 17) (e3 : g 18 = h 18) : HX np nd nr t g := by
  unfold HX at *
  rw [e1, e2, e3]; exact H
theorem HM_to {np nd nr : Nat} {t : Nat → Nat} {h g : zH} (H : HM np nd nr t h) (e0 : g 14 28 = h 14 28 ∧ g 14 29 = h 14 29 ∧ g 14 30 = h 14 30) (e1 : g 63 = h 63) (e2 : g 64 = h 64) (e3 : g 65 = h 65) (e4 : g 66 = h 66) : HM np nd nr t g := by
  unfold HM at *
  rw [e1, e2, e3, e4, e0.1, e0.2.1, e0.2.2]; exact H
theorem HRHc {np nd nr : Nat} {t : Nat → Nat} {h : zH} (V : HV np nd nr t) (X : HX np nd nr t h) (M : HM np nd nr t h) : RHc h := by
  obtain ⟨⟨a1, a2, a3⟩, -⟩ := X
  obtain ⟨⟨b1, b2, b3⟩, -⟩ := M
  obtain ⟨⟨c1, c2, c3⟩, -⟩ := V
  unfold RHc
  omega
theorem HRHi {np nd nr : Nat} {t : Nat → Nat} {h : zH} (X : HX np nd nr t h) (M : HM np nd nr t h) : RHi h := by
  obtain ⟨⟨a1, a2, a3⟩, x1, x2, x3, x4, -⟩ := X
  obtain ⟨-, m1, m2, m3, m4⟩ := M
  refine ⟨fun k hk h0 => ?_, fun i k hi hk => ?_, fun i k hi hk => ?_, fun i k hi hk => ?_⟩
  · have e : k = 0 ∨ k = 1 := by omega
    rcases e with rfl | rfl
    · rw [(x1 (by omega)).1, (m1 (by omega)).1]
    · rw [(x1 (by omega)).2, (m1 (by omega)).2]
  · rw [x2 i k (by omega) hk, m2 i k (by omega) hk]
  · rw [x3 i k (by omega) hk, m3 i k (by omega) hk]
  · rw [x4 i k (by omega) hk, m4 i k (by omega) hk]
theorem wm_lt {np nd nr : Nat} {t : Nat → Nat} (V : HV np nd nr t) {r : Nat} (hr : r < nr) : wm t r < 256 := by
  obtain ⟨⟨v1, v2, v3⟩, -, -, -, -, v⟩ := V
  obtain ⟨-, a, b⟩ := v r hr
  have p : ∀ x : Nat, (x = 8 ∨ x < nr) → (if x = 8 then 0 else 2 ^ x) < 2 ^ 8 := by
    intro x hx
    split
    · decide
    · exact Nat.pow_lt_pow_right (by decide) (by omega)
  exact Nat.or_lt_two_pow (p _ a) (p _ b)
theorem xh1 {np nd nr : Nat} {t : Nat → Nat} {h : zH} (V : HV np nd nr t) (X : HX np nd nr t h) {a : Int} (ha : zw a = a) : fX1_has 2 1 a h = if 0 ≤ a ∧ a < np then 1 else 0 := by
  have e1 := X.1.1
  have v := V.1
  unfold fX1_has
  rw [show fX1_many 2 1 h = h 17 1 from many_eq 1 (by decide), ha, e1, zw_id (show _ from by omega)]
  by_cases h0 : a < 0
  · rw [if_pos h0, if_neg (by omega)]
  · rw [if_neg h0]
    by_cases h1 : (np : Int) ≤ a
    · rw [if_pos h1, if_neg (by omega)]
    · rw [if_neg h1, if_pos (by omega)]
theorem xh3 {np nd nr : Nat} {t : Nat → Nat} {h : zH} (V : HV np nd nr t) (X : HX np nd nr t h) {a : Int} (ha : zw a = a) : fX1_has 2 3 a h = if 0 ≤ a ∧ a < nr then 1 else 0 := by
  have e1 := X.1.2.2
  have v := V.1
  unfold fX1_has
  rw [show fX1_many 2 3 h = h 17 3 from many_eq 3 (by decide), ha, e1, zw_id (show _ from by omega)]
  by_cases h0 : a < 0
  · rw [if_pos h0, if_neg (by omega)]
  · rw [if_neg h0]
    by_cases h1 : (nr : Int) ≤ a
    · rw [if_pos h1, if_neg (by omega)]
    · rw [if_neg h1, if_pos (by omega)]
theorem xm1 {np nd nr : Nat} {t : Nat → Nat} {h : zH} (X : HX np nd nr t h) : fX1_many 2 1 h = np := (many_eq 1 (by decide)).trans X.1.1
theorem xm2 {np nd nr : Nat} {t : Nat → Nat} {h : zH} (X : HX np nd nr t h) : fX1_many 2 2 h = nd := (many_eq 2 (by decide)).trans X.1.2.1
theorem xm3 {np nd nr : Nat} {t : Nat → Nat} {h : zH} (X : HX np nd nr t h) : fX1_many 2 3 h = nr := (many_eq 3 (by decide)).trans X.1.2.2
theorem xis0 {np nd nr : Nat} {t : Nat → Nat} {h : zH} (X : HX np nd nr t h) (h0 : 0 < np) : fX1_item 2 0 0 0 h = t 0 := (item_eq 0 0 0 (by decide) (by decide) (by decide)).trans (X.2.1 h0).1
theorem xis1 {np nd nr : Nat} {t : Nat → Nat} {h : zH} (X : HX np nd nr t h) (h0 : 0 < np) : fX1_item 2 0 0 1 h = t 1 := (item_eq 0 0 1 (by decide) (by decide) (by decide)).trans (X.2.1 h0).2
theorem xi10 {np nd nr : Nat} {t : Nat → Nat} {h : zH} (V : HV np nd nr t) (X : HX np nd nr t h) {i : Nat} (hi : i < np) : fX1_item 2 1 (i : Int) 0 h = t (32 + 4 * i) := by
  have e := (item_eq 1 i 0 (by decide) (by have := V.1.1; omega) (by decide)).trans ((congrArg (h 16) (show 32 * 1 + 4 * i + 0 = 32 + 4 * i + 0 by omega)).trans (X.2.2.1 i 0 hi (by decide)))
  rw [show 32 + 4 * i + 0 = 32 + 4 * i by omega] at e
  exact e
theorem xi11 {np nd nr : Nat} {t : Nat → Nat} {h : zH} (V : HV np nd nr t) (X : HX np nd nr t h) {i : Nat} (hi : i < np) : fX1_item 2 1 (i : Int) 1 h = t (33 + 4 * i) := by
  have e := (item_eq 1 i 1 (by decide) (by have := V.1.1; omega) (by decide)).trans ((congrArg (h 16) (show 32 * 1 + 4 * i + 1 = 32 + 4 * i + 1 by omega)).trans (X.2.2.1 i 1 hi (by decide)))
  rw [show 32 + 4 * i + 1 = 33 + 4 * i by omega] at e
  exact e
theorem xi12 {np nd nr : Nat} {t : Nat → Nat} {h : zH} (V : HV np nd nr t) (X : HX np nd nr t h) {i : Nat} (hi : i < np) : fX1_item 2 1 (i : Int) 2 h = t (34 + 4 * i) := by
  have e := (item_eq 1 i 2 (by decide) (by have := V.1.1; omega) (by decide)).trans ((congrArg (h 16) (show 32 * 1 + 4 * i + 2 = 32 + 4 * i + 2 by omega)).trans (X.2.2.1 i 2 hi (by decide)))
  rw [show 32 + 4 * i + 2 = 34 + 4 * i by omega] at e
  exact e
theorem xi20 {np nd nr : Nat} {t : Nat → Nat} {h : zH} (V : HV np nd nr t) (X : HX np nd nr t h) {i : Nat} (hi : i < nd) : fX1_item 2 2 (i : Int) 0 h = t (64 + 4 * i) := by
  have e := (item_eq 2 i 0 (by decide) (by have := V.1.2.1; omega) (by decide)).trans ((congrArg (h 16) (show 32 * 2 + 4 * i + 0 = 64 + 4 * i + 0 by omega)).trans (X.2.2.2.1 i 0 hi (by decide)))
  rw [show 64 + 4 * i + 0 = 64 + 4 * i by omega] at e
  exact e
theorem xi21 {np nd nr : Nat} {t : Nat → Nat} {h : zH} (V : HV np nd nr t) (X : HX np nd nr t h) {i : Nat} (hi : i < nd) : fX1_item 2 2 (i : Int) 1 h = t (65 + 4 * i) := by
  have e := (item_eq 2 i 1 (by decide) (by have := V.1.2.1; omega) (by decide)).trans ((congrArg (h 16) (show 32 * 2 + 4 * i + 1 = 64 + 4 * i + 1 by omega)).trans (X.2.2.2.1 i 1 hi (by decide)))
  rw [show 64 + 4 * i + 1 = 65 + 4 * i by omega] at e
  exact e
theorem xi22 {np nd nr : Nat} {t : Nat → Nat} {h : zH} (V : HV np nd nr t) (X : HX np nd nr t h) {i : Nat} (hi : i < nd) : fX1_item 2 2 (i : Int) 2 h = t (66 + 4 * i) := by
  have e := (item_eq 2 i 2 (by decide) (by have := V.1.2.1; omega) (by decide)).trans ((congrArg (h 16) (show 32 * 2 + 4 * i + 2 = 64 + 4 * i + 2 by omega)).trans (X.2.2.2.1 i 2 hi (by decide)))
  rw [show 64 + 4 * i + 2 = 66 + 4 * i by omega] at e
  exact e
theorem xi23 {np nd nr : Nat} {t : Nat → Nat} {h : zH} (V : HV np nd nr t) (X : HX np nd nr t h) {i : Nat} (hi : i < nd) : fX1_item 2 2 (i : Int) 3 h = t (67 + 4 * i) := by
  have e := (item_eq 2 i 3 (by decide) (by have := V.1.2.1; omega) (by decide)).trans ((congrArg (h 16) (show 32 * 2 + 4 * i + 3 = 64 + 4 * i + 3 by omega)).trans (X.2.2.2.1 i 3 hi (by decide)))
  rw [show 64 + 4 * i + 3 = 67 + 4 * i by omega] at e
  exact e
theorem xi30 {np nd nr : Nat} {t : Nat → Nat} {h : zH} (V : HV np nd nr t) (X : HX np nd nr t h) {i : Nat} (hi : i < nr) : fX1_item 2 3 (i : Int) 0 h = t (96 + 4 * i) := by
  have e := (item_eq 3 i 0 (by decide) (by have := V.1.2.2; omega) (by decide)).trans ((congrArg (h 16) (show 32 * 3 + 4 * i + 0 = 96 + 4 * i + 0 by omega)).trans (X.2.2.2.2.1 i 0 hi (by decide)))
  rw [show 96 + 4 * i + 0 = 96 + 4 * i by omega] at e
  exact e
theorem xi31 {np nd nr : Nat} {t : Nat → Nat} {h : zH} (V : HV np nd nr t) (X : HX np nd nr t h) {i : Nat} (hi : i < nr) : fX1_item 2 3 (i : Int) 1 h = t (97 + 4 * i) := by
  have e := (item_eq 3 i 1 (by decide) (by have := V.1.2.2; omega) (by decide)).trans ((congrArg (h 16) (show 32 * 3 + 4 * i + 1 = 96 + 4 * i + 1 by omega)).trans (X.2.2.2.2.1 i 1 hi (by decide)))
  rw [show 96 + 4 * i + 1 = 97 + 4 * i by omega] at e
  exact e
theorem xi32 {np nd nr : Nat} {t : Nat → Nat} {h : zH} (V : HV np nd nr t) (X : HX np nd nr t h) {i : Nat} (hi : i < nr) : fX1_item 2 3 (i : Int) 2 h = t (98 + 4 * i) := by
  have e := (item_eq 3 i 2 (by decide) (by have := V.1.2.2; omega) (by decide)).trans ((congrArg (h 16) (show 32 * 3 + 4 * i + 2 = 96 + 4 * i + 2 by omega)).trans (X.2.2.2.2.1 i 2 hi (by decide)))
  rw [show 96 + 4 * i + 2 = 98 + 4 * i by omega] at e
  exact e
theorem xw {np nd nr : Nat} {t : Nat → Nat} {h : zH} (V : HV np nd nr t) (X : HX np nd nr t h) {r : Nat} (hr : r < nr) : fX1_wants 2 (r : Int) h = wm t r := by
  show fX10_at 18 (r : Int) h = _
  rw [at_in (by omega) (by show (r : Int) < 8; have := V.1; omega)]
  exact X.2.2.2.2.2 r hr
theorem mform {np nd nr : Nat} {t : Nat → Nat} {g : zH} (V : HV np nd nr t) (M : HM np nd nr t g) {p : Nat} (hp : p < np) : fX11_form (p : Int) g = some (t (32 + 4 * p) : Int) := by
  have v := V.1
  unfold fX11_form
  rw [show (3 * (p : Int)) + 0 = ((3 * p + 0 : Nat) : Int) by omega, zw_id (show _ from by omega), if_pos (by omega), Int.toNat_natCast, M.2.2.1 p 0 hp (by decide)]
  rfl
theorem mdesk {np nd nr : Nat} {t : Nat → Nat} {g : zH} (V : HV np nd nr t) (M : HM np nd nr t g) {r : Nat} (hr : r < nr) : fX11_deskOf (r : Int) g = some (t (96 + 4 * r) : Int) := by
  have v := V.1
  unfold fX11_deskOf
  rw [show (3 * (r : Int)) + 0 = ((3 * r + 0 : Nat) : Int) by omega, zw_id (show _ from by omega), if_pos (by omega), Int.toNat_natCast, M.2.2.2.2 r 0 hr (by decide)]
  rfl
theorem mpar {np nd nr : Nat} {t : Nat → Nat} {g : zH} (V : HV np nd nr t) (M : HM np nd nr t g) {a : Int} (ha : zw a = a) : fX11_isParish a g = if 0 ≤ a ∧ a < np then 1 else 0 := by
  have v := V.1
  unfold fX11_isParish
  rw [M.1.1, in_eq ha zw_0 (zw_id (by omega))]
  by_cases h : 0 ≤ a ∧ a < np
  · rw [if_pos h, if_pos (by omega)]
  · rw [if_neg h, if_neg (by omega)]
theorem mpap {np nd nr : Nat} {t : Nat → Nat} {g : zH} (V : HV np nd nr t) (M : HM np nd nr t g) {a : Int} (ha : zw a = a) : fX11_isPaper a g = if 0 ≤ a ∧ a < nr then 1 else 0 := by
  have v := V.1
  unfold fX11_isPaper
  rw [M.1.2.2, in_eq ha zw_0 (zw_id (by omega))]
  by_cases h : 0 ≤ a ∧ a < nr
  · rw [if_pos h, if_pos (by omega)]
  · rw [if_neg h, if_neg (by omega)]
theorem wpiece {x : Nat} (hx : x = 8 ∨ x < 8) : (if x = 8 then 0 else 2 ^ x) < 2 ^ 8 := by
  split
  · decide
  · exact Nat.pow_lt_pow_right (by decide) (by omega)
theorem mw {np nd nr : Nat} {t : Nat → Nat} {g : zH} (V : HV np nd nr t) (M : HM np nd nr t g) {N : Nat} (hN : 4 ≤ N) {r : Nat} (hr : r < nr) : fX11_wants N (r : Int) g = some (wm t r : Int) := by
  have v := V.1
  obtain ⟨-, a, b⟩ := V.2.2.2.2.2 r hr
  obtain ⟨K, rfl⟩ : ∃ K, N = K + 3 := ⟨N - 3, by omega⟩
  have e1 : g 66 (3 * r + 1) = t (97 + 4 * r) := (M.2.2.2.2 r 1 hr (by decide)).trans (by rw [show 96 + 4 * r + 1 = 97 + 4 * r by omega])
  have e2 : g 66 (3 * r + 2) = t (98 + 4 * r) := (M.2.2.2.2 r 2 hr (by decide)).trans (by rw [show 96 + 4 * r + 2 = 98 + 4 * r by omega])
  have st : ∀ (k c : Nat) (s x : Nat), (c = 1 ∨ c = 2) → s < 256 → g 66 (3 * r + c) = (x : Int) → (x = 8 ∨ x < nr) → fX11_wants_c4 (K + 3) g (k + 1) (r : Int) (s : Int) (c : Int) = fX11_wants_c4 (K + 3) g k (r : Int) ((s ||| (if x = 8 then 0 else 2 ^ x) : Nat) : Int) ((c + 1 : Nat) : Int) := by
    intro k c s x hc hs hg hx
    show fX11_wants_c4b (K + 3) g (fX11_wants_c4 (K + 3) g k) _ _ _ = _
    unfold fX11_wants_c4b
    rw [show (3 * (r : Int)) + (c : Int) = ((3 * r + c : Nat) : Int) by omega, zw_id (show -2147483648 ≤ ((3 * r + c : Nat) : Int) ∧ ((3 * r + c : Nat) : Int) < 2147483648 by omega), zw_id (show -2147483648 ≤ (c : Int) ∧ (c : Int) < 2147483648 by omega), zw_2, zw_8, if_neg (by omega), if_pos (by omega), Int.toNat_natCast, hg, zw_id (show -2147483648 ≤ (x : Int) ∧ (x : Int) < 2147483648 by omega)]
    by_cases hx8 : x = 8
    · rw [if_pos (by omega), if_pos hx8]
      have := zor_nat (a := s) (b := 0) (by omega) (by omega)
      rw [show ((0 : Nat) : Int) = 0 from rfl] at this
      rw [this]; rfl
    · rw [if_neg (by omega), if_neg hx8, if_pos (by omega)]
      unfold zlet
      dsimp only
      have hp : 2 ^ x < 2 ^ 8 := Nat.pow_lt_pow_right (by decide) (by omega)
      rw [zshl_1 x (by omega), zor_nat (by omega) (by omega)]
      rfl
  show fX11_wants_c4 (K + 3) g (K + 3) (r : Int) 0 1 = _
  have h1 := st (K + 2) 1 0 (t (97 + 4 * r)) (Or.inl rfl) (by decide) e1 a
  have l1 : (0 ||| (if t (97 + 4 * r) = 8 then 0 else 2 ^ t (97 + 4 * r))) < 2 ^ 8 := Nat.or_lt_two_pow (by decide) (wpiece (by omega))
  have h2 := st (K + 1) 2 _ (t (98 + 4 * r)) (Or.inr rfl) (by omega) e2 b
  refine h1.trans (h2.trans ?_)
  show fX11_wants_c4b (K + 3) g (fX11_wants_c4 (K + 3) g K) _ _ _ = _
  unfold fX11_wants_c4b
  rw [if_pos (by decide), Nat.zero_or]
  rfl
