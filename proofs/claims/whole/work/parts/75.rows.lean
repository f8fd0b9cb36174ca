/-! rows of papers: pure -/
def cb (s : Nat) : Nat := (List.range 8).countP (fun i => s.testBit i)
def rm (s r : Nat) : Nat := bdiff s (2 ^ r)
theorem cb_rm : ∀ s : Nat, s < 256 → ∀ r : Nat, r < 8 → s.testBit r = true → cb (rm s r) + 1 = cb s := by decide +kernel
theorem cb_0 : ∀ s : Nat, s < 256 → cb s = 0 → s = 0 := by decide +kernel
theorem cb_le (s : Nat) : cb s ≤ 8 := List.countP_le_length
theorem rm_le (s r : Nat) : rm s r ≤ s := bdiff_le _ _
theorem rm_bit {s r i : Nat} (hi : i < 32) : (rm s r).testBit i = (s.testBit i && !decide (r = i)) := by
  unfold rm
  rw [bdiff_bit _ _ _ hi, Nat.testBit_two_pow]
theorem hi_bit {s i : Nat} (hs : s < 256) (hi : 8 ≤ i) : s.testBit i = false := Nat.testBit_lt_two_pow (Nat.lt_of_lt_of_le hs (Nat.pow_le_pow_right (by decide) hi : 2 ^ 8 ≤ 2 ^ i))
theorem bit_lt {s i : Nat} (hs : s < 256) (h : s.testBit i = true) : i < 8 := by
  rcases Nat.lt_or_ge i 8 with h1 | h1
  · exact h1
  · rw [hi_bit hs h1] at h; cases h
theorem countP_lt {p q : Nat → Bool} (l : List Nat) (h1 : ∀ x, x ∈ l → p x = true → q x = true) (h2 : ∃ x, x ∈ l ∧ q x = true ∧ p x = false) : l.countP p < l.countP q := by
  induction l with
  | nil => obtain ⟨x, hx, -⟩ := h2; exact absurd hx List.not_mem_nil
  | cons a l ih =>
    have hle : l.countP p ≤ l.countP q := List.countP_mono_left (fun x hx => h1 x (List.mem_cons_of_mem _ hx))
    rw [List.countP_cons, List.countP_cons]
    obtain ⟨x, hx, hq, hp⟩ := h2
    rcases List.mem_cons.mp hx with rfl | hx
    · rw [hq, hp, if_neg (by decide), if_pos rfl]; omega
    · have := ih (fun y hy => h1 y (List.mem_cons_of_mem _ hy)) ⟨x, hx, hq, hp⟩
      by_cases ha : p a = true
      · rw [if_pos ha, if_pos (h1 a List.mem_cons_self ha)]; omega
      · rw [if_neg ha]
        split <;> omega
def sub (a b : Nat) : Prop := ∀ i, a.testBit i = true → b.testBit i = true
theorem sub_eq {a b : Nat} (h1 : sub a b) (h2 : sub b a) : a = b := by
  apply Nat.eq_of_testBit_eq
  intro i
  cases ha : a.testBit i with
  | true => exact (h1 i ha).symm
  | false =>
    cases hb : b.testBit i with
    | true => rw [h2 i hb] at ha; exact ha.symm
    | false => rfl
theorem cb_sub {a b : Nat} (hb : b < 256) (h : sub a b) (hn : a ≠ b) : cb a < cb b := by
  refine countP_lt _ (fun i _ hi => h i hi) ?_
  refine Classical.byContradiction (fun hc => hn (sub_eq h (fun i hi => ?_)))
  cases ha : a.testBit i with
  | true => rfl
  | false => exact absurd ⟨i, List.mem_range.mpr (bit_lt hb hi), hi, ha⟩ hc
theorem swp_sub {t : Nat → Nat} {hd s : Nat} {n m : Nat} (h : n ≤ m) : sub (swp t hd s n) (swp t hd s m) := by
  induction m with
  | zero =>
    have : n = 0 := by omega
    subst this
    exact fun _ h => h
  | succ m ih =>
    by_cases hc : n = m + 1
    · subst hc; exact fun _ h => h
    · intro i hi
      have := ih (by omega) i hi
      unfold swp
      split
      · rw [Nat.testBit_or, this]; rfl
      · exact this
theorem lck_fix {np nd nr : Nat} {t : Nat → Nat} (V : HV np nd nr t) {hd s : Nat} (hs : s < 256) : swp t hd (lck t nr hd s) nr = lck t nr hd s := by
  refine Classical.byContradiction (fun hc => ?_)
  have hne : ∀ k, k ≤ 8 → swpN t nr hd s (k + 1) ≠ swpN t nr hd s k := by
    intro k hk e
    have e8 := swpN_fix e (8 - k)
    have e9 := swpN_fix e (9 - k)
    rw [show k + (8 - k) = 8 by omega] at e8
    rw [show k + (9 - k) = 9 by omega] at e9
    apply hc
    show swpN t nr hd s 9 = swpN t nr hd s 8
    rw [e8, e9]
  have hcb : ∀ k, k ≤ 9 → k ≤ cb (swpN t nr hd s k) := by
    intro k
    induction k with
    | zero => exact fun _ => Nat.zero_le _
    | succ k ih =>
      intro hk
      have h1 := ih (by omega)
      have h2 := cb_sub (a := swpN t nr hd s k) (b := swpN t nr hd s (k + 1)) (swpN_lt V hs (k + 1)) (fun i hi => swp_sub (Nat.zero_le nr) i hi) (fun e => hne k (by omega) e.symm)
      omega
  have h9 := hcb 9 (Nat.le_refl _)
  have := cb_le (swpN t nr hd s 9)
  omega
theorem lck_closed {np nd nr : Nat} {t : Nat → Nat} (V : HV np nd nr t) {hd s : Nat} (hs : s < 256) {r : Nat} (hr : r < nr) (h : (lck t nr hd s).testBit r = true) : sub (bdiff (wm t r) hd) (lck t nr hd s) := by
  have hf := lck_fix V (hd := hd) hs
  have e : ∀ n, n ≤ nr → swp t hd (lck t nr hd s) n = lck t nr hd s := fun n hn => sub_eq (fun i hi => by rw [← hf]; exact swp_sub hn i hi) (fun i hi => swp_sub (Nat.zero_le n) i hi)
  have e1 := e (r + 1) (by omega)
  unfold swp at e1
  rw [e r (by omega), if_pos h] at e1
  intro i hi
  rw [← e1, Nat.testBit_or, hi, Bool.or_true]
theorem wm_bit {np nd nr : Nat} {t : Nat → Nat} (V : HV np nd nr t) {r i : Nat} (hr : r < nr) (h : (wm t r).testBit i = true) : i < nr := by
  obtain ⟨-, a, b⟩ := V.2.2.2.2.2 r hr
  have p : ∀ x : Nat, (x = 8 ∨ x < nr) → (if x = 8 then 0 else 2 ^ x).testBit i = true → i < nr := by
    intro x hx hb
    split at hb
    · rw [Nat.zero_testBit] at hb; cases hb
    · rw [Nat.testBit_two_pow] at hb
      have := of_decide_eq_true hb
      omega
  unfold wm at h
  rw [Nat.testBit_or, Bool.or_eq_true] at h
  rcases h with h | h
  · exact p _ a h
  · exact p _ b h
/-- within the papers, and not held -/
def inP (nr hd s : Nat) : Prop := ∀ i, s.testBit i = true → i < nr ∧ hd.testBit i = false
theorem swp_in {np nd nr : Nat} {t : Nat → Nat} (V : HV np nd nr t) {hd s : Nat} (hs : inP nr hd s) {n : Nat} (hn : n ≤ nr) : inP nr hd (swp t hd s n) := by
  have v := V.1
  induction n with
  | zero => exact hs
  | succ n ih =>
    have h1 := ih (by omega)
    unfold swp
    split
    · intro i hi
      rw [Nat.testBit_or, Bool.or_eq_true] at hi
      rcases hi with hi | hi
      · exact h1 i hi
      · have h2 := bdiff_le (wm t n) hd
        have h3 := wm_lt V (show n < nr by omega)
        have h8 := bit_lt (show bdiff (wm t n) hd < 256 by omega) hi
        rw [bdiff_bit _ _ _ (by omega), Bool.and_eq_true] at hi
        refine ⟨wm_bit V (by omega) hi.1, ?_⟩
        cases hb : hd.testBit i with
        | true => rw [hb] at hi; cases hi.2
        | false => rfl
    · exact h1
theorem lck_in {np nd nr : Nat} {t : Nat → Nat} (V : HV np nd nr t) {hd s : Nat} (hs : inP nr hd s) : inP nr hd (lck t nr hd s) := by
  have : ∀ k, inP nr hd (swpN t nr hd s k) := by
    intro k
    induction k with
    | zero => exact hs
    | succ k ih => exact swp_in V ih (Nat.le_refl _)
  exact this 8
def nxt (t : Nat → Nat) (left r : Nat) : Bool := left.testBit r && decide (wm t r &&& left = 0)
/-- the reference's test says the same -/
theorem nxt_held {np nd nr : Nat} {t : Nat → Nat} (V : HV np nd nr t) {hd L left held r : Nat} (hL : ∀ r, r < nr → L.testBit r = true → sub (bdiff (wm t r) hd) L) (hI : inP nr hd L) (hl : sub left L) (hl8 : left < 256) (hh : ∀ i, i < 8 → held.testBit i = (hd.testBit i || (L.testBit i && !left.testBit i))) (hr : r < nr) (hb : left.testBit r = true) : bdiff (wm t r) held = 0 ↔ wm t r &&& left = 0 := by
  have v := V.1
  have hw := wm_lt V hr
  constructor
  · intro h0
    apply Nat.eq_of_testBit_eq
    intro i
    rw [Nat.zero_testBit, Nat.testBit_and]
    cases hwi : (wm t r).testBit i with
    | false => rfl
    | true =>
      cases hli : left.testBit i with
      | false => rfl
      | true =>
        have h8 := bit_lt hw hwi
        have h1 := (hI i (hl i hli)).2
        have h2 := hh i h8
        rw [h1, hli] at h2
        have h3 : (bdiff (wm t r) held).testBit i = true := by
          rw [bdiff_bit _ _ _ (by omega), hwi, h2, Bool.false_or, Bool.not_true, Bool.and_false]; rfl
        rw [h0, Nat.zero_testBit] at h3
        exact absurd h3 (by decide)
  · intro h0
    apply Nat.eq_of_testBit_eq
    intro i
    rw [Nat.zero_testBit]
    cases hbi : (bdiff (wm t r) held).testBit i with
    | false => rfl
    | true =>
      have h8 := bit_lt (Nat.lt_of_le_of_lt (bdiff_le _ _) hw) hbi
      rw [bdiff_bit _ _ _ (by omega), Bool.and_eq_true] at hbi
      obtain ⟨hwi, hni⟩ := hbi
      have h2 := hh i h8
      cases hdi : hd.testBit i with
      | true => rw [h2, hdi, Bool.true_or] at hni; cases hni
      | false =>
        have hLi : L.testBit i = true := hL r hr (hl r hb) i (by rw [bdiff_bit _ _ _ (by omega), hwi, hdi]; rfl)
        cases hli : left.testBit i with
        | true =>
          have h3 : (wm t r &&& left).testBit i = true := by rw [Nat.testBit_and, hwi, hli]; rfl
          rw [h0, Nat.zero_testBit] at h3
          cases h3
        | false =>
          rw [h2, hdi, hLi, hli] at hni
          cases hni
def spc (o c k tm : Nat) : Nat := (if c ≤ tm then 24 else 0) + ((if o < tm ∧ tm < c then tm - o else 0) + k - 1) / (c - o) * 24 + o + ((if o < tm ∧ tm < c then tm - o else 0) + k - 1) % (c - o) + 1 - tm
def spn (t : Nat → Nat) (r tm : Nat) : Nat := spc (t (64 + 4 * t (96 + 4 * r))) (t (65 + 4 * t (96 + 4 * r))) (t (66 + 4 * t (96 + 4 * r))) tm
theorem spc_lt {o c k tm : Nat} (h1 : o < c) (h2 : c ≤ 24) (h3 : 1 ≤ k ∧ k ≤ 9) (h4 : tm < 24) : 1 ≤ spc o c k tm ∧ spc o c k tm < 1000 := by
  unfold spc
  have hb : (if o < tm ∧ tm < c then tm - o else 0) ≤ 23 := by split <;> omega
  have hb2 : tm < c → (if o < tm ∧ tm < c then tm - o else 0) = tm - o := by
    intro h
    split <;> omega
  generalize (if o < tm ∧ tm < c then tm - o else 0) = b at hb hb2
  have hd := Nat.div_le_self (b + k - 1) (c - o)
  have hm := Nat.mod_lt (b + k - 1) (show c - o > 0 by omega)
  have hdm := Nat.div_add_mod (b + k - 1) (c - o)
  have hz : (b + k - 1) / (c - o) = 0 → (b + k - 1) % (c - o) = b + k - 1 := fun h => by rw [h, Nat.mul_zero, Nat.zero_add] at hdm; exact hdm
  generalize (b + k - 1) / (c - o) = q at *
  generalize (b + k - 1) % (c - o) = m at *
  by_cases hc : c ≤ tm
  · rw [if_pos hc]; omega
  · rw [if_neg hc]
    have hb3 := hb2 (by omega)
    by_cases hq : q = 0
    · have := hz hq
      subst hq
      omega
    · omega
/-- the hours go on one by one -/
theorem spc_one {o c tm : Nat} (h1 : o < c) (h2 : c ≤ 24) (h4 : tm < 24) (ho : o ≤ tm ∧ tm < c) : spc o c 1 tm = 1 := by
  unfold spc
  have hb : (if o < tm ∧ tm < c then tm - o else 0) = tm - o := by split <;> omega
  rw [hb, if_neg (show ¬ c ≤ tm by omega), show tm - o + 1 - 1 = tm - o by omega, Nat.div_eq_of_lt (show tm - o < c - o by omega), Nat.mod_eq_of_lt (show tm - o < c - o by omega)]
  omega
theorem spc_open {o c k tm : Nat} (h1 : o < c) (h2 : c ≤ 24) (hk : 2 ≤ k) (h4 : tm < 24) (ho : o ≤ tm ∧ tm < c) : spc o c k tm = 1 + spc o c (k - 1) ((tm + 1) % 24) := by
  have hb : (if o < tm ∧ tm < c then tm - o else 0) = tm - o := by split <;> omega
  unfold spc
  rw [hb, if_neg (show ¬ c ≤ tm by omega)]
  by_cases hc : tm + 1 < c
  · have e1 : (tm + 1) % 24 = tm + 1 := Nat.mod_eq_of_lt (by omega)
    rw [e1, if_pos (show o < tm + 1 ∧ tm + 1 < c by omega), if_neg (show ¬ c ≤ tm + 1 by omega), show tm + 1 - o + (k - 1) - 1 = tm - o + k - 1 by omega]
    have hdm := Nat.div_add_mod (tm - o + k - 1) (c - o)
    have hz : (tm - o + k - 1) / (c - o) = 0 → (tm - o + k - 1) % (c - o) = tm - o + k - 1 := fun h => by rw [h, Nat.mul_zero, Nat.zero_add] at hdm; exact hdm
    generalize (tm - o + k - 1) / (c - o) = q at *
    generalize (tm - o + k - 1) % (c - o) = m at *
    by_cases hq : q = 0
    · have := hz hq
      subst hq
      omega
    · omega
  · have e0 : tm - o + k - 1 = (k - 2) + (c - o) := by omega
    have e2 : (tm - o + k - 1) / (c - o) = (k - 2) / (c - o) + 1 := by rw [e0]; exact Nat.add_div_right _ (by omega)
    have e3 : (tm - o + k - 1) % (c - o) = (k - 2) % (c - o) := by rw [e0]; exact Nat.add_mod_right _ _
    rw [e2, e3]
    by_cases h24 : tm + 1 = 24
    · have e1 : (tm + 1) % 24 = 0 := by rw [h24]
      rw [e1, if_neg (show ¬ (o < 0 ∧ 0 < c) by omega), if_neg (show ¬ c ≤ 0 by omega), show 0 + (k - 1) - 1 = k - 2 by omega]
      omega
    · have e1 : (tm + 1) % 24 = tm + 1 := Nat.mod_eq_of_lt (by omega)
      rw [e1, if_neg (show ¬ (o < tm + 1 ∧ tm + 1 < c) by omega), if_pos (show c ≤ tm + 1 by omega), show 0 + (k - 1) - 1 = k - 2 by omega]
      omega
theorem spc_shut {o c k tm : Nat} (h1 : o < c) (h2 : c ≤ 24) (hk : 1 ≤ k) (h4 : tm < 24) (ho : ¬ (o ≤ tm ∧ tm < c)) : spc o c k tm = 1 + spc o c k ((tm + 1) % 24) := by
  have hb : (if o < tm ∧ tm < c then tm - o else 0) = 0 := by split <;> omega
  unfold spc
  rw [hb]
  by_cases h24 : tm + 1 = 24
  · have e1 : (tm + 1) % 24 = 0 := by rw [h24]
    rw [e1, if_pos (show c ≤ tm by omega), if_neg (show ¬ (o < 0 ∧ 0 < c) by omega), if_neg (show ¬ c ≤ 0 by omega)]
    omega
  · have e1 : (tm + 1) % 24 = tm + 1 := Nat.mod_eq_of_lt (by omega)
    rw [e1, if_neg (show ¬ (o < tm + 1 ∧ tm + 1 < c) by omega)]
    by_cases hc : c ≤ tm
    · rw [if_pos hc, if_pos (by omega)]; omega
    · rw [if_neg hc, if_neg (by omega)]; omega
abbrev hBr : Type := Option (Nat × Nat × Nat)
def comb : hBr → hBr → hBr
  | none, y => y
  | some x, none => some x
  | some x, some y => if y.1 < x.1 then some y else some x
theorem comb_none {x : hBr} : comb x none = x := by cases x <;> rfl
theorem comb_assoc {x y z : hBr} : comb (comb x y) z = comb x (comb y z) := by
  cases x with
  | none => rfl
  | some x =>
    cases y with
    | none => rfl
    | some y =>
      cases z with
      | none => rw [comb_none, comb_none]
      | some z =>
        show comb (if y.1 < x.1 then some y else some x) (some z) = comb (some x) (if z.1 < y.1 then some z else some y)
        by_cases h1 : y.1 < x.1
        · rw [if_pos h1]
          by_cases h2 : z.1 < y.1
          · rw [if_pos h2]
            show (if z.1 < y.1 then some z else some y) = if z.1 < x.1 then some z else some x
            rw [if_pos h2, if_pos (by omega)]
          · rw [if_neg h2]
            show (if z.1 < y.1 then some z else some y) = if y.1 < x.1 then some y else some x
            rw [if_neg h2, if_pos h1]
        · rw [if_neg h1]
          by_cases h2 : z.1 < y.1
          · rw [if_pos h2]
          · rw [if_neg h2]
            show (if z.1 < x.1 then some z else some x) = if y.1 < x.1 then some y else some x
            rw [if_neg h1, if_neg (by omega)]
def cfold (f : Nat → hBr) : Nat → hBr
  | 0 => none
  | n + 1 => comb (cfold f n) (f n)
theorem cfold_congr {f g : Nat → hBr} {n : Nat} (h : ∀ i, i < n → f i = g i) : cfold f n = cfold g n := by
  induction n with
  | zero => rfl
  | succ n ih =>
    show comb (cfold f n) (f n) = comb (cfold g n) (g n)
    rw [ih (fun i hi => h i (by omega)), h n (by omega)]
def shf (a b c : Nat) (x : Nat × Nat × Nat) : Nat × Nat × Nat := (a + x.1, b + x.2.1, c + x.2.2)
theorem comb_shf {a b c : Nat} {x y : hBr} : (comb x y).map (shf a b c) = comb (x.map (shf a b c)) (y.map (shf a b c)) := by
  cases x with
  | none => rfl
  | some x =>
    cases y with
    | none => rfl
    | some y =>
      show Option.map (shf a b c) (if y.1 < x.1 then some y else some x) = if a + y.1 < a + x.1 then some (shf a b c y) else some (shf a b c x)
      by_cases h : y.1 < x.1
      · rw [if_pos h, if_pos (by omega)]; rfl
      · rw [if_neg h, if_neg (by omega)]; rfl
theorem cfold_shf {a b c : Nat} {f : Nat → hBr} {n : Nat} : (cfold f n).map (shf a b c) = cfold (fun i => (f i).map (shf a b c)) n := by
  induction n with
  | zero => rfl
  | succ n ih =>
    show (comb (cfold f n) (f n)).map _ = comb (cfold _ n) _
    rw [comb_shf, ih]
def fee (t : Nat → Nat) (r : Nat) : Nat := t (67 + 4 * t (96 + 4 * r))
/-- the best row for what is left, from this time of the day on: hours, digits, fees -/
def bl (t : Nat → Nat) (nr : Nat) : Nat → Nat → Nat → hBr
  | 0, left, _ => if left = 0 then some (0, 0, 0) else none
  | f + 1, left, tm => if left = 0 then some (0, 0, 0) else cfold (fun r => if nxt t left r = true then (bl t nr f (rm left r) ((tm + spn t r tm) % 24)).map (shf (spn t r tm) (r * 10 ^ (cb left - 1)) (fee t r)) else none) nr
theorem nxt_bit {t : Nat → Nat} {left r : Nat} (h : nxt t left r = true) : left.testBit r = true := (Bool.and_eq_true_iff.mp h).1
theorem bl_fuel {t : Nat → Nat} {nr : Nat} (f f' : Nat) {left tm : Nat} (hl : left < 256) (h1 : cb left ≤ f) (h2 : cb left ≤ f') : bl t nr f left tm = bl t nr f' left tm := by
  induction f generalizing f' left tm with
  | zero =>
    have : left = 0 := cb_0 left hl (by omega)
    subst this
    cases f' <;> rfl
  | succ f ih =>
    cases f' with
    | zero =>
      have : left = 0 := cb_0 left hl (by omega)
      subst this
      rfl
    | succ f' =>
      unfold bl
      by_cases h0 : left = 0
      · rw [if_pos h0, if_pos h0]
      · rw [if_neg h0, if_neg h0]
        refine cfold_congr (fun r hr => ?_)
        by_cases hn : nxt t left r = true
        · rw [if_pos hn, if_pos hn]
          have hb := nxt_bit hn
          have := cb_rm left hl r (bit_lt hl hb) hb
          rw [ih f' (Nat.lt_of_le_of_lt (rm_le _ _) hl) (by omega) (by omega)]
        · rw [if_neg hn, if_neg hn]
/-- of this paper first -/
def bf (t : Nat → Nat) (nr left tm r : Nat) : hBr := if nxt t left r = true then (bl t nr 8 (rm left r) ((tm + spn t r tm) % 24)).map (shf (spn t r tm) (r * 10 ^ (cb left - 1)) (fee t r)) else none
theorem bl_0 {t : Nat → Nat} {nr tm : Nat} : bl t nr 8 0 tm = some (0, 0, 0) := rfl
theorem bl_s {t : Nat → Nat} {nr left tm : Nat} (hl : left < 256) (h0 : left ≠ 0) : bl t nr 8 left tm = cfold (bf t nr left tm) nr := by
  show (if left = 0 then some (0, 0, 0) else cfold _ nr) = _
  rw [if_neg h0]
  refine cfold_congr (fun r hr => ?_)
  unfold bf
  by_cases hn : nxt t left r = true
  · rw [if_pos hn, if_pos hn]
    have hb := nxt_bit hn
    have := cb_rm left hl r (bit_lt hl hb) hb
    have := cb_le left
    rw [bl_fuel 7 8 (Nat.lt_of_le_of_lt (rm_le _ _) hl) (by omega) (by omega)]
  · rw [if_neg hn, if_neg hn]
theorem comb_some {x y : hBr} {z : Nat × Nat × Nat} (h : comb x y = some z) : x = some z ∨ y = some z := by
  cases x with
  | none => exact Or.inr h
  | some x =>
    cases y with
    | none => exact Or.inl h
    | some y =>
      have h2 : (if y.1 < x.1 then some y else some x) = some z := h
      split at h2
      · exact Or.inr h2
      · exact Or.inl h2
theorem cfold_some {f : Nat → hBr} {n : Nat} {z : Nat × Nat × Nat} (h : cfold f n = some z) : ∃ i, i < n ∧ f i = some z := by
  induction n with
  | zero => cases h
  | succ n ih =>
    rcases comb_some h with h1 | h1
    · obtain ⟨i, hi, e⟩ := ih h1
      exact ⟨i, by omega, e⟩
    · exact ⟨n, by omega, h1⟩
theorem cfold_none {f : Nat → hBr} {n : Nat} : cfold f n = none ↔ ∀ i, i < n → f i = none := by
  induction n with
  | zero => exact ⟨fun _ i hi => absurd hi (Nat.not_lt_zero _), fun _ => rfl⟩
  | succ n ih =>
    show comb (cfold f n) (f n) = none ↔ _
    constructor
    · intro h i hi
      cases hc : cfold f n with
      | some x =>
        rw [hc] at h
        cases hf : f n with
        | none => rw [hf] at h; cases h
        | some y =>
          rw [hf] at h
          have h2 : (if y.1 < x.1 then some y else some x) = none := h
          split at h2 <;> cases h2
      | none =>
        rw [hc] at h
        have h2 : f n = none := h
        by_cases hn : i = n
        · subst hn; exact h2
        · exact ih.mp hc i (by omega)
    · intro h
      rw [ih.mpr (fun i hi => h i (by omega)), h n (by omega)]
      rfl
