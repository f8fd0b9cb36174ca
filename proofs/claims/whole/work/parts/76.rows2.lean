/-! rows of papers: what the best one is made of -/
theorem spn_lt {np nd nr : Nat} {t : Nat → Nat} (V : HV np nd nr t) {r tm : Nat} (hr : r < nr) (htm : tm < 24) : 1 ≤ spn t r tm ∧ spn t r tm < 1000 := by
  have hd := (V.2.2.2.2.2 r hr).1
  have vd := V.2.2.2.2.1 _ hd
  exact spc_lt vd.1 vd.2.1 vd.2.2.1 htm
theorem rm_lt {s r : Nat} (hs : s < 256) : rm s r < 256 := Nat.lt_of_le_of_lt (rm_le _ _) hs
theorem bf_some {t : Nat → Nat} {nr left tm r : Nat} {z : Nat × Nat × Nat} (h : bf t nr left tm r = some z) : nxt t left r = true ∧ ∃ y, bl t nr 8 (rm left r) ((tm + spn t r tm) % 24) = some y ∧ z = shf (spn t r tm) (r * 10 ^ (cb left - 1)) (fee t r) y := by
  unfold bf at h
  by_cases hn : nxt t left r = true
  · rw [if_pos hn] at h
    refine ⟨hn, ?_⟩
    cases hb : bl t nr 8 (rm left r) ((tm + spn t r tm) % 24) with
    | none => rw [hb] at h; cases h
    | some y => rw [hb] at h; exact ⟨y, rfl, (Option.some.inj h).symm⟩
  · rw [if_neg hn] at h; cases h
/-- strong induction on what is left -/
theorem left_ind {P : Nat → Prop} (h : ∀ s, s < 256 → (∀ r, s.testBit r = true → P (rm s r)) → P s) : ∀ s, s < 256 → P s := by
  have : ∀ n s, s < 256 → cb s ≤ n → P s := by
    intro n
    induction n with
    | zero =>
      intro s hs hc
      have : s = 0 := cb_0 s hs (by omega)
      subst this
      exact h 0 hs (fun r hr => by rw [Nat.zero_testBit] at hr; cases hr)
    | succ n ih =>
      intro s hs hc
      refine h s hs (fun r hr => ih _ (rm_lt hs) ?_)
      have := cb_rm s hs r (bit_lt hs hr) hr
      omega
  exact fun s hs => this 8 s hs (cb_le s)
theorem bl_lt {np nd nr : Nat} {t : Nat → Nat} (V : HV np nd nr t) : ∀ left, left < 256 → ∀ tm, tm < 24 → ∀ z, bl t nr 8 left tm = some z → z.1 ≤ 1000 * cb left ∧ z.2.1 < 10 ^ cb left := by
  have v := V.1
  refine left_ind (fun left hl ih tm htm z hz => ?_)
  by_cases h0 : left = 0
  · subst h0
    rw [bl_0] at hz
    have := (Option.some.inj hz).symm
    subst this
    exact ⟨Nat.zero_le _, Nat.pow_pos (by decide)⟩
  · rw [bl_s hl h0] at hz
    obtain ⟨r, hr, hf⟩ := cfold_some hz
    obtain ⟨hn, y, hy, rfl⟩ := bf_some hf
    have hb := nxt_bit hn
    have hc := cb_rm left hl r (bit_lt hl hb) hb
    obtain ⟨i1, i2⟩ := ih r hb _ (Nat.mod_lt _ (by decide)) y hy
    have hs := spn_lt V hr htm
    obtain ⟨c, hcc⟩ : ∃ c, cb left = c + 1 := ⟨cb left - 1, by omega⟩
    have hrc : cb (rm left r) = c := by omega
    rw [hrc] at i1 i2
    rw [hcc, Nat.pow_succ]
    show spn t r tm + y.1 ≤ 1000 * (c + 1) ∧ r * 10 ^ (c + 1 - 1) + y.2.1 < 10 ^ c * 10
    rw [show c + 1 - 1 = c by omega]
    refine ⟨by omega, ?_⟩
    have h9 : r ≤ 9 := by omega
    have := Nat.mul_le_mul_right (10 ^ c) h9
    omega
/-- fees of a set of papers -/
def fsum (t : Nat → Nat) (s : Nat) : Nat → Nat
  | 0 => 0
  | n + 1 => fsum t s n + if s.testBit n = true then fee t n else 0
theorem fsum_rm {t : Nat → Nat} {s r n : Nat} (hn : n ≤ 8) (hb : s.testBit r = true) : fsum t s n = fsum t (rm s r) n + if r < n then fee t r else 0 := by
  induction n with
  | zero => rfl
  | succ n ih =>
    have h1 := ih (by omega)
    unfold fsum
    rw [rm_bit (by omega), h1]
    by_cases h : r = n
    · subst h
      rw [hb, decide_eq_true rfl, if_pos rfl, if_neg (Nat.lt_irrefl r), if_pos (Nat.lt_succ_self r), if_neg (by decide)]
    · rw [decide_eq_false h, Bool.not_false, Bool.and_true]
      by_cases h2 : r < n
      · rw [if_pos h2, if_pos (show r < n + 1 by omega)]; omega
      · rw [if_neg h2, if_neg (show ¬ r < n + 1 by omega)]; omega
theorem bl_fee {np nd nr : Nat} {t : Nat → Nat} (V : HV np nd nr t) : ∀ left, left < 256 → ∀ tm z, bl t nr 8 left tm = some z → z.2.2 = fsum t left nr := by
  have v := V.1
  refine left_ind (fun left hl ih tm z hz => ?_)
  by_cases h0 : left = 0
  · subst h0
    rw [bl_0] at hz
    have := (Option.some.inj hz).symm
    subst this
    have : ∀ n, fsum t 0 n = 0 := by
      intro n
      induction n with
      | zero => rfl
      | succ n ih => unfold fsum; rw [ih, if_neg (by rw [Nat.zero_testBit]; decide)]
    exact (this nr).symm
  · rw [bl_s hl h0] at hz
    obtain ⟨r, hr, hf⟩ := cfold_some hz
    obtain ⟨hn, y, hy, rfl⟩ := bf_some hf
    have hb := nxt_bit hn
    have i1 := ih r hb _ y hy
    show fee t r + y.2.2 = _
    rw [fsum_rm v.2.2 hb, i1, if_pos hr]
    omega
/-- there is a row -/
def isR (t : Nat → Nat) (nr left : Nat) : Prop := bl t nr 8 left 0 ≠ none
theorem bl_tm {t : Nat → Nat} {nr : Nat} : ∀ left, left < 256 → ∀ tm tm', bl t nr 8 left tm = none → bl t nr 8 left tm' = none := by
  refine left_ind (fun left hl ih tm tm' h => ?_)
  by_cases h0 : left = 0
  · subst h0; rw [bl_0] at h; cases h
  · rw [bl_s hl h0] at h ⊢
    refine cfold_none.mpr (fun r hr => ?_)
    have h1 := cfold_none.mp h r hr
    unfold bf at h1 ⊢
    by_cases hn : nxt t left r = true
    · rw [if_pos hn] at h1 ⊢
      have h2 : bl t nr 8 (rm left r) ((tm + spn t r tm) % 24) = none := by
        cases hb : bl t nr 8 (rm left r) ((tm + spn t r tm) % 24) with
        | none => rfl
        | some y => rw [hb] at h1; cases h1
      rw [ih r (nxt_bit hn) _ ((tm' + spn t r tm') % 24) h2]
      rfl
    · rw [if_neg hn]
theorem isR_tm {t : Nat → Nat} {nr left tm : Nat} (hl : left < 256) : bl t nr 8 left tm ≠ none ↔ isR t nr left := ⟨fun h e => h (bl_tm left hl _ _ e), fun h e => h (bl_tm left hl _ _ e)⟩
theorem isR_step {t : Nat → Nat} {nr left : Nat} (hl : left < 256) (h0 : left ≠ 0) : isR t nr left ↔ ∃ r, r < nr ∧ nxt t left r = true ∧ isR t nr (rm left r) := by
  unfold isR
  rw [bl_s hl h0]
  constructor
  · intro h
    refine Classical.byContradiction (fun hc => h (cfold_none.mpr (fun r hr => ?_)))
    unfold bf
    by_cases hn : nxt t left r = true
    · rw [if_pos hn]
      have : bl t nr 8 (rm left r) 0 = none := Classical.byContradiction (fun e => hc ⟨r, hr, hn, e⟩)
      rw [bl_tm _ (rm_lt hl) _ ((0 + spn t r 0) % 24) this]
      rfl
    · exact if_neg hn
  · rintro ⟨r, hr, hn, h1⟩ h
    have h2 := cfold_none.mp h r hr
    unfold bf at h2
    rw [if_pos hn] at h2
    apply h1
    cases hb : bl t nr 8 (rm left r) ((0 + spn t r 0) % 24) with
    | none => exact bl_tm _ (rm_lt hl) _ 0 hb
    | some y => rw [hb] at h2; cases h2
theorem nxt_rm {t : Nat → Nat} {left r q : Nat} (hl : left < 256) (h : nxt t left q = true) (hne : r ≠ q) : nxt t (rm left r) q = true := by
  have h1 := Bool.and_eq_true_iff.mp h
  have h8 := bit_lt hl h1.1
  have h0 := of_decide_eq_true h1.2
  refine Bool.and_eq_true_iff.mpr ⟨?_, decide_eq_true ?_⟩
  · rw [rm_bit (by omega), h1.1, decide_eq_false hne]; rfl
  · apply Nat.eq_of_testBit_eq
    intro i
    rw [Nat.zero_testBit, Nat.testBit_and]
    cases hri : (rm left r).testBit i with
    | false => rw [Bool.and_false]
    | true =>
      have h8i := bit_lt (rm_lt hl) hri
      rw [rm_bit (by omega), Bool.and_eq_true] at hri
      have : (wm t q &&& left).testBit i = false := by rw [h0, Nat.zero_testBit]
      rw [Nat.testBit_and, hri.1, Bool.and_true] at this
      rw [this]; rfl
theorem rm_comm {s r q : Nat} (hs : s < 256) : rm (rm s r) q = rm (rm s q) r := by
  apply Nat.eq_of_testBit_eq
  intro i
  by_cases hi : i < 32
  · rw [rm_bit hi, rm_bit hi, rm_bit hi, rm_bit hi, Bool.and_assoc, Bool.and_assoc, Bool.and_comm (!decide (r = i))]
  · rw [hi_bit (rm_lt (rm_lt hs)) (by omega), hi_bit (rm_lt (rm_lt hs)) (by omega)]
/-- whichever paper that can be next is taken, there is a row still -/
theorem isR_ex {np nd nr : Nat} {t : Nat → Nat} (V : HV np nd nr t) : ∀ left, left < 256 → ∀ r, r < nr → nxt t left r = true → (isR t nr left ↔ isR t nr (rm left r)) := by
  refine left_ind (fun left hl ih r hr hn => ?_)
  have h0 : left ≠ 0 := fun e => by have := nxt_bit hn; rw [e, Nat.zero_testBit] at this; cases this
  constructor
  · intro h
    obtain ⟨q, hq, hqn, hqr⟩ := (isR_step hl h0).mp h
    by_cases he : q = r
    · subst he; exact hqr
    · have h1 := nxt_rm hl hn he
      have h2 := (ih q (nxt_bit hqn) r hr h1).mp hqr
      rw [rm_comm hl] at h2
      have h3 := nxt_rm hl hqn (fun e => he e.symm)
      exact (ih r (nxt_bit hn) q hq h3).mpr h2
  · intro h
    exact (isR_step hl h0).mpr ⟨r, hr, hn, h⟩
theorem isR_0 {t : Nat → Nat} {nr : Nat} : isR t nr 0 := fun h => by rw [bl_0] at h; cases h
theorem isR_no {t : Nat → Nat} {nr left : Nat} (hl : left < 256) (h0 : left ≠ 0) (h : ∀ r, r < nr → ¬ nxt t left r = true) : ¬ isR t nr left := fun hc => by
  obtain ⟨r, hr, hn, -⟩ := (isR_step hl h0).mp hc
  exact h r hr hn
/-- the first paper of the best row -/
theorem cfold_first {f : Nat → hBr} {n : Nat} {z : Nat × Nat × Nat} (h : cfold f n = some z) : ∃ i, i < n ∧ f i = some z ∧ (∀ j y, j < n → f j = some y → z.1 ≤ y.1) ∧ ∀ j y, j < i → f j = some y → z.1 < y.1 := by
  induction n generalizing z with
  | zero => cases h
  | succ n ih =>
    have h' : comb (cfold f n) (f n) = some z := h
    cases hc : cfold f n with
    | none =>
      rw [hc] at h'
      have h2 : f n = some z := h'
      have hn := cfold_none.mp hc
      refine ⟨n, by omega, h2, fun j y hj hy => ?_, fun j y hj hy => ?_⟩
      · by_cases hjn : j = n
        · subst hjn; rw [h2] at hy; have := Option.some.inj hy; subst this; exact Nat.le_refl _
        · rw [hn j (by omega)] at hy; cases hy
      · rw [hn j hj] at hy; cases hy
    | some x =>
      rw [hc] at h'
      obtain ⟨i, hi, e, hmin, hfirst⟩ := ih hc
      cases hf : f n with
      | none =>
        rw [hf] at h'
        have := Option.some.inj h'
        subst this
        refine ⟨i, by omega, e, fun j y hj hy => ?_, hfirst⟩
        by_cases hjn : j = n
        · subst hjn; rw [hf] at hy; cases hy
        · exact hmin j y (by omega) hy
      | some y0 =>
        rw [hf] at h'
        have h2 : (if y0.1 < x.1 then some y0 else some x) = some z := h'
        by_cases hlt : y0.1 < x.1
        · rw [if_pos hlt] at h2
          have := Option.some.inj h2
          subst this
          refine ⟨n, by omega, hf, fun j y hj hy => ?_, fun j y hj hy => ?_⟩
          · by_cases hjn : j = n
            · subst hjn; rw [hf] at hy; have := Option.some.inj hy; subst this; exact Nat.le_refl _
            · have := hmin j y (by omega) hy; omega
          · have := hmin j y hj hy; omega
        · rw [if_neg hlt] at h2
          have := Option.some.inj h2
          subst this
          refine ⟨i, by omega, e, fun j y hj hy => ?_, hfirst⟩
          by_cases hjn : j = n
          · subst hjn; rw [hf] at hy; have := Option.some.inj hy; subst this; omega
          · exact hmin j y (by omega) hy
def hrs (x : hBr) : Int := match x with
  | none => -1
  | some y => (y.1 : Int)
