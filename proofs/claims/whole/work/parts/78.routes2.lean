/-! the first paper, the row, the fees of the class; the rows of the reference -/
/-- the first paper of the best row -/
def isF (t : Nat → Nat) (nr left tm i : Nat) : Prop := i < nr ∧ ∃ z, bl t nr 8 left tm = some z ∧ bf t nr left tm i = some z ∧ ∀ j y, j < i → bf t nr left tm j = some y → z.1 < y.1
theorem isF_ex {t : Nat → Nat} {nr left tm : Nat} {z : Nat × Nat × Nat} (hl : left < 256) (h0 : left ≠ 0) (h : bl t nr 8 left tm = some z) : ∃ i, isF t nr left tm i := by
  have h' := h
  rw [bl_s hl h0] at h'
  obtain ⟨i, hi, e, -, e2⟩ := cfold_first h'
  exact ⟨i, hi, z, h, e, e2⟩
theorem firstXr {np nd nr : Nat} {t : Nat → Nat} (V : HV np nd nr t) {N : Nat} (hN : 10 ≤ N) {left tm : Nat} {h : zH} (X : HX np nd nr t h) (K : KM t nr h) (hl : left < 256) (htm : tm < 24) : ∃ (x : Int) (h' : zH), fX3_first N 2 (left : Int) (tm : Int) h = some (x, h') ∧ FR [43] h h' ∧ KM t nr h' ∧ ((x = -1 ∧ (left = 0 ∨ bl t nr 8 left tm = none)) ∨ ∃ i : Nat, x = (i : Int) ∧ isF t nr left tm i) := by
  have v := V.1
  obtain ⟨h1, e1, e2, e3⟩ := hrsX V hN X K hl htm
  have X1 : HX np nd nr t h1 := HX_to X (e2 16 (by decide)) (e2 17 (by decide)) (e2 18 (by decide))
  have hb := hrs_b V hl htm
  unfold fX3_first
  rw [e1, z2_some]
  refine zloopq (F := fun k i (s : zH) => fX3_first_c16 N 2 k (left : Int) (tm : Int) (hrs (bl t nr 8 left tm)) i s) (n := nr) (s := h1) (fun i s => FR [43] h s ∧ KM t nr s ∧ ∀ j y, j < i → bf t nr left tm j = some y → (y.1 : Int) ≠ hrs (bl t nr 8 left tm)) (fun b => ∃ (x : Int) (h' : zH), b = some (x, h') ∧ FR [43] h h' ∧ KM t nr h' ∧ ((x = -1 ∧ (left = 0 ∨ bl t nr 8 left tm = none)) ∨ ∃ i : Nat, x = (i : Int) ∧ isF t nr left tm i)) (fun k i s hi hI => ?_) (fun k s hI => ?_) (by omega) ⟨e2, e3, fun j y hj => absurd hj (Nat.not_lt_zero _)⟩
  · obtain ⟨i1, i2, i3⟩ := hI
    have Xs : HX np nd nr t s := HX_to X (i1 16 (by decide)) (i1 17 (by decide)) (i1 18 (by decide))
    have e : fX3_first_c16 N 2 (k + 1) (left : Int) (tm : Int) (hrs (bl t nr 8 left tm)) (i : Int) s = if hrs (bl t nr 8 left tm) = -1 then some (-1, s) else if nxt t left i = true then zb (fX1_span 2 (i : Int) (tm : Int) s) (fun v4 => z2 (fX3_fewest N 43 2 (zand (left : Int) (zxor (zshl 1 (i : Int)) (-1))) (zrem ((tm : Int) + v4) 24) 0 s) fun v6 h5 => if zw v6 = zw (-1) then fX3_first_c16 N 2 k (left : Int) (tm : Int) (hrs (bl t nr 8 left tm)) ((i + 1 : Nat) : Int) h5 else if zw (v4 + v6) = zw (hrs (bl t nr 8 left tm)) then some ((i : Int), h5) else fX3_first_c16 N 2 k (left : Int) (tm : Int) (hrs (bl t nr 8 left tm)) ((i + 1 : Nat) : Int) h5) else fX3_first_c16 N 2 k (left : Int) (tm : Int) (hrs (bl t nr 8 left tm)) ((i + 1 : Nat) : Int) s := by
      show fX3_first_c16b N 2 (fX3_first_c16 N 2 k) _ _ _ _ _ = _
      unfold fX3_first_c16b
      rw [xm3 Xs, zw_id (show -2147483648 ≤ (nr : Int) ∧ (nr : Int) < 2147483648 by omega), zw_id (show -2147483648 ≤ (i : Int) ∧ (i : Int) < 2147483648 by omega), if_neg (by omega), nxtX V Xs hl hi, zq, zw_id (show -2147483648 ≤ hrs (bl t nr 8 left tm) ∧ hrs (bl t nr 8 left tm) < 2147483648 by omega), zw_m1]
      rfl
    by_cases c0 : hrs (bl t nr 8 left tm) = -1
    · rw [if_pos c0] at e
      right
      refine ⟨-1, s, e, i1, i2, Or.inl ⟨rfl, Or.inr ?_⟩⟩
      cases hbl : bl t nr 8 left tm with
      | none => rfl
      | some z =>
        rw [hbl] at c0
        have : (z.1 : Int) = -1 := c0
        omega
    · rw [if_neg c0] at e
      by_cases hn : nxt t left i = true
      · have hbit := nxt_bit hn
        obtain ⟨p1, p2⟩ := spn_lt V hi htm
        have hmod : (tm + spn t i tm) % 24 < 24 := Nat.mod_lt _ (by decide)
        obtain ⟨h5, f1, f2, f3⟩ := hrsX V hN Xs i2 (rm_lt (r := i) hl) hmod
        have hb2 := hrs_b V (rm_lt (r := i) hl) hmod
        have er : zrem ((tm : Int) + (spn t i tm : Int)) 24 = (((tm + spn t i tm) % 24 : Nat) : Int) := by
          rw [show (tm : Int) + (spn t i tm : Int) = ((tm + spn t i tm : Nat) : Int) by omega]
          exact modX (by omega)
        rw [if_pos hn, spanX V Xs hi htm, zb_some, rmX hl (by omega), er, f1, z2_some, zw_m1, zw_id (show -2147483648 ≤ hrs (bl t nr 8 (rm left i) ((tm + spn t i tm) % 24)) ∧ hrs (bl t nr 8 (rm left i) ((tm + spn t i tm) % 24)) < 2147483648 by omega), zw_id (show -2147483648 ≤ (spn t i tm : Int) + hrs (bl t nr 8 (rm left i) ((tm + spn t i tm) % 24)) ∧ (spn t i tm : Int) + hrs (bl t nr 8 (rm left i) ((tm + spn t i tm) % 24)) < 2147483648 by omega), zw_id (show -2147483648 ≤ hrs (bl t nr 8 left tm) ∧ hrs (bl t nr 8 left tm) < 2147483648 by omega)] at e
        have hf := hrs_bf (nr := nr) (tm := tm) hn
        by_cases c1 : hrs (bl t nr 8 (rm left i) ((tm + spn t i tm) % 24)) = -1
        · rw [if_pos c1] at e hf
          left
          refine ⟨h5, e, FR_tr i1 f2, f3, fun j y hj hy => ?_⟩
          by_cases hji : j = i
          · subst hji
            rw [hy] at hf
            have : (y.1 : Int) = -1 := hf
            omega
          · exact i3 j y (by omega) hy
        · rw [if_neg c1] at e hf
          by_cases c2 : (spn t i tm : Int) + hrs (bl t nr 8 (rm left i) ((tm + spn t i tm) % 24)) = hrs (bl t nr 8 left tm)
          · rw [if_pos c2] at e
            right
            refine ⟨(i : Int), h5, e, FR_tr i1 f2, f3, Or.inr ⟨i, rfl, ?_⟩⟩
            have h0 : left ≠ 0 := fun e => by rw [e, Nat.zero_testBit] at hbit; cases hbit
            cases hbl : bl t nr 8 left tm with
            | none => rw [hbl] at c0; exact absurd rfl c0
            | some z =>
              obtain ⟨j, hj, z', hz', hj1, hj2⟩ := isF_ex hl h0 hbl
              rw [hbl] at hz'
              have hzz := Option.some.inj hz'
              subst hzz
              by_cases hji : j = i
              · subst hji; exact ⟨hj, z, hbl, hj1, hj2⟩
              · by_cases hlt : j < i
                · have := i3 j z hlt hj1
                  rw [hbl] at this
                  exact absurd rfl this
                · cases hbf : bf t nr left tm i with
                  | none =>
                    rw [hbf] at hf
                    have h2 : (-1 : Int) = (spn t i tm : Int) + hrs (bl t nr 8 (rm left i) ((tm + spn t i tm) % 24)) := hf
                    omega
                  | some y =>
                    have h3 := hj2 i y (by omega) hbf
                    rw [hbf] at hf
                    rw [hbl] at c2
                    have h4 : (y.1 : Int) = (spn t i tm : Int) + hrs (bl t nr 8 (rm left i) ((tm + spn t i tm) % 24)) := hf
                    have h5 : (spn t i tm : Int) + hrs (bl t nr 8 (rm left i) ((tm + spn t i tm) % 24)) = (z.1 : Int) := c2
                    omega
          · rw [if_neg c2] at e
            left
            refine ⟨h5, e, FR_tr i1 f2, f3, fun j y hj hy => ?_⟩
            by_cases hji : j = i
            · subst hji
              rw [hy] at hf
              have : (y.1 : Int) = (spn t j tm : Int) + hrs (bl t nr 8 (rm left j) ((tm + spn t j tm) % 24)) := hf
              omega
            · exact i3 j y (by omega) hy
      · rw [if_neg hn] at e
        left
        refine ⟨s, e, i1, i2, fun j y hj hy => ?_⟩
        by_cases hji : j = i
        · subst hji
          exact absurd (bf_some hy).1 hn
        · exact i3 j y (by omega) hy
  · obtain ⟨i1, i2, i3⟩ := hI
    have Xs : HX np nd nr t s := HX_to X (i1 16 (by decide)) (i1 17 (by decide)) (i1 18 (by decide))
    refine ⟨-1, s, ?_, i1, i2, Or.inl ⟨rfl, ?_⟩⟩
    · show fX3_first_c16b N 2 (fX3_first_c16 N 2 k) _ _ _ _ _ = _
      unfold fX3_first_c16b
      rw [xm3 Xs, if_pos (by omega)]
    · by_cases h0 : left = 0
      · exact Or.inl h0
      · right
        cases hbl : bl t nr 8 left tm with
        | none => rfl
        | some z =>
          obtain ⟨j, hj, z', hz', hj1, hj2⟩ := isF_ex hl h0 hbl
          rw [hbl] at hz'
          have := Option.some.inj hz'
          subst this
          have := i3 j z hj hj1
          rw [hbl] at this
          exact absurd rfl this
theorem isF_row {np nd nr : Nat} {t : Nat → Nat} (V : HV np nd nr t) {left tm i : Nat} (hl : left < 256) (htm : tm < 24) {z : Nat × Nat × Nat} (hz : bl t nr 8 left tm = some z) (h : isF t nr left tm i) : i < nr ∧ nxt t left i = true ∧ cb (rm left i) + 1 = cb left ∧ ∃ y, bl t nr 8 (rm left i) ((tm + spn t i tm) % 24) = some y ∧ z.2.1 = i * 10 ^ (cb left - 1) + y.2.1 ∧ y.2.1 < 10 ^ (cb left - 1) := by
  obtain ⟨hi, z', hz', hb, -⟩ := h
  rw [hz] at hz'
  have := Option.some.inj hz'
  subst this
  obtain ⟨hn, y, hy, rfl⟩ := bf_some hb
  have hbit := nxt_bit hn
  have hc := cb_rm left hl i (bit_lt hl hbit) hbit
  have h2 := (bl_lt V _ (rm_lt hl) _ (Nat.mod_lt _ (by decide)) y hy).2
  rw [show cb (rm left i) = cb left - 1 by omega] at h2
  exact ⟨hi, hn, hc, y, hy, rfl, h2⟩
theorem rowX {np nd nr : Nat} {t : Nat → Nat} (V : HV np nd nr t) {N : Nat} (hN : 10 ≤ N) {left tm : Nat} {h : zH} (X : HX np nd nr t h) (K : KM t nr h) (hl : left < 256) (htm : tm < 24) {z : Nat × Nat × Nat} (hz : bl t nr 8 left tm = some z) : ∃ h', fX3_row N 2 (left : Int) (tm : Int) h = some (if left = 0 then -1 else (z.2.1 : Int), h') ∧ FR [43] h h' ∧ KM t nr h' := by
  unfold fX3_row
  rw [zw_id (show -2147483648 ≤ (left : Int) ∧ (left : Int) < 2147483648 by omega)]
  by_cases h0 : left = 0
  · subst h0
    rw [if_pos (show ((0 : Nat) : Int) = 0 from rfl), if_pos rfl]
    obtain ⟨M, rfl⟩ : ∃ M, N = M + 1 := ⟨N - 1, by omega⟩
    refine ⟨h, ?_, FR_rf, K⟩
    show fX3_row_c20b (M + 1) 2 (fX3_row_c20 (M + 1) 2 M) _ _ _ _ _ = _
    unfold fX3_row_c20b
    rw [if_neg (by decide)]
    exact if_pos (by decide)
  · rw [if_neg (by omega), if_neg h0]
    have key : ∀ (k i left tm row : Nat) (s : zH), cb left + i ≤ 8 → cb left < k → left < 256 → tm < 24 → HX np nd nr t s → KM t nr s → FR [43] h s → ∀ y, bl t nr 8 left tm = some y → row * 10 ^ cb left + y.2.1 = z.2.1 → ∃ h', fX3_row_c20 N 2 k (row : Int) (left : Int) (tm : Int) (i : Int) s = some ((z.2.1 : Int), h') ∧ FR [43] h h' ∧ KM t nr h' := by
      intro k
      induction k with
      | zero => intro i left tm row s _ h; omega
      | succ k ih =>
        intro i left tm row s hci hck hl htm Xs Ks Fs y hy hr
        show ∃ h', fX3_row_c20b N 2 (fX3_row_c20 N 2 k) _ _ _ _ _ = _ ∧ _
        unfold fX3_row_c20b
        rw [zw_8, zw_id (show -2147483648 ≤ (i : Int) ∧ (i : Int) < 2147483648 by omega), zw_id (show -2147483648 ≤ (left : Int) ∧ (left : Int) < 2147483648 by omega)]
        by_cases hl0 : left = 0
        · subst hl0
          rw [bl_0] at hy
          have := (Option.some.inj hy).symm
          subst this
          have hc0 : cb 0 = 0 := by decide
          rw [hc0] at hr
          have hr2 : row = z.2.1 := by rw [← hr]; show row = row * 10 ^ 0 + 0; omega
          rw [hr2]
          by_cases h8 : (8 : Int) ≤ (i : Int)
          · rw [if_pos h8]; exact ⟨s, rfl, Fs, Ks⟩
          · rw [if_neg h8, if_pos (show ((0 : Nat) : Int) = 0 from rfl)]; exact ⟨s, rfl, Fs, Ks⟩
        · have hc1 : cb left ≠ 0 := fun e => hl0 (cb_0 left hl e)
          rw [if_neg (by omega), if_neg (by omega)]
          obtain ⟨x, h1, f1, f2, f3, f4⟩ := firstXr V hN Xs Ks hl htm
          rcases f4 with ⟨-, f4⟩ | ⟨j, rfl, hj⟩
          · rcases f4 with f4 | f4
            · exact absurd f4 hl0
            · rw [hy] at f4; cases f4
          · obtain ⟨hj1, hj2, hj3, y', hy', e1, e2⟩ := isF_row V hl htm hy hj
            have v := V.1
            have X1 : HX np nd nr t h1 := HX_to Xs (f2 16 (by decide)) (f2 17 (by decide)) (f2 18 (by decide))
            obtain ⟨p1, p2⟩ := spn_lt V hj1 htm
            have er : zrem ((tm : Int) + (spn t j tm : Int)) 24 = (((tm + spn t j tm) % 24 : Nat) : Int) := by
              rw [show (tm : Int) + (spn t j tm : Int) = ((tm + spn t j tm : Nat) : Int) by omega]
              exact modX (by omega)
            rw [f1, z2_some, zw_id (show -2147483648 ≤ (j : Int) ∧ (j : Int) < 2147483648 by omega), zw_m1, if_neg (by omega), spanX V X1 hj1 htm, zb_some]
            simp only [zlet_v]
            rw [er, rmX hl (by omega), show (row : Int) * 10 + (j : Int) = ((row * 10 + j : Nat) : Int) by omega]
            refine ih (i + 1) (rm left j) _ (row * 10 + j) h1 (by omega) (by omega) (rm_lt hl) (Nat.mod_lt _ (by decide)) X1 f3 (FR_tr Fs f2) y' hy' ?_
            rw [← hr, e1]
            obtain ⟨c, hcc⟩ : ∃ c, cb left = c + 1 := ⟨cb left - 1, by omega⟩
            rw [show cb (rm left j) = c by omega, hcc, show c + 1 - 1 = c by omega, Nat.pow_succ, Nat.add_mul, Nat.mul_assoc, Nat.mul_comm (10 ^ c) 10, Nat.add_assoc]
    have hc8 := cb_le left
    exact key N 0 left tm 0 h (by omega) (by omega) hl htm X K FR_rf z hz (by rw [Nat.zero_mul, Nat.zero_add])
theorem feesX {np nd nr : Nat} {t : Nat → Nat} (V : HV np nd nr t) {N : Nat} (hN : 10 ≤ N) {left : Nat} {h : zH} (X : HX np nd nr t h) (hl : left < 256) : fX1_fees N 2 (left : Int) h = some (fsum t left nr : Int) := by
  have v := V.1
  refine zloopq (F := fun k i (s : Int) => fX1_fees_c4 N 2 h k (left : Int) s i) (n := nr) (s := 0) (fun i s => s = (fsum t left i : Int)) (fun b => b = some (fsum t left nr : Int)) (fun k i s hi hI => ?_) (fun k s hI => ?_) (by omega) rfl
  · left
    refine ⟨_, ?_, rfl⟩
    show fX1_fees_c4b N 2 h (fX1_fees_c4 N 2 h k) _ _ _ = _
    unfold fX1_fees_c4b
    have hd := (V.2.2.2.2.2 i hi).1
    rw [xm3 X, zw_id (show -2147483648 ≤ (nr : Int) ∧ (nr : Int) < 2147483648 by omega), zw_id (show -2147483648 ≤ (i : Int) ∧ (i : Int) < 2147483648 by omega), if_neg (by omega), isIn_tab _ hl i (by omega), zq, xi30 V X hi, xi23 V X hd, zlet_v, hI]
    have e : fsum t left (i + 1) = fsum t left i + if left.testBit i = true then fee t i else 0 := rfl
    rw [e]
    by_cases hc : left.testBit i = true
    · rw [if_pos hc, if_pos hc]; rfl
    · rw [if_neg hc, if_neg hc]; rfl
  · show fX1_fees_c4b N 2 h (fX1_fees_c4 N 2 h k) _ _ _ = _
    unfold fX1_fees_c4b
    rw [xm3 X, if_pos (by omega), hI]
