/-! rows of papers, of the class -/
def KM (t : Nat → Nat) (nr : Nat) (h : zH) : Prop := ∀ left tm, left < 256 → tm < 24 → h 43 (left * 24 + tm) = 0 ∨ h 43 (left * 24 + tm) = hrs (bl t nr 8 left tm) + 2
theorem hrs_b {np nd nr : Nat} {t : Nat → Nat} (V : HV np nd nr t) {left tm : Nat} (hl : left < 256) (htm : tm < 24) : -1 ≤ hrs (bl t nr 8 left tm) ∧ hrs (bl t nr 8 left tm) ≤ 8000 := by
  cases hb : bl t nr 8 left tm with
  | none => exact ⟨Int.le_refl _, by show (-1 : Int) ≤ 8000; omega⟩
  | some z =>
    have h1 := (bl_lt V left hl tm htm z hb).1
    have h2 := cb_le left
    show -1 ≤ (z.1 : Int) ∧ (z.1 : Int) ≤ 8000
    omega
theorem hrs_comb {x y : hBr} : hrs (comb x y) = if hrs y = -1 then hrs x else if hrs x = -1 then hrs y else if hrs x ≤ hrs y then hrs x else hrs y := by
  cases x with
  | none =>
    show hrs y = if hrs y = -1 then -1 else if (-1 : Int) = -1 then hrs y else _
    rw [if_pos (show (-1 : Int) = -1 from rfl)]
    by_cases h : hrs y = -1
    · rw [if_pos h, h]
    · rw [if_neg h]
  | some x =>
    cases y with
    | none => exact (if_pos rfl).symm
    | some y =>
      show hrs (if y.1 < x.1 then some y else some x) = if (y.1 : Int) = -1 then (x.1 : Int) else if (x.1 : Int) = -1 then (y.1 : Int) else if (x.1 : Int) ≤ (y.1 : Int) then (x.1 : Int) else (y.1 : Int)
      rw [if_neg (show ¬ (y.1 : Int) = -1 by omega), if_neg (show ¬ (x.1 : Int) = -1 by omega)]
      by_cases h : y.1 < x.1
      · rw [if_pos h, if_neg (show ¬ (x.1 : Int) ≤ (y.1 : Int) by omega)]; rfl
      · rw [if_neg h, if_pos (show (x.1 : Int) ≤ (y.1 : Int) by omega)]; rfl
theorem hrs_bf {t : Nat → Nat} {nr left tm r : Nat} (hn : nxt t left r = true) : hrs (bf t nr left tm r) = if hrs (bl t nr 8 (rm left r) ((tm + spn t r tm) % 24)) = -1 then -1 else (spn t r tm : Int) + hrs (bl t nr 8 (rm left r) ((tm + spn t r tm) % 24)) := by
  unfold bf
  rw [if_pos hn]
  cases bl t nr 8 (rm left r) ((tm + spn t r tm) % 24) with
  | none => exact (if_pos rfl).symm
  | some y =>
    show ((spn t r tm + y.1 : Nat) : Int) = if (y.1 : Int) = -1 then -1 else (spn t r tm : Int) + (y.1 : Int)
    rw [if_neg (by omega)]
    omega
theorem hrs_bf0 {t : Nat → Nat} {nr left tm r : Nat} (hn : ¬ nxt t left r = true) : hrs (bf t nr left tm r) = -1 := by
  unfold bf
  rw [if_neg hn]
  rfl
theorem spanX {np nd nr : Nat} {t : Nat → Nat} {h : zH} (V : HV np nd nr t) (X : HX np nd nr t h) {r tm : Nat} (hr : r < nr) (htm : tm < 24) : fX1_span 2 (r : Int) (tm : Int) h = some (spn t r tm : Int) := by
  have hd := (V.2.2.2.2.2 r hr).1
  have vd := V.2.2.2.2.1 _ hd
  obtain ⟨s1, s2⟩ := spn_lt V hr htm
  have core : ∀ b : Nat, b ≤ 23 → b = (if t (64 + 4 * t (96 + 4 * r)) < tm ∧ tm < t (65 + 4 * t (96 + 4 * r)) then tm - t (64 + 4 * t (96 + 4 * r)) else 0) → fX1_span_c61 2 h (tm : Int) (t (96 + 4 * r) : Int) (t (64 + 4 * t (96 + 4 * r)) : Int) (t (65 + 4 * t (96 + 4 * r)) : Int) ((t (65 + 4 * t (96 + 4 * r)) : Int) - (t (64 + 4 * t (96 + 4 * r)) : Int)) (b : Int) = some (spn t r tm : Int) := by
    intro b hb23 hb
    unfold spn spc at s1 s2 ⊢
    rw [← hb] at s1 s2 ⊢
    unfold fX1_span_c61
    rw [xi22 V X hd]
    generalize t (64 + 4 * t (96 + 4 * r)) = o at *
    generalize t (65 + 4 * t (96 + 4 * r)) = c at *
    generalize t (66 + 4 * t (96 + 4 * r)) = k at *
    rw [zlet_v, show (c : Int) - (o : Int) = ((c - o : Nat) : Int) by omega, show (b : Int) + (k : Int) - 1 = ((b + k - 1 : Nat) : Int) by omega, zdiv_pos (show (0 : Int) ≤ ((b + k - 1 : Nat) : Int) by omega) (by omega) (show (0 : Int) < ((c - o : Nat) : Int) by omega) (by omega), zrem_pos (show (0 : Int) ≤ ((b + k - 1 : Nat) : Int) by omega) (by omega) (show (0 : Int) < ((c - o : Nat) : Int) by omega) (by omega), zw_id (show -2147483648 ≤ ((c - o : Nat) : Int) ∧ ((c - o : Nat) : Int) < 2147483648 by omega), zw_id (show -2147483648 ≤ (tm : Int) ∧ (tm : Int) < 2147483648 by omega), zw_id (show -2147483648 ≤ (c : Int) ∧ (c : Int) < 2147483648 by omega)]
    rw [show ((b + k - 1 : Nat) : Int) / ((c - o : Nat) : Int) = (((b + k - 1) / (c - o) : Nat) : Int) from rfl, show ((b + k - 1 : Nat) : Int) % ((c - o : Nat) : Int) = (((b + k - 1) % (c - o) : Nat) : Int) from rfl]
    generalize (b + k - 1) / (c - o) = q at *
    generalize (b + k - 1) % (c - o) = m at *
    by_cases hc : tm < c
    · rw [if_neg (show ¬ c ≤ tm by omega)] at s1 s2 ⊢
      rw [if_pos (show (tm : Int) < (c : Int) by omega), if_pos (by omega), if_pos (by omega), zlet_v]
      congr 1
      omega
    · rw [if_pos (show c ≤ tm by omega)] at s1 s2 ⊢
      rw [if_neg (show ¬ (tm : Int) < (c : Int) by omega), if_pos (by omega), if_pos (by omega), zlet_v]
      congr 1
      omega
  unfold fX1_span
  rw [xi30 V X hr]
  simp only [zlet_v]
  rw [xi20 V X hd, xi21 V X hd, zw_1, zw_id (show -2147483648 ≤ (t (65 + 4 * t (96 + 4 * r)) : Int) - (t (64 + 4 * t (96 + 4 * r)) : Int) ∧ (t (65 + 4 * t (96 + 4 * r)) : Int) - (t (64 + 4 * t (96 + 4 * r)) : Int) < 2147483648 by omega), zw_id (show -2147483648 ≤ (tm : Int) ∧ (tm : Int) < 2147483648 by omega), zw_id (show -2147483648 ≤ (t (64 + 4 * t (96 + 4 * r)) : Int) ∧ (t (64 + 4 * t (96 + 4 * r)) : Int) < 2147483648 by omega), zw_id (show -2147483648 ≤ (t (65 + 4 * t (96 + 4 * r)) : Int) ∧ (t (65 + 4 * t (96 + 4 * r)) : Int) < 2147483648 by omega), if_pos (by omega)]
  by_cases h1 : tm ≤ t (64 + 4 * t (96 + 4 * r))
  · rw [if_pos (by omega)]
    exact core 0 (by omega) (by rw [if_neg (by omega)])
  · rw [if_neg (by omega)]
    by_cases h2 : t (65 + 4 * t (96 + 4 * r)) ≤ tm
    · rw [if_pos (by omega)]
      exact core 0 (by omega) (by rw [if_neg (by omega)])
    · rw [if_neg (by omega), show (tm : Int) - (t (64 + 4 * t (96 + 4 * r)) : Int) = ((tm - t (64 + 4 * t (96 + 4 * r)) : Nat) : Int) by omega]
      exact core _ (by omega) (by rw [if_pos (by omega)])
theorem nxtX {np nd nr : Nat} {t : Nat → Nat} {h : zH} (V : HV np nd nr t) (X : HX np nd nr t h) {left r : Nat} (hl : left < 256) (hr : r < nr) : fX3_isNext 2 (left : Int) (r : Int) h = if nxt t left r = true then 1 else 0 := by
  have v := V.1
  have hw := wm_lt V hr
  have hle : wm t r &&& left ≤ wm t r := Nat.and_le_left
  unfold fX3_isNext nxt
  rw [isIn_tab _ hl r (by omega), xw V X hr, zand_nat (by omega) (by omega), zw_id (show -2147483648 ≤ ((wm t r &&& left : Nat) : Int) ∧ ((wm t r &&& left : Nat) : Int) < 2147483648 by omega), zq]
  cases left.testBit r with
  | false => rw [if_neg (by decide), Bool.false_and, if_neg (by decide)]
  | true =>
    rw [if_pos rfl, Bool.true_and]
    by_cases h0 : wm t r &&& left = 0
    · rw [if_pos (by omega), if_pos (decide_eq_true h0)]
    · rw [if_neg (by omega), if_neg (fun x => h0 (of_decide_eq_true x))]
theorem rmX {left r : Nat} (hl : left < 256) (hr : r < 8) : zand (left : Int) (zxor (zshl 1 (r : Int)) (-1)) = (rm left r : Int) := by
  have p8 : 2 ^ r < 2 ^ 8 := Nat.pow_lt_pow_right (by decide) hr
  rw [zshl_1 r (by omega), zandn_nat (by omega) (by omega)]
  rfl
theorem modX {a : Nat} (h : a < 100000) : zrem (a : Int) 24 = ((a % 24 : Nat) : Int) := by
  rw [zrem_pos (by omega) (by omega) (by decide) (by decide)]
  rfl
theorem at43 {left tm : Nat} (hl : left < 256) (htm : tm < 24) (h : zH) : fX10_at 43 (((left : Int) * 24) + (tm : Int)) h = h 43 (left * 24 + tm) := by
  rw [at_in (by omega) (by show _ < ((6144 : Nat) : Int); omega), show (((left : Int) * 24) + (tm : Int)).toNat = left * 24 + tm by omega]
theorem put43 {left tm : Nat} (hl : left < 256) (htm : tm < 24) (v : Int) (h : zH) : fX10_put 43 (((left : Int) * 24) + (tm : Int)) v h = zs h 43 (left * 24 + tm) v := by
  rw [put_in (by omega) (by show _ < ((6144 : Nat) : Int); omega), show (((left : Int) * 24) + (tm : Int)).toNat = left * 24 + tm by omega]
theorem KM_up {t : Nat → Nat} {nr : Nat} {h : zH} (K : KM t nr h) {left tm : Nat} (htm : tm < 24) : KM t nr (zs h 43 (left * 24 + tm) (hrs (bl t nr 8 left tm) + 2)) := by
  intro l m hl hm
  by_cases hc : l * 24 + m = left * 24 + tm
  · have e1 : l = left := by omega
    have e2 : m = tm := by omega
    subst e1 e2
    rw [zs_at]
    exact Or.inr rfl
  · rw [zs_ne hc]
    exact K l m hl hm
theorem fewX {np nd nr : Nat} {t : Nat → Nat} (V : HV np nd nr t) {N : Nat} (hN : 10 ≤ N) : ∀ (F left tm d : Nat) (h : zH), HX np nd nr t h → KM t nr h → left < 256 → tm < 24 → cb left + d ≤ 8 → cb left < F → ∃ h', fG_X3_fewest N F 43 2 (left : Int) (tm : Int) (d : Int) h = some (hrs (bl t nr 8 left tm), h') ∧ FR [43] h h' ∧ KM t nr h' := by
  have v := V.1
  intro F
  induction F with
  | zero => intro left tm d h _ _ _ _ _ hF; omega
  | succ F ih =>
    intro left tm d h X K hl htm hd hF
    show ∃ h', fX3_fewest_b N (fG_X3_fewest N F) 43 2 (left : Int) (tm : Int) (d : Int) h = _ ∧ _
    unfold fX3_fewest_b
    rw [zw_id (show -2147483648 ≤ (left : Int) ∧ (left : Int) < 2147483648 by omega)]
    by_cases h0 : left = 0
    · subst h0
      rw [if_pos (show ((0 : Nat) : Int) = 0 from rfl), bl_0]
      exact ⟨h, rfl, FR_rf, K⟩
    · have hc1 : cb left ≠ 0 := fun e => h0 (cb_0 left hl e)
      rw [if_neg (by omega), zw_id (show -2147483648 ≤ (d : Int) ∧ (d : Int) < 2147483648 by omega), zw_8, if_pos (by omega), zlet_v, at43 hl htm]
      have hb := hrs_b V hl htm
      rcases K left tm hl htm with hk | hk
      · rw [hk, zif0]
        refine zloopq (F := fun k i (s : Int × zH) => fX3_fewest_c43 N (fG_X3_fewest N F) 43 2 k (left : Int) (tm : Int) (d : Int) s.1 i s.2) (n := nr) (s := (-1, h)) (fun i s => s.1 = hrs (cfold (bf t nr left tm) i) ∧ FR [43] h s.2 ∧ KM t nr s.2) (fun b => ∃ h', b = some (hrs (bl t nr 8 left tm), h') ∧ FR [43] h h' ∧ KM t nr h') (fun k i s hi hI => ?_) (fun k s hI => ?_) (by omega) ⟨rfl, FR_rf, K⟩
        · obtain ⟨b, s⟩ := s
          obtain ⟨i1, i2, i3⟩ := hI
          dsimp only at i1 i2 i3 ⊢
          have Xs : HX np nd nr t s := HX_to X (i2 16 (by decide)) (i2 17 (by decide)) (i2 18 (by decide))
          left
          have ec : cfold (bf t nr left tm) (i + 1) = comb (cfold (bf t nr left tm) i) (bf t nr left tm i) := rfl
          have e : fX3_fewest_c43 N (fG_X3_fewest N F) 43 2 (k + 1) (left : Int) (tm : Int) (d : Int) b (i : Int) s = if nxt t left i = true then zb (fX1_span 2 (i : Int) (tm : Int) s) (fun v4 => z2 (fG_X3_fewest N F 43 2 (zand (left : Int) (zxor (zshl 1 (i : Int)) (-1))) (zrem ((tm : Int) + v4) 24) ((d : Int) + 1) s) fun v6 h5 => if zw v6 = zw (-1) then fX3_fewest_c43 N (fG_X3_fewest N F) 43 2 k (left : Int) (tm : Int) (d : Int) b ((i + 1 : Nat) : Int) h5 else if zw b = zw (-1) then fX3_fewest_c43 N (fG_X3_fewest N F) 43 2 k (left : Int) (tm : Int) (d : Int) (v4 + v6) ((i + 1 : Nat) : Int) h5 else if zw b ≤ zw (v4 + v6) then fX3_fewest_c43 N (fG_X3_fewest N F) 43 2 k (left : Int) (tm : Int) (d : Int) b ((i + 1 : Nat) : Int) h5 else fX3_fewest_c43 N (fG_X3_fewest N F) 43 2 k (left : Int) (tm : Int) (d : Int) (v4 + v6) ((i + 1 : Nat) : Int) h5) else fX3_fewest_c43 N (fG_X3_fewest N F) 43 2 k (left : Int) (tm : Int) (d : Int) b ((i + 1 : Nat) : Int) s := by
            show fX3_fewest_c43b N (fG_X3_fewest N F) 43 2 (fX3_fewest_c43 N (fG_X3_fewest N F) 43 2 k) _ _ _ _ _ _ = _
            unfold fX3_fewest_c43b
            rw [xm3 Xs, zw_id (show -2147483648 ≤ (nr : Int) ∧ (nr : Int) < 2147483648 by omega), zw_id (show -2147483648 ≤ (i : Int) ∧ (i : Int) < 2147483648 by omega), if_neg (by omega), nxtX V Xs hl hi, zq]
            rfl
          by_cases hn : nxt t left i = true
          · have hbit := nxt_bit hn
            have hcb := cb_rm left hl i (bit_lt hl hbit) hbit
            obtain ⟨p1, p2⟩ := spn_lt V hi htm
            have hmod : (tm + spn t i tm) % 24 < 24 := Nat.mod_lt _ (by decide)
            obtain ⟨h5, f1, f2, f3⟩ := ih (rm left i) ((tm + spn t i tm) % 24) (d + 1) s Xs i3 (rm_lt hl) hmod (by omega) (by omega)
            have hb2 := hrs_b V (rm_lt (r := i) hl) hmod
            have hb3 : -1 ≤ b ∧ b ≤ 10000 := by
              rw [i1]
              cases hcf : cfold (bf t nr left tm) i with
              | none => exact ⟨Int.le_refl _, by show (-1 : Int) ≤ 10000; omega⟩
              | some z =>
                obtain ⟨j, hj, ej⟩ := cfold_some hcf
                obtain ⟨hnj, y, hy, rfl⟩ := bf_some ej
                have q1 := (bl_lt V _ (rm_lt hl) _ (Nat.mod_lt _ (by decide)) y hy).1
                have q2 := cb_le (rm left j)
                have q3 := spn_lt V (show j < nr by omega) htm
                show -1 ≤ ((spn t j tm + y.1 : Nat) : Int) ∧ ((spn t j tm + y.1 : Nat) : Int) ≤ 10000
                omega
            have er : zrem ((tm : Int) + (spn t i tm : Int)) 24 = (((tm + spn t i tm) % 24 : Nat) : Int) := by
              rw [show (tm : Int) + (spn t i tm : Int) = ((tm + spn t i tm : Nat) : Int) by omega]
              exact modX (by omega)
            rw [if_pos hn, spanX V Xs hi htm, zb_some, rmX hl (by omega), er, show (d : Int) + 1 = ((d + 1 : Nat) : Int) from rfl, f1, z2_some, zw_m1, zw_id (show -2147483648 ≤ hrs (bl t nr 8 (rm left i) ((tm + spn t i tm) % 24)) ∧ hrs (bl t nr 8 (rm left i) ((tm + spn t i tm) % 24)) < 2147483648 by omega), zw_id (show -2147483648 ≤ b ∧ b < 2147483648 by omega), zw_id (show -2147483648 ≤ (spn t i tm : Int) + hrs (bl t nr 8 (rm left i) ((tm + spn t i tm) % 24)) ∧ (spn t i tm : Int) + hrs (bl t nr 8 (rm left i) ((tm + spn t i tm) % 24)) < 2147483648 by omega)] at e
            rw [ec, hrs_comb, hrs_bf hn, ← i1]
            by_cases c1 : hrs (bl t nr 8 (rm left i) ((tm + spn t i tm) % 24)) = -1
            · rw [if_pos c1] at e ⊢
              exact ⟨(b, h5), e, by rw [if_pos rfl], FR_tr i2 f2, f3⟩
            · rw [if_neg c1] at e ⊢
              rw [if_neg (show ¬ (spn t i tm : Int) + hrs (bl t nr 8 (rm left i) ((tm + spn t i tm) % 24)) = -1 by omega)]
              by_cases c2 : b = -1
              · rw [if_pos c2] at e ⊢
                exact ⟨(_, h5), e, rfl, FR_tr i2 f2, f3⟩
              · rw [if_neg c2] at e ⊢
                by_cases c3 : b ≤ (spn t i tm : Int) + hrs (bl t nr 8 (rm left i) ((tm + spn t i tm) % 24))
                · rw [if_pos c3] at e ⊢
                  exact ⟨(b, h5), e, rfl, FR_tr i2 f2, f3⟩
                · rw [if_neg c3] at e ⊢
                  exact ⟨(_, h5), e, rfl, FR_tr i2 f2, f3⟩
          · rw [if_neg hn] at e
            rw [ec, hrs_comb, hrs_bf0 hn, if_pos rfl]
            exact ⟨(b, s), e, i1, i2, i3⟩
        · obtain ⟨b, s⟩ := s
          obtain ⟨i1, i2, i3⟩ := hI
          dsimp only at i1 i2 i3 ⊢
          have Xs : HX np nd nr t s := HX_to X (i2 16 (by decide)) (i2 17 (by decide)) (i2 18 (by decide))
          rw [← bl_s hl h0] at i1
          refine ⟨zs s 43 (left * 24 + tm) (hrs (bl t nr 8 left tm) + 2), ?_, FR_tr i2 (fun b hb => zs_row_ne (fun e => hb (by rw [e]; decide))), KM_up i3 htm⟩
          show fX3_fewest_c43b N (fG_X3_fewest N F) 43 2 (fX3_fewest_c43 N (fG_X3_fewest N F) 43 2 k) _ _ _ _ _ _ = _
          unfold fX3_fewest_c43b
          rw [xm3 Xs, if_pos (by omega), put43 hl htm, zlet_v, i1]
      · rw [hk, zw_id (show -2147483648 ≤ hrs (bl t nr 8 left tm) + 2 ∧ hrs (bl t nr 8 left tm) + 2 < 2147483648 by omega), if_neg (by omega), show hrs (bl t nr 8 left tm) + 2 - 2 = hrs (bl t nr 8 left tm) by omega]
        exact ⟨h, rfl, FR_rf, K⟩
theorem hrsX {np nd nr : Nat} {t : Nat → Nat} (V : HV np nd nr t) {N : Nat} (hN : 10 ≤ N) {left tm : Nat} {h : zH} (X : HX np nd nr t h) (K : KM t nr h) (hl : left < 256) (htm : tm < 24) : ∃ h', fX3_fewest N 43 2 (left : Int) (tm : Int) 0 h = some (hrs (bl t nr 8 left tm), h') ∧ FR [43] h h' ∧ KM t nr h' := by
  have := cb_le left
  exact fewX V hN 60 left tm 0 h X K hl htm (by omega) (by omega)
