/-! rows of papers, of the reference; soonest, earliest -/
theorem hadL {np nd nr : Nat} {t : Nat → Nat} {g : zH} (V : HV np nd nr t) (M : HM np nd nr t g) {N r : Nat} (hr : r < nr) : ∀ (n k T F : Nat), 1 ≤ k → k ≤ 9 → T + n < 90000 → spc (t (64 + 4 * t (96 + 4 * r))) (t (65 + 4 * t (96 + 4 * r))) k (T % 24) = n → n < F → fX11_hadBy_c18 N g F (r : Int) (k : Int) (T : Int) = some ((T + n : Nat) : Int) := by
  have hd := (V.2.2.2.2.2 r hr).1
  have vd := V.2.2.2.2.1 _ hd
  intro n
  induction n with
  | zero =>
    intro k T F h1 h2 h3 h4
    have := (spc_lt (tm := T % 24) vd.1 vd.2.1 (show 1 ≤ k ∧ k ≤ 9 from ⟨h1, h2⟩) (Nat.mod_lt _ (by decide))).1
    omega
  | succ n ih =>
    intro k T F h1 h2 h3 h4 h5
    obtain ⟨F', rfl⟩ : ∃ F', F = F' + 1 := ⟨F - 1, by omega⟩
    have htm : T % 24 < 24 := Nat.mod_lt _ (by decide)
    have emod : (T + 1) % 24 = (T % 24 + 1) % 24 := by omega
    show fX11_hadBy_c18b N g (fX11_hadBy_c18 N g F') _ _ _ = _
    unfold fX11_hadBy_c18b
    rw [zw_id (show -2147483648 ≤ (k : Int) ∧ (k : Int) < 2147483648 by omega), if_neg (by omega), mdesk V M hr, zb_some, modX (by omega), opnM V M hd (by omega), zb_some, zq]
    by_cases ho : t (64 + 4 * t (96 + 4 * r)) ≤ T % 24 ∧ T % 24 < t (65 + 4 * t (96 + 4 * r))
    · rw [if_pos ho]
      by_cases hk : k = 1
      · subst hk
        have e1 := spc_one (tm := T % 24) vd.1 vd.2.1 htm ho
        have hn : n = 0 := by omega
        subst hn
        obtain ⟨F'', rfl⟩ : ∃ F'', F' = F'' + 1 := ⟨F' - 1, by omega⟩
        show fX11_hadBy_c18b N g (fX11_hadBy_c18 N g F'') _ _ _ = _
        unfold fX11_hadBy_c18b
        rw [show ((1 : Nat) : Int) - 1 = 0 from rfl, zw_0, if_pos (Int.le_refl _)]
        rfl
      · have e1 := spc_open (k := k) (tm := T % 24) vd.1 vd.2.1 (by omega) htm ho
        rw [show (k : Int) - 1 = ((k - 1 : Nat) : Int) by omega, show (T : Int) + 1 = ((T + 1 : Nat) : Int) from rfl, ih (k - 1) (T + 1) F' (by omega) (by omega) (by omega) (by rw [emod]; omega) (by omega)]
        congr 1
        omega
    · rw [if_neg ho]
      have e1 := spc_shut (k := k) (tm := T % 24) vd.1 vd.2.1 h1 htm ho
      rw [show (k : Int) - 0 = (k : Int) by omega, show (T : Int) + 1 = ((T + 1 : Nat) : Int) from rfl, ih k (T + 1) F' h1 h2 (by omega) (by rw [emod]; omega) (by omega)]
      congr 1
      omega
theorem hadM {np nd nr : Nat} {t : Nat → Nat} {g : zH} (V : HV np nd nr t) (M : HM np nd nr t g) {N r T : Nat} (hN : 1100 ≤ N) (hr : r < nr) (hT : T < 80000) : fX11_hadBy N (r : Int) (T : Int) g = some ((T + spn t r (T % 24) : Nat) : Int) := by
  have v := V.1
  have hd := (V.2.2.2.2.2 r hr).1
  have vd := V.2.2.2.2.1 _ hd
  have hs := spn_lt V hr (Nat.mod_lt T (show 0 < 24 by decide))
  have e65 : g 65 (4 * t (96 + 4 * r) + 2) = t (66 + 4 * t (96 + 4 * r)) := (M.2.2.2.1 _ 2 hd (by decide)).trans (by rw [show 64 + 4 * t (96 + 4 * r) + 2 = 66 + 4 * t (96 + 4 * r) by omega])
  unfold fX11_hadBy
  rw [mdesk V M hr, zb_some, show (4 * (t (96 + 4 * r) : Int)) + 2 = ((4 * t (96 + 4 * r) + 2 : Nat) : Int) by omega, zw_id (show -2147483648 ≤ ((4 * t (96 + 4 * r) + 2 : Nat) : Int) ∧ ((4 * t (96 + 4 * r) + 2 : Nat) : Int) < 2147483648 by omega), if_pos (by omega), zlet_v, Int.toNat_natCast, e65]
  exact hadL V M hr (spn t r (T % 24)) _ T N vd.2.2.1.1 vd.2.2.1.2 (by omega) rfl (by omega)
def AC (acc : hBr) (g : zH) : Prop := match acc with
  | none => g 14 41 = -1
  | some x => g 14 41 = (x.1 : Int) ∧ g 14 40 = (x.2.1 : Int) ∧ g 14 42 = (x.2.2 : Int)
theorem shf_shf {a b c a' b' c' : Nat} {x : hBr} : (x.map (shf a b c)).map (shf a' b' c') = x.map (shf (a' + a) (b' + b) (c' + c)) := by
  cases x with
  | none => rfl
  | some x =>
    show some (a' + (a + x.1), b' + (b + x.2.1), c' + (c + x.2.2)) = some (a' + a + x.1, b' + b + x.2.1, c' + c + x.2.2)
    rw [Nat.add_assoc, Nat.add_assoc, Nat.add_assoc]
theorem tryM {np nd nr : Nat} {t : Nat → Nat} (V : HV np nd nr t) {N : Nat} (hN : 1100 ≤ N) {hd L T : Nat} (hL : ∀ r, r < nr → L.testBit r = true → sub (bdiff (wm t r) hd) L) (hI : inP nr hd L) : ∀ (F left held hour row fees : Nat) (acc : hBr) (g : zH), HM np nd nr t g → g 69 42 = (T : Int) → T ≤ hour → hour + 1000 * cb left ≤ 20000 → left < 256 → sub left L → held < 256 → (∀ i, i < 8 → held.testBit i = (hd.testBit i || (L.testBit i && !left.testBit i))) → cb left < F → (∀ x, acc = some x → x.1 < 100000) → AC acc g → ∃ g', fG_X11_tryRows N F (left : Int) (held : Int) (hour : Int) (row : Int) (fees : Int) g = some g' ∧ FR [14] g g' ∧ FS 14 [40, 41, 42] g g' ∧ AC (comb acc ((bl t nr 8 left (hour % 24)).map (shf (hour - T) (row * 10 ^ cb left) fees))) g' := by
  have v := V.1
  intro F
  induction F with
  | zero => intro left held hour row fees acc g _ _ _ _ _ _ _ _ h; omega
  | succ F ih =>
    intro left held hour row fees acc g M e42 hTh hb hl hsub hh8 hh hF hacc hAC
    show ∃ g', fX11_tryRows_b N (fG_X11_tryRows N F) (left : Int) (held : Int) (hour : Int) (row : Int) (fees : Int) g = some g' ∧ _
    unfold fX11_tryRows_b
    rw [zw_id (show -2147483648 ≤ (left : Int) ∧ (left : Int) < 2147483648 by omega)]
    by_cases h0 : left = 0
    · subst h0
      have hc0 : cb 0 = 0 := by decide
      rw [if_pos (show ((0 : Nat) : Int) = 0 from rfl), bl_0, hc0, zlet_v, e42, show (hour : Int) - (T : Int) = ((hour - T : Nat) : Int) by omega, zw_m1]
      have ex : Option.map (shf (hour - T) (row * 10 ^ 0) fees) (some (0, 0, 0)) = some (hour - T, row, fees) := by
        show some (hour - T + 0, row * 10 ^ 0 + 0, fees + 0) = _
        rw [Nat.pow_zero, Nat.mul_one]
        rfl
      rw [ex]
      have wr : AC (some (hour - T, row, fees)) (zs (zs (zs g 14 41 ((hour - T : Nat) : Int)) 14 40 (row : Int)) 14 42 (fees : Int)) := by
        refine ⟨?_, ?_, zs_at⟩
        · rw [zs_ne (by decide), zs_ne (by decide), zs_at]
        · rw [zs_ne (by decide), zs_at]
      have F1 : FR [14] g (zs (zs (zs g 14 41 ((hour - T : Nat) : Int)) 14 40 (row : Int)) 14 42 (fees : Int)) := fun b hb => by
        have : b ≠ 14 := fun e => hb (by rw [e]; decide)
        rw [zs_row_ne this, zs_row_ne this, zs_row_ne this]
      have F2 : FS 14 [40, 41, 42] g (zs (zs (zs g 14 41 ((hour - T : Nat) : Int)) 14 40 (row : Int)) 14 42 (fees : Int)) := fun j hj => by
        rw [zs_ne (fun e => hj (by rw [e]; decide)), zs_ne (fun e => hj (by rw [e]; decide)), zs_ne (fun e => hj (by rw [e]; decide))]
      cases acc with
      | none =>
        rw [show g 14 41 = -1 from hAC, zw_m1, if_pos rfl]
        exact ⟨_, rfl, F1, F2, wr⟩
      | some x =>
        have hx := hacc x rfl
        obtain ⟨a1, a2, a3⟩ := id hAC
        rw [a1, zw_id (show -2147483648 ≤ (x.1 : Int) ∧ (x.1 : Int) < 2147483648 by omega), if_neg (by omega), zw_id (show -2147483648 ≤ ((hour - T : Nat) : Int) ∧ ((hour - T : Nat) : Int) < 2147483648 by omega)]
        show ∃ g', _ ∧ _ ∧ _ ∧ AC (if hour - T < x.1 then some (hour - T, row, fees) else some x) g'
        by_cases hc : hour - T < x.1
        · rw [if_neg (by omega), if_pos hc]
          exact ⟨_, rfl, F1, F2, wr⟩
        · rw [if_pos (by omega), if_neg hc]
          exact ⟨g, rfl, FR_rf, FS_rf, hAC⟩
    · rw [if_neg (by omega), bl_s hl h0]
      have hc1 : cb left ≠ 0 := fun e => h0 (cb_0 left hl e)
      refine zloopq (F := fun k i (s : zH) => fX11_tryRows_c54 N (fG_X11_tryRows N F) k (left : Int) (held : Int) (hour : Int) (row : Int) (fees : Int) i s) (n := nr) (s := g) (fun i s => FR [14] g s ∧ FS 14 [40, 41, 42] g s ∧ AC (comb acc ((cfold (bf t nr left (hour % 24)) i).map (shf (hour - T) (row * 10 ^ cb left) fees))) s) (fun b => ∃ g', b = some g' ∧ FR [14] g g' ∧ FS 14 [40, 41, 42] g g' ∧ AC (comb acc ((cfold (bf t nr left (hour % 24)) nr).map (shf (hour - T) (row * 10 ^ cb left) fees))) g') (fun k i s hi hI => ?_) (fun k s hI => ?_) (by omega) ⟨FR_rf, FS_rf, by show AC (comb acc none) g; rw [comb_none]; exact hAC⟩
      · obtain ⟨i1, i2, i3⟩ := hI
        have Ms : HM np nd nr t s := HM_to M ⟨i2 28 (by decide), i2 29 (by decide), i2 30 (by decide)⟩ (i1 63 (by decide)) (i1 64 (by decide)) (i1 65 (by decide)) (i1 66 (by decide))
        have hw := wm_lt V hi
        have hbw := bdiff_le (wm t i) held
        have e : fX11_tryRows_c54 N (fG_X11_tryRows N F) (k + 1) (left : Int) (held : Int) (hour : Int) (row : Int) (fees : Int) (i : Int) s = if left.testBit i = true then (if bdiff (wm t i) held = 0 then zb (fX11_hadBy N (i : Int) (hour : Int) s) (fun v5 => zb (fX11_deskOf (i : Int) s) fun v6 => if 0 ≤ zw ((4 * v6) + 3) ∧ zw ((4 * v6) + 3) < 16 then zb (fG_X11_tryRows N F (zand (left : Int) (zxor (zshl 1 (i : Int)) (-1))) (zor (held : Int) (zshl 1 (i : Int))) v5 ((10 * (row : Int)) + (i : Int)) ((fees : Int) + (s 65 (zw ((4 * v6) + 3)).toNat)) s) fun h8 => fX11_tryRows_c54 N (fG_X11_tryRows N F) k (left : Int) (held : Int) (hour : Int) (row : Int) (fees : Int) ((i + 1 : Nat) : Int) h8 else none) else fX11_tryRows_c54 N (fG_X11_tryRows N F) k (left : Int) (held : Int) (hour : Int) (row : Int) (fees : Int) ((i + 1 : Nat) : Int) s) else fX11_tryRows_c54 N (fG_X11_tryRows N F) k (left : Int) (held : Int) (hour : Int) (row : Int) (fees : Int) ((i + 1 : Nat) : Int) s := by
          show fX11_tryRows_c54b N (fG_X11_tryRows N F) (fX11_tryRows_c54 N (fG_X11_tryRows N F) k) _ _ _ _ _ _ _ = _
          unfold fX11_tryRows_c54b
          rw [Ms.1.2.2, zw_id (show -2147483648 ≤ (nr : Int) ∧ (nr : Int) < 2147483648 by omega), zw_id (show -2147483648 ≤ (i : Int) ∧ (i : Int) < 2147483648 by omega), if_neg (by omega), has_tab _ hl i (by omega), zq, mw V Ms (by omega) hi, zb_some, zandn_nat (by omega) (by omega), zw_id (show -2147483648 ≤ ((bdiff (wm t i) held : Nat) : Int) ∧ ((bdiff (wm t i) held : Nat) : Int) < 2147483648 by omega)]
          by_cases c1 : left.testBit i = true
          · rw [if_pos c1, if_pos c1]
            by_cases c2 : bdiff (wm t i) held = 0
            · rw [if_pos (by omega), if_pos c2]; rfl
            · rw [if_neg (by omega), if_neg c2]; rfl
          · rw [if_neg c1, if_neg c1]; rfl
        have ec : cfold (bf t nr left (hour % 24)) (i + 1) = comb (cfold (bf t nr left (hour % 24)) i) (bf t nr left (hour % 24) i) := rfl
        have no : ¬ nxt t left i = true → (comb acc ((cfold (bf t nr left (hour % 24)) (i + 1)).map (shf (hour - T) (row * 10 ^ cb left) fees))) = (comb acc ((cfold (bf t nr left (hour % 24)) i).map (shf (hour - T) (row * 10 ^ cb left) fees))) := by
          intro hn
          rw [ec, show bf t nr left (hour % 24) i = none from if_neg hn, comb_none]
        left
        by_cases hbit : left.testBit i = true
        · rw [if_pos hbit] at e
          have hiff := nxt_held V hL hI hsub hl hh hi hbit
          by_cases hz : bdiff (wm t i) held = 0
          · have hn : nxt t left i = true := by
              unfold nxt
              rw [hbit, decide_eq_true (hiff.mp hz)]
              rfl
            have hcb := cb_rm left hl i (by omega) hbit
            have p8 : 2 ^ i < 2 ^ 8 := Nat.pow_lt_pow_right (by decide) (by omega)
            have hdk := (V.2.2.2.2.2 i hi).1
            obtain ⟨p1, p2⟩ := spn_lt V hi (Nat.mod_lt hour (show 0 < 24 by decide))
            have e65 : s 65 (4 * t (96 + 4 * i) + 3) = t (67 + 4 * t (96 + 4 * i)) := (Ms.2.2.2.1 _ 3 hdk (by decide)).trans (by rw [show 64 + 4 * t (96 + 4 * i) + 3 = 67 + 4 * t (96 + 4 * i) by omega])
            rw [if_pos hz, hadM V Ms hN hi (by omega), zb_some, mdesk V Ms hi, zb_some, rmX hl (by omega), zshl_1 i (by omega), zor_nat (by omega) (by omega), show (4 * (t (96 + 4 * i) : Int)) + 3 = ((4 * t (96 + 4 * i) + 3 : Nat) : Int) by omega, zw_id (show -2147483648 ≤ ((4 * t (96 + 4 * i) + 3 : Nat) : Int) ∧ ((4 * t (96 + 4 * i) + 3 : Nat) : Int) < 2147483648 by omega), if_pos (by omega), Int.toNat_natCast, e65, show (10 * (row : Int)) + (i : Int) = ((10 * row + i : Nat) : Int) by omega, show (fees : Int) + (t (67 + 4 * t (96 + 4 * i)) : Int) = ((fees + fee t i : Nat) : Int) from rfl] at e
            have hor : held ||| 2 ^ i < 256 := Nat.or_lt_two_pow (n := 8) hh8 p8
            obtain ⟨g2, f1, f2, f3, f4⟩ := ih (rm left i) (held ||| 2 ^ i) (hour + spn t i (hour % 24)) (10 * row + i) (fees + fee t i) _ s Ms (by rw [i1 69 (by decide)]; exact e42) (by omega) (by omega) (rm_lt hl) (fun j hj => by
                have j8 := bit_lt (rm_lt hl) hj
                rw [rm_bit (by omega), Bool.and_eq_true] at hj
                exact hsub j hj.1) hor (fun j hj => by
                rw [Nat.testBit_or, Nat.testBit_two_pow, hh j hj, rm_bit (by omega)]
                by_cases hij : i = j
                · subst hij
                  rw [decide_eq_true rfl, hsub i hbit, Bool.or_true, Bool.not_true, Bool.and_false, Bool.not_false, Bool.and_true, Bool.or_true]
                · rw [decide_eq_false hij, Bool.or_false, Bool.not_false, Bool.and_true]) (by omega) (fun x hx => by
                rcases comb_some hx with h1 | h1
                · exact hacc x h1
                · cases hcf : cfold (bf t nr left (hour % 24)) i with
                  | none => rw [hcf] at h1; cases h1
                  | some z =>
                    rw [hcf] at h1
                    have hxz := Option.some.inj h1
                    obtain ⟨j, hj, ej⟩ := cfold_some hcf
                    obtain ⟨hnj, y, hy, rfl⟩ := bf_some ej
                    have q1 := (bl_lt V _ (rm_lt hl) _ (Nat.mod_lt _ (by decide)) y hy).1
                    have q2 := cb_le (rm left j)
                    have q3 := spn_lt V (show j < nr by omega) (Nat.mod_lt hour (show 0 < 24 by decide))
                    rw [← hxz]
                    show hour - T + (spn t j (hour % 24) + y.1) < 100000
                    omega) i3
            rw [f1, zb_some] at e
            refine ⟨g2, e, FR_tr i1 f2, FS_tr i2 f3, ?_⟩
            rw [ec, comb_shf, ← comb_assoc]
            have : (bf t nr left (hour % 24) i).map (shf (hour - T) (row * 10 ^ cb left) fees) = (bl t nr 8 (rm left i) ((hour + spn t i (hour % 24)) % 24)).map (shf (hour + spn t i (hour % 24) - T) ((10 * row + i) * 10 ^ cb (rm left i)) (fees + fee t i)) := by
              unfold bf
              rw [if_pos hn, shf_shf, show (hour % 24 + spn t i (hour % 24)) % 24 = (hour + spn t i (hour % 24)) % 24 by omega, show hour - T + spn t i (hour % 24) = hour + spn t i (hour % 24) - T by omega]
              obtain ⟨c, hcc⟩ : ∃ c, cb left = c + 1 := ⟨cb left - 1, by omega⟩
              rw [show cb (rm left i) = c by omega, hcc, show c + 1 - 1 = c by omega, Nat.pow_succ, Nat.add_mul, Nat.mul_comm (10 ^ c) 10, ← Nat.mul_assoc, Nat.mul_comm row 10]
            rw [this]
            exact f4
          · rw [if_neg hz] at e
            have hn : ¬ nxt t left i = true := fun hn => hz (hiff.mpr (of_decide_eq_true (Bool.and_eq_true_iff.mp hn).2))
            refine ⟨s, e, i1, i2, ?_⟩
            rw [no hn]; exact i3
        · rw [if_neg hbit] at e
          refine ⟨s, e, i1, i2, ?_⟩
          rw [no (fun hn => hbit (nxt_bit hn))]; exact i3
      · obtain ⟨i1, i2, i3⟩ := hI
        refine ⟨s, ?_, i1, i2, i3⟩
        show fX11_tryRows_c54b N (fG_X11_tryRows N F) (fX11_tryRows_c54 N (fG_X11_tryRows N F) k) _ _ _ _ _ _ _ = _
        unfold fX11_tryRows_c54b
        rw [i2 30 (by decide), M.1.2.2, if_pos (by omega)]
