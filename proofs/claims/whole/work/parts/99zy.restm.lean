/-! rows that rest, the reference's -/
def rstP (np : Nat) (t : Nat → Nat) (ch : Nat → Int) (p v : Nat) : Bool := (List.range v).all (fun v => !((fmk t np).testBit v && betB np t ch p v))
theorem all_s (P : Nat → Bool) (v : Nat) : (List.range (v + 1)).all P = ((List.range v).all P && P v) := by
  rw [List.range_succ, List.all_append]; simp
theorem rstP_s {np : Nat} {t : Nat → Nat} {ch : Nat → Int} {p v : Nat} : rstP np t ch p (v + 1) = (rstP np t ch p v && !((fmk t np).testBit v && betB np t ch p v)) := all_s _ _
def rstA (np nr : Nat) (t : Nat → Nat) (ch : Nat → Int) (i : Nat) : Bool := (List.range i).all (fun p => rstP np t ch p nr)
theorem rstA_s {np nr : Nat} {t : Nat → Nat} {ch : Nat → Int} {i : Nat} : rstA np nr t ch (i + 1) = (rstA np nr t ch i && rstP np t ch i nr) := all_s _ _
theorem rstB_A {np nr : Nat} {t : Nat → Nat} {ch : Nat → Int} : rstB np nr t ch = rstA np nr t ch np := rfl
theorem HM_72 {np nd nr : Nat} {t : Nat → Nat} {h g : zH} (H : HM np nd nr t h) (F : FR [72] h g) : HM np nd nr t g := HM_to H (by rw [F 14 (by decide)]; exact ⟨rfl, rfl, rfl⟩) (F 63 (by decide)) (F 64 (by decide)) (F 65 (by decide)) (F 66 (by decide))
theorem FR_zs {L : List Nat} {h g : zH} {o j : Nat} {x : Int} (F : FR L h g) (ho : o ∈ L) : FR L h (zs g o j x) := fun b hb => (zs_row_ne (fun e => hb (by rw [e]; exact ho))).trans (F b hb)
theorem bI_0 {a : Bool} : zw (bI a) = 0 ↔ a = false := by cases a <;> decide
theorem zw_n9 {v : Nat} (h : v < 1000000000) : zw (v : Int) = (v : Int) := zw_id (by omega)
theorem inRM {np nd nr : Nat} {t : Nat → Nat} {g : zH} (V : HV np nd nr t) (M : HM np nd nr t g) {N : Nat} (hN : 300 ≤ N) {ch : Nat → Int} (hch : ∀ o, o < np → 0 ≤ ch o ∧ ch o < 1000) {p : Nat} (hp : p < np) (a0 : ∀ q, q < np → g 72 q = ch q) (K2 : Int → zH → Option (Int × zH)) : ∃ g', FR [72] g g' ∧ (∀ q, q < np → g' 72 q = ch q) ∧ fX11_isRest_c29 N K2 N (p : Int) (por np t ch p : Int) (ch p) 1 0 g = if rstP np t ch p nr = true then K2 ((p : Int) + 1) g' else some (0, g') := by
  have vv := V.1
  have hcp := hch p hp
  refine zloopq (F := fun m v (s : Bool × zH) => fX11_isRest_c29 N K2 m (p : Int) (por np t ch p : Int) (ch p) (bI s.1) v s.2) (n := nr) (s := (true, g)) (fun v s => s.1 = rstP np t ch p v ∧ FR [72] g s.2 ∧ ∀ q, q < np → q ≠ p → s.2 72 q = ch q) (fun r => ∃ g', FR [72] g g' ∧ (∀ q, q < np → g' 72 q = ch q) ∧ r = if rstP np t ch p nr = true then K2 ((p : Int) + 1) g' else some (0, g')) (fun m v s hv hI => ?_) (fun m s hI => ?_) (show nr < N by omega) ⟨rfl, FR_rf, fun q hq _ => a0 q hq⟩
  · obtain ⟨a, gg⟩ := s
    obtain ⟨ha, hF, hq⟩ := hI
    have ha : a = rstP np t ch p v := ha
    have hF : FR [72] g gg := hF
    have hq : ∀ q, q < np → q ≠ p → gg 72 q = ch q := hq
    have M' := HM_72 M hF
    left
    have pl := por_le V (ch := ch) hp
    show ∃ s', fX11_isRest_c29b N K2 (fX11_isRest_c29 N K2 m) (p : Int) (por np t ch p : Int) (ch p) (bI a) (v : Int) gg = _ ∧ _
    unfold fX11_isRest_c29b
    rw [M'.1.2.2, zw_n9 (show nr < 1000000000 by omega), zw_n9 (show v < 1000000000 by omega), if_neg (by omega), isFoM V M' (by omega) (show v < 10 by omega), zb_some]
    by_cases c : (fmk t np).testBit v = true
    · rw [if_pos c, if_neg (show ¬ zw 1 = 0 by decide), zw_n9 (show p < 1000000000 by omega), if_pos (show 0 ≤ (p : Int) ∧ (p : Int) < 6 by omega), Int.toNat_natCast, zlet_v]
      have h8F : FR [72] g (zs gg 72 p (v : Int)) := FR_zs hF (by decide)
      have h8q : ∀ q, q < np → q ≠ p → (zs gg 72 p (v : Int)) 72 q = ch q := fun q hq1 hq2 => by rw [zs_ne hq2]; exact hq q hq1 hq2
      by_cases d : a = false
      · rw [if_pos (bI_0.mpr d)]
        refine ⟨(rstP np t ch p (v + 1), zs gg 72 p (v : Int)), ?_, rfl, h8F, h8q⟩
        rw [rstP_s, ← ha, d]; rfl
      · have d' : a = true := by cases a <;> simp_all
        rw [if_neg (fun e => d (bI_0.mp e)), chosenM V (HM_72 M h8F) (by omega) (ch := fun q => if q = p then (v : Int) else ch q) (fun o ho => ?_) hp, zb_some]
        · refine ⟨(rstP np t ch p (v + 1), zs gg 72 p (v : Int)), ?_, rfl, h8F, h8q⟩
          have pl2 := por_le V (ch := fun q => if q = p then (v : Int) else ch q) hp
          rw [zw_n9 (by omega), zw_n9 (by omega), rstP_s, ← ha, d', c, Bool.true_and, Bool.true_and]
          unfold betB
          by_cases e : por np t ch p < por np t (fun q => if q = p then (v : Int) else ch q) p
          · rw [if_pos (by omega), decide_eq_true e]; rfl
          · rw [if_neg (by omega), decide_eq_false e]; rfl
        · by_cases e : o = p
          · rw [e, zs_at]
            show (v : Int) = (if p = p then (v : Int) else ch p) ∧ 0 ≤ (if p = p then (v : Int) else ch p) ∧ (if p = p then (v : Int) else ch p) < 1000
            rw [if_pos rfl]; omega
          · have := hch o ho
            rw [zs_ne e, hq o ho e]
            show ch o = (if o = p then (v : Int) else ch o) ∧ 0 ≤ (if o = p then (v : Int) else ch o) ∧ (if o = p then (v : Int) else ch o) < 1000
            rw [if_neg e]; omega
    · have c' : (fmk t np).testBit v = false := Bool.eq_false_iff.mpr c
      rw [if_neg c, if_pos zw_0]
      refine ⟨(a, gg), rfl, ?_, hF, hq⟩
      show a = _
      rw [rstP_s, c', ha]; simp
  · obtain ⟨a, gg⟩ := s
    obtain ⟨ha, hF, hq⟩ := hI
    have ha : a = rstP np t ch p nr := ha
    have hF : FR [72] g gg := hF
    have hq : ∀ q, q < np → q ≠ p → gg 72 q = ch q := hq
    have M' := HM_72 M hF
    show ∃ g', _ ∧ _ ∧ fX11_isRest_c29b N K2 (fX11_isRest_c29 N K2 m) (p : Int) (por np t ch p : Int) (ch p) (bI a) (nr : Int) gg = _
    unfold fX11_isRest_c29b
    rw [M'.1.2.2, if_pos (Int.le_refl _), zw_n9 (show p < 1000000000 by omega), if_pos (show 0 ≤ (p : Int) ∧ (p : Int) < 6 by omega), Int.toNat_natCast, zlet_v]
    refine ⟨zs gg 72 p (ch p), FR_zs hF (by decide), fun q hq1 => ?_, ?_⟩
    · by_cases e : q = p
      · rw [e, zs_at]
      · rw [zs_ne e]; exact hq q hq1 e
    · rw [← ha]
      by_cases d : a = false
      · rw [if_pos (bI_0.mpr d), if_neg (by rw [d]; decide)]
      · rw [if_neg (fun e => d (bI_0.mp e)), if_pos (by cases a <;> simp_all)]
theorem isRM {np nd nr : Nat} {t : Nat → Nat} {g : zH} (V : HV np nd nr t) (M : HM np nd nr t g) {N : Nat} (hN : 300 ≤ N) {ch : Nat → Int} (hch : ∀ o, o < np → 0 ≤ ch o ∧ ch o < 1000) (a0 : ∀ q, q < np → g 72 q = ch q) : ∃ g', FR [72] g g' ∧ fX11_isRest N g = some (if rstB np nr t ch = true then 1 else 0, g') := by
  have vv := V.1
  rw [rstB_A]
  refine zloopq (F := fun m p (s : zH) => fX11_isRest_c2 N m p s) (n := np) (s := g) (fun p s => rstA np nr t ch p = true ∧ FR [72] g s ∧ ∀ q, q < np → s 72 q = ch q) (fun r => ∃ g', FR [72] g g' ∧ r = some (if rstA np nr t ch np = true then 1 else 0, g')) (fun m p s hp hI => ?_) (fun m s hI => ?_) (show np < N by omega) ⟨rfl, FR_rf, a0⟩
  · obtain ⟨h1, hF, hq⟩ := hI
    have M' := HM_72 M hF
    obtain ⟨g', e1, e2, e3⟩ := inRM V M' hN hch hp hq (fX11_isRest_c2 N m)
    have E : fX11_isRest_c2 N (m + 1) (p : Int) s = if rstP np t ch p nr = true then fX11_isRest_c2 N m ((p : Int) + 1) g' else some (0, g') := by
      show fX11_isRest_c2b N (fX11_isRest_c2 N m) (p : Int) s = _
      unfold fX11_isRest_c2b
      rw [M'.1.1, zw_n9 (show np < 1000000000 by omega), zw_n9 (show p < 1000000000 by omega), if_neg (by omega), chosenM V M' (by omega) (ch := ch) (fun o ho => ⟨hq o ho, hch o ho⟩) hp, zb_some, if_pos (show 0 ≤ (p : Int) ∧ (p : Int) < 6 by omega), Int.toNat_natCast, zlet_v, hq p hp, e3]
    by_cases c : rstP np t ch p nr = true
    · left
      refine ⟨g', ?_, ?_, FR_tr hF e1, e2⟩
      · show fX11_isRest_c2 N (m + 1) (p : Int) s = _
        rw [E, if_pos c]; rfl
      · rw [rstA_s, h1, c]; rfl
    · right
      refine ⟨g', FR_tr hF e1, ?_⟩
      show fX11_isRest_c2 N (m + 1) (p : Int) s = _
      rw [E, if_neg c, if_neg]
      intro h
      apply c
      exact List.all_eq_true.mp h p (List.mem_range.mpr hp)
  · obtain ⟨h1, hF, hq⟩ := hI
    have M' := HM_72 M hF
    refine ⟨s, hF, ?_⟩
    show fX11_isRest_c2b N (fX11_isRest_c2 N m) (np : Int) s = _
    unfold fX11_isRest_c2b
    rw [M'.1.1, if_pos (Int.le_refl _), if_pos h1]
/-! the i-th of those that hold -/
def fl (P : Nat → Bool) (x : Nat) : List Nat := (List.range x).filter P
theorem fl_s (P : Nat → Bool) (x : Nat) : fl P (x + 1) = fl P x ++ (if P x = true then [x] else []) := by
  unfold fl
  rw [List.range_succ, List.filter_append]
  by_cases h : P x = true
  · rw [if_pos h, List.filter_cons_of_pos h]; rfl
  · rw [if_neg h, List.filter_cons_of_neg h]; rfl
theorem fl_get {P : Nat → Bool} {x : Nat} (hx : P x = true) (n : Nat) : x < n → (fl P x).length < (fl P n).length ∧ (fl P n).getD (fl P x).length 0 = x := by
  induction n with
  | zero => intro h; omega
  | succ n ih =>
    intro h
    rw [fl_s]
    by_cases e : x = n
    · subst e
      rw [if_pos hx, List.length_append]
      refine ⟨by show _ < _ + 1; omega, ?_⟩
      rw [List.getD_eq_getElem?_getD, List.getElem?_append_right (Nat.le_refl _), Nat.sub_self]; rfl
    · obtain ⟨a, b⟩ := ih (by omega)
      refine ⟨by rw [List.length_append]; omega, ?_⟩
      rw [List.getD_eq_getElem?_getD, List.getElem?_append_left a, ← List.getD_eq_getElem?_getD, b]
/-- what rests answers -/
def restsV (np nr : Nat) (t : Nat → Nat) (i : Int) : Int := if np ≤ 5 then (if np = 0 then -1 else if i = -1 then ((rstL np nr t).length : Int) else if 0 ≤ i ∧ i < (rstL np nr t).length then ((rstL np nr t).getD i.toNat 0 : Nat) else -1) else -1000000
theorem restsM {np nd nr : Nat} {t : Nat → Nat} {g : zH} (V : HV np nd nr t) (M : HM np nd nr t g) {N : Nat} (hN : 200000 ≤ N) {i : Int} (hi : zw i = i) : ∃ g', fX11_rests N i g = some (restsV np nr t i, g') ∧ FR [72] g g' := by
  have vv := V.1
  unfold fX11_rests restsV
  rw [M.1.1, zw_n9 (show np < 1000000000 by omega), show zw 5 = 5 by decide]
  by_cases c5 : np ≤ 5
  · rw [if_pos (by omega), if_pos c5]
    by_cases c0 : np = 0
    · rw [if_pos (by omega), if_pos c0]
      exact ⟨g, rfl, FR_rf⟩
    · rw [if_neg (by omega), if_neg c0, show zw (-1) = -1 by decide, hi]
      by_cases ci : -1 ≤ i
      · rw [if_pos ci]
        have eL : rstL np nr t = fl (fun x => vR (fmk t np) np x && rstB np nr t (fun p => (chR np x p : Int))) (10 ^ np) := rfl
        rw [eL]
        generalize hP : (fun x => vR (fmk t np) np x && rstB np nr t (fun p => (chR np x p : Int))) = P
        have t10 := ten10_b (show np ≤ 6 by omega)
        have t10' : 10 ^ np ≤ 100000 := by
          have := Nat.pow_le_pow_right (show 0 < 10 by decide) c5
          omega
        have key : ∃ (r : Int) (g' : zH), FR [72] g g' ∧ fX11_rests_c30 N N i 0 0 g = some (r, g') ∧ r = if i = -1 then ((fl P (10 ^ np)).length : Int) else if 0 ≤ i ∧ i < (fl P (10 ^ np)).length then ((fl P (10 ^ np)).getD i.toNat 0 : Nat) else -1 := by
          refine zloopq (F := fun m x (s : Nat × zH) => fX11_rests_c30 N m i (s.1 : Int) x s.2) (n := 10 ^ np) (s := (0, g)) (fun x s => s.1 = (fl P x).length ∧ s.1 ≤ x ∧ (i = -1 ∨ (s.1 : Int) ≤ i) ∧ FR [72] g s.2) (fun r => ∃ (q : Int) (g' : zH), FR [72] g g' ∧ r = some (q, g') ∧ q = if i = -1 then ((fl P (10 ^ np)).length : Int) else if 0 ≤ i ∧ i < (fl P (10 ^ np)).length then ((fl P (10 ^ np)).getD i.toNat 0 : Nat) else -1) (fun m x s hx hI => ?_) (fun m s hI => ?_) (show 10 ^ np < N by omega) ⟨rfl, Nat.le_refl _, by show i = -1 ∨ (0 : Int) ≤ i; omega, FR_rf⟩
          · obtain ⟨k, gg⟩ := s
            obtain ⟨hk, hkx, hki, hF⟩ := hI
            have hk : k = (fl P x).length := hk
            have hkx : k ≤ x := hkx
            have hki : i = -1 ∨ (k : Int) ≤ i := hki
            have hF : FR [72] g gg := hF
            have M' := HM_72 M hF
            obtain ⟨h4, l1, l2, l3⟩ := layRM V M' (N := N) (by omega) (x := x) (by omega)
            have E : fX11_rests_c30 N (m + 1) i (k : Int) (x : Int) gg = z2 (fX11_layRow N (x : Int) gg) fun v5 h4 => if zw v5 = 0 then fX11_rests_c30 N m i (k : Int) ((x : Int) + 1) h4 else z2 (fX11_isRest N h4) fun v8 h7 => if zw v8 = 0 then fX11_rests_c30 N m i (k : Int) ((x : Int) + 1) h7 else if (k : Int) = i then some ((x : Int), h7) else fX11_rests_c30 N m i ((k : Int) + 1) ((x : Int) + 1) h7 := by
              show fX11_rests_c30b N (fX11_rests_c30 N m) i (k : Int) (x : Int) gg = _
              unfold fX11_rests_c30b
              rw [M'.1.1, ten10M (by omega) (by omega), zb_some, zw_n9 (show 10 ^ np < 1000000000 by omega), zw_n9 (show x < 1000000000 by omega), if_neg (by omega), zw_n9 (show k < 1000000000 by omega), hi]
            by_cases cv : vR (fmk t np) np x = true
            · rw [if_pos cv] at l1
              obtain ⟨h7, r1, r2⟩ := isRM V (HM_72 M' l2) (N := N) (by omega) (ch := fun p => (chR np x p : Int)) (fun o ho => ⟨by omega, by have := chR_10 np x o; omega⟩) (fun q hq => l3 cv q hq)
              have F7 : FR [72] g h7 := FR_tr hF (FR_tr l2 r1)
              by_cases cr : rstB np nr t (fun p => (chR np x p : Int)) = true
              · rw [if_pos cr] at r2
                have hPx : P x = true := by rw [← hP]; show (vR (fmk t np) np x && rstB np nr t (fun p => (chR np x p : Int))) = true; rw [cv, cr]; rfl
                by_cases ck : (k : Int) = i
                · right
                  obtain ⟨b1, b2⟩ := fl_get hPx _ hx
                  refine ⟨(x : Int), h7, F7, ?_, ?_⟩
                  · show fX11_rests_c30 N (m + 1) i (k : Int) (x : Int) gg = _
                    rw [E, l1, z2_some, if_neg (show ¬ zw 1 = 0 by decide), r2, z2_some, if_neg (show ¬ zw 1 = 0 by decide), if_pos ck]
                  · rw [if_neg (by omega), if_pos (by omega), ← ck, Int.toNat_natCast, hk, b2]
                · left
                  refine ⟨(k + 1, h7), ?_, ?_, ?_, ?_, F7⟩
                  · show fX11_rests_c30 N (m + 1) i (k : Int) (x : Int) gg = _
                    rw [E, l1, z2_some, if_neg (show ¬ zw 1 = 0 by decide), r2, z2_some, if_neg (show ¬ zw 1 = 0 by decide), if_neg ck]; rfl
                  · show k + 1 = _
                    rw [fl_s, if_pos hPx, List.length_append, hk]; rfl
                  · show k + 1 ≤ x + 1
                    omega
                  · show i = -1 ∨ ((k + 1 : Nat) : Int) ≤ i
                    omega
              · rw [if_neg cr] at r2
                have hPx : ¬ P x = true := by rw [← hP]; show ¬ (vR (fmk t np) np x && rstB np nr t (fun p => (chR np x p : Int))) = true; simp [cr]
                left
                refine ⟨(k, h7), ?_, ?_, ?_, hki, F7⟩
                · show fX11_rests_c30 N (m + 1) i (k : Int) (x : Int) gg = _
                  rw [E, l1, z2_some, if_neg (show ¬ zw 1 = 0 by decide), r2, z2_some, if_pos zw_0]; rfl
                · show k = _
                  rw [fl_s, if_neg hPx, List.append_nil, hk]
                · show k ≤ x + 1
                  omega
            · rw [if_neg cv] at l1
              have hPx : ¬ P x = true := by rw [← hP]; show ¬ (vR (fmk t np) np x && rstB np nr t (fun p => (chR np x p : Int))) = true; simp [cv]
              left
              refine ⟨(k, h4), ?_, ?_, ?_, hki, FR_tr hF l2⟩
              · show fX11_rests_c30 N (m + 1) i (k : Int) (x : Int) gg = _
                rw [E, l1, z2_some, if_pos zw_0]; rfl
              · show k = _
                rw [fl_s, if_neg hPx, List.append_nil, hk]
              · show k ≤ x + 1
                omega
          · obtain ⟨k, gg⟩ := s
            obtain ⟨hk, hkx, hki, hF⟩ := hI
            have hk : k = (fl P (10 ^ np)).length := hk
            have hki : i = -1 ∨ (k : Int) ≤ i := hki
            have hF : FR [72] g gg := hF
            have M' := HM_72 M hF
            refine ⟨_, gg, hF, ?_, rfl⟩
            show fX11_rests_c30b N (fX11_rests_c30 N m) i (k : Int) ((10 ^ np : Nat) : Int) gg = _
            unfold fX11_rests_c30b
            rw [M'.1.1, ten10M (by omega) (by omega), zb_some, if_pos (Int.le_refl _), hi, show zw (-1) = -1 by decide]
            by_cases c1 : i = -1
            · rw [if_pos c1, if_pos c1, hk]
            · rw [if_neg c1, if_neg c1, if_neg (by omega)]
        obtain ⟨r, g', k1, k2, k3⟩ := key
        exact ⟨g', by rw [k2, k3], k1⟩
      · rw [if_neg ci, if_neg (by omega), if_neg (by omega)]
        exact ⟨g, rfl, FR_rf⟩
  · rw [if_neg (by omega), if_neg c5]
    exact ⟨g, rfl, FR_rf⟩
