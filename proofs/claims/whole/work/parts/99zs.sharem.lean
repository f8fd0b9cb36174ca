/-! shares by a row, the reference's -/
/-- the signs laid for a row that may be none -/
def lay (f np x : Nat) (p : Nat) : Nat := if vA f np x p = true then chR np x p else 0
theorem c54M {np nd nr : Nat} {t : Nat → Nat} {g : zH} (V : HV np nd nr t) (M : HM np nd nr t g) {N F : Nat} (hN : 20 ≤ N) {x i v : Nat} (hi : i < np) (hx : x < 2147483648) (hv : v < 10) (a : Bool) : fX11_layRow_c54 N (fX11_layRow_c17 N F) (x : Int) (bI a) (i : Int) (v : Int) (i : Int) g = fX11_layRow_c17 N F (x : Int) (bI (a && (fmk t np).testBit v)) ((i + 1 : Nat) : Int) (zs g 72 i (v : Int)) := by
  have vv := V.1
  have M' : HM np nd nr t (zs g 72 i (v : Int)) := HM_to M ⟨by rw [zs_row_ne (by decide)], by rw [zs_row_ne (by decide)], by rw [zs_row_ne (by decide)]⟩ (zs_row_ne (by decide)) (zs_row_ne (by decide)) (zs_row_ne (by decide)) (zs_row_ne (by decide))
  unfold fX11_layRow_c54
  rw [zw_id (show -2147483648 ≤ (i : Int) ∧ (i : Int) < 2147483648 by omega), if_pos (by omega), Int.toNat_natCast, zlet_v, zwB]
  cases a with
  | false =>
    rw [if_pos (show bI false = 0 from rfl), Bool.false_and]
    rfl
  | true =>
    rw [if_neg (show ¬ bI true = 0 by decide), if_pos (by omega), zs_at, isFoM V M' hN hv, zb_some, Bool.true_and]
    by_cases c : (fmk t np).testBit v = true
    · rw [c, if_pos rfl, if_neg (show ¬ zw 1 = 0 by decide)]
      rfl
    · have c' : (fmk t np).testBit v = false := Bool.eq_false_iff.mpr c
      rw [c', if_neg (show ¬ false = true by decide), if_pos zw_0]
      rfl
theorem layRM {np nd nr : Nat} {t : Nat → Nat} {g : zH} (V : HV np nd nr t) (M : HM np nd nr t g) {N : Nat} (hN : 20 ≤ N) {x : Nat} (hx : x < 2147483648) : ∃ g', fX11_layRow N (x : Int) g = some (if vR (fmk t np) np x = true then 1 else 0, g') ∧ FR [72] g g' ∧ (vR (fmk t np) np x = true → ∀ p, p < np → g' 72 p = (chR np x p : Int)) := by
  have vv := V.1
  have tb := ten10_b (k := np) (by omega)
  unfold fX11_layRow
  rw [M.1.1, ten10M hN (by omega), zb_some, zlet_v]
  have e0 : fX11_in (x : Int) 0 (((10 ^ np : Nat) : Int) - 1) = bI (vA (fmk t np) np x 0) := by
    rw [in_eq (zw_id (by omega)) zw_0 (zw_id (by omega))]
    unfold vA bI
    by_cases c : x < 10 ^ np
    · rw [if_pos (by omega), if_pos (decide_eq_true c)]
    · rw [if_neg (by omega), if_neg (by simp; omega)]
  rw [e0]
  refine zloopq (F := fun m i (s : Bool × zH) => fX11_layRow_c17 N m (x : Int) (bI s.1) i s.2) (n := np) (s := (vA (fmk t np) np x 0, g)) (fun i s => s.1 = vA (fmk t np) np x i ∧ FR [72] g s.2 ∧ ∀ p, p < i → s.2 72 p = (lay (fmk t np) np x p : Int)) (fun r => ∃ g', r = some (if vR (fmk t np) np x = true then 1 else 0, g') ∧ FR [72] g g' ∧ (vR (fmk t np) np x = true → ∀ p, p < np → g' 72 p = (chR np x p : Int))) (fun m i s hi hI => ?_) (fun m s hI => ?_) (show np < N by omega) ⟨rfl, FR_rf, fun p hp => absurd hp (by omega)⟩
  · obtain ⟨a, s⟩ := s
    obtain ⟨e1, F1, C1⟩ := hI
    have e1 : a = vA (fmk t np) np x i := e1
    have F1 : FR [72] g s := F1
    have Ms : HM np nd nr t s := HM_to M ⟨by rw [F1 14 (by decide)], by rw [F1 14 (by decide)], by rw [F1 14 (by decide)]⟩ (F1 63 (by decide)) (F1 64 (by decide)) (F1 65 (by decide)) (F1 66 (by decide))
    left
    refine ⟨(vA (fmk t np) np x (i + 1), zs s 72 i (lay (fmk t np) np x i : Int)), ?_, rfl, FR_tr F1 (fun b hb => zs_row_ne (fun e => hb (by rw [e]; decide))), fun p hp => ?_⟩
    · show fX11_layRow_c17b N (fX11_layRow_c17 N m) (x : Int) (bI a) (i : Int) s = _
      unfold fX11_layRow_c17b
      rw [Ms.1.1, zw_id (show -2147483648 ≤ (np : Int) ∧ (np : Int) < 2147483648 by omega), zw_id (show -2147483648 ≤ (i : Int) ∧ (i : Int) < 2147483648 by omega), if_neg (by omega), zwB]
      have vAs : vA (fmk t np) np x (i + 1) = (vA (fmk t np) np x i && (fmk t np).testBit (chR np x i)) := rfl
      cases ha : a with
      | false =>
        rw [if_pos (show bI false = 0 from rfl)]
        have := c54M V Ms (F := m) hN (v := 0) hi hx (by decide) false
        have this : fX11_layRow_c54 N (fX11_layRow_c17 N m) (x : Int) (bI false) (i : Int) 0 (i : Int) s = _ := this
        rw [this, vAs, ← e1, ha, Bool.false_and, Bool.false_and]
        unfold lay
        rw [← e1, ha, if_neg (show ¬ false = true by decide)]
      | true =>
        rw [if_neg (show ¬ bI true = 0 by decide), show ((np : Int) - 1) - (i : Int) = ((np - 1 - i : Nat) : Int) by omega, ten10M hN (by omega), zb_some]
        have tb2 := ten10_b (k := np - 1 - i) (by omega)
        rw [zw_id (show -2147483648 ≤ ((10 ^ (np - 1 - i) : Nat) : Int) ∧ ((10 ^ (np - 1 - i) : Nat) : Int) < 2147483648 by omega), if_pos (by omega)]
        have r1 : zdiv (x : Int) ((10 ^ (np - 1 - i) : Nat) : Int) = ((x / 10 ^ (np - 1 - i) : Nat) : Int) := by
          rw [zdiv_pos (by omega) (by omega) (by omega) (by omega)]
          exact (Int.natCast_ediv x (10 ^ (np - 1 - i))).symm
        have dl : x / 10 ^ (np - 1 - i) ≤ x := Nat.div_le_self _ _
        have r2 : zrem ((x / 10 ^ (np - 1 - i) : Nat) : Int) 10 = ((x / 10 ^ (np - 1 - i) % 10 : Nat) : Int) := by
          obtain ⟨w, ew⟩ : ∃ w, w = x / 10 ^ (np - 1 - i) := ⟨_, rfl⟩
          rw [← ew] at dl ⊢
          rw [zrem_pos (by omega) (by omega) (by decide) (by decide)]; omega
        rw [r1, r2, ← chR_v np x i hi]
        have := c54M V Ms (F := m) hN (v := chR np x i) hi hx (chR_10 np x i) true
        rw [this, vAs, ← e1, ha]
        unfold lay
        rw [← e1, ha, if_pos rfl]
    · by_cases e : p = i
      · rw [e]
        show zs s 72 i (lay (fmk t np) np x i : Int) 72 i = _
        exact zs_at
      · show zs s 72 i (lay (fmk t np) np x i : Int) 72 p = _
        rw [zs_ne e]; exact C1 p (by omega)
  · obtain ⟨a, s⟩ := s
    obtain ⟨e1, F1, C1⟩ := hI
    have e1 : a = vA (fmk t np) np x np := e1
    have F1 : FR [72] g s := F1
    refine ⟨s, ?_, F1, fun hv p hp => ?_⟩
    · show fX11_layRow_c17b N (fX11_layRow_c17 N m) (x : Int) (bI a) (np : Int) s = _
      unfold fX11_layRow_c17b
      rw [F1 14 (by decide), M.1.1, if_pos (Int.le_refl _), if_pos (bI01 a), e1, vA_R]
      rfl
    · have this : s 72 p = (lay (fmk t np) np x p : Int) := C1 p hp
      rw [this]
      have hva : vA (fmk t np) np x p = true := by
        rw [← vA_R] at hv
        obtain ⟨w1, w2⟩ := (vA_t np).mp hv
        exact (vA_t p).mpr ⟨w1, fun q hq => w2 q (by omega)⟩
      unfold lay
      rw [if_pos hva]
theorem chosenM {np nd nr : Nat} {t : Nat → Nat} {g : zH} (V : HV np nd nr t) (M : HM np nd nr t g) {N : Nat} (hN : 20 ≤ N) {ch : Nat → Int} (hc : ∀ o, o < np → g 72 o = ch o ∧ 0 ≤ ch o ∧ ch o < 1000) {p : Nat} (hp : p < np) : fX11_chosenHours N (p : Int) g = some (por np t ch p : Int) := by
  have vv := V.1
  refine zloopq (F := fun m i (s : Nat × Nat) => fX11_chosenHours_c7 N g m (p : Int) (s.1 : Int) (s.2 : Int) i) (n := np) (s := (0, 0)) (fun i s => s.1 = cntE ch (ch p) i ∧ s.2 = cntL ch (ch p) p i) (fun r => r = some (por np t ch p : Int)) (fun m i s hi hI => ?_) (fun m s hI => ?_) (show np < N by omega) ⟨rfl, rfl⟩
  · obtain ⟨a, l⟩ := s
    obtain ⟨e1, e2⟩ := hI
    have e1 : a = cntE ch (ch p) i := e1
    have e2 : l = cntL ch (ch p) p i := e2
    obtain ⟨c1, c2, c3⟩ := hc i hi
    obtain ⟨d1, d2, d3⟩ := hc p hp
    left
    refine ⟨(cntE ch (ch p) (i + 1), cntL ch (ch p) p (i + 1)), ?_, rfl, rfl⟩
    show fX11_chosenHours_c7b N g (fX11_chosenHours_c7 N g m) (p : Int) (a : Int) (l : Int) (i : Int) = fX11_chosenHours_c7 N g m (p : Int) ((cntE ch (ch p) (i + 1) : Nat) : Int) ((cntL ch (ch p) p (i + 1) : Nat) : Int) _
    unfold fX11_chosenHours_c7b fX11_chosenHours_c38
    rw [M.1.1, zw_id (show -2147483648 ≤ (np : Int) ∧ (np : Int) < 2147483648 by omega), zw_id (show -2147483648 ≤ (i : Int) ∧ (i : Int) < 2147483648 by omega), zw_id (show -2147483648 ≤ (p : Int) ∧ (p : Int) < 2147483648 by omega), if_neg (by omega), if_pos (show 0 ≤ (i : Int) ∧ (i : Int) < 6 by omega), if_pos (show 0 ≤ (p : Int) ∧ (p : Int) < 6 by omega), Int.toNat_natCast, Int.toNat_natCast, c1, d1, zw_id (show -2147483648 ≤ ch i ∧ ch i < 2147483648 by omega), zw_id (show -2147483648 ≤ ch p ∧ ch p < 2147483648 by omega), cntE_s, cntL_s, ← e1, ← e2]
    by_cases c : ch i = ch p
    · rw [if_pos c, if_pos (show 0 ≤ (i : Int) ∧ (i : Int) < 6 by omega), if_pos (show 0 ≤ (p : Int) ∧ (p : Int) < 6 by omega), if_pos c, if_pos c]
      by_cases cl : i < p
      · rw [if_neg (by omega), if_pos ⟨c, cl⟩]; rfl
      · rw [if_pos (by omega), if_neg (fun h => cl h.2)]
        rfl
    · rw [if_neg c, if_pos (show 0 ≤ (i : Int) ∧ (i : Int) < 6 by omega), if_pos (show 0 ≤ (p : Int) ∧ (p : Int) < 6 by omega), if_neg c, if_neg c, if_neg (fun h => c h.1)]
      rfl
  · obtain ⟨a, l⟩ := s
    obtain ⟨e1, e2⟩ := hI
    have e1 : a = cntE ch (ch p) np := e1
    have e2 : l = cntL ch (ch p) p np := e2
    show fX11_chosenHours_c7b N g (fX11_chosenHours_c7 N g m) (p : Int) (a : Int) (l : Int) (np : Int) = _
    unfold fX11_chosenHours_c7b
    have b1 : 0 < cntE ch (ch p) np := cntE_pos hp
    have b2 : cntE ch (ch p) np ≤ np := cntE_le
    have b3 : cntL ch (ch p) p np ≤ np := cntL_le
    have d := hc p hp
    rw [M.1.1, if_pos (Int.le_refl _), e1, e2, shaM V M hp (by omega) (by omega), zb_some, por_is rfl (by omega)]
theorem shareMm {np nd nr : Nat} {t : Nat → Nat} {g : zH} (V : HV np nd nr t) (M : HM np nd nr t g) {N : Nat} (hN : 300 ≤ N) {x y : Int} (hx : zw x = x) (hy : zw y = y) : ∃ g', fX11_share N x y g = some (shareV np t x y, g') ∧ FR [72] g g' := by
  have v := V.1
  unfold fX11_share shareV
  rw [mpar V M hy, zq, M.1.1, show zw 5 = 5 by decide, zw_id (show -2147483648 ≤ (np : Int) ∧ (np : Int) < 2147483648 by omega)]
  by_cases c1 : 0 ≤ y ∧ y < np
  · rw [if_pos c1]
    by_cases c2 : np ≤ 5
    · rw [if_neg (by omega)]
      by_cases c3 : 0 ≤ x
      · obtain ⟨z, rfl⟩ := Int.eq_ofNat_of_zero_le c3
        have hz : z < 2147483648 := by
          have := zw_lt (z : Int)
          omega
        obtain ⟨g', e1, e2, e3⟩ := layRM V M (N := N) (by omega) hz
        rw [e1, z2_some, Int.toNat_natCast]
        by_cases c4 : vR (fmk t np) np z = true
        · rw [if_pos c4, if_neg (show ¬ zw 1 = 0 by decide), if_pos ⟨c1, c2, c3, c4⟩]
          obtain ⟨p, rfl⟩ := Int.eq_ofNat_of_zero_le c1.1
          have hp : p < np := by omega
          have M' : HM np nd nr t g' := HM_to M ⟨by rw [e2 14 (by decide)], by rw [e2 14 (by decide)], by rw [e2 14 (by decide)]⟩ (e2 63 (by decide)) (e2 64 (by decide)) (e2 65 (by decide)) (e2 66 (by decide))
          rw [chosenM V M' (N := N) (by omega) (ch := fun p => (chR np z p : Int)) (fun o ho => ⟨e3 c4 o ho, by omega, by have := chR_10 np z o; omega⟩) hp, zb_some, Int.toNat_natCast]
          exact ⟨g', rfl, e2⟩
        · rw [if_neg c4, if_pos zw_0, if_neg (fun h => c4 h.2.2.2)]
          exact ⟨g', rfl, e2⟩
      · -- a row below 0 is none
        have tb := ten10_b (k := np) (by omega)
        have hneg : ∃ g', fX11_layRow N x g = some (0, g') ∧ FR [72] g g' := by
          unfold fX11_layRow
          rw [M.1.1, ten10M (by omega) (by omega), zb_some, zlet_v, in_eq hx zw_0 (zw_id (by omega)), if_neg (by omega)]
          refine zloopq (F := fun m i (s : zH) => fX11_layRow_c17 N m x 0 i s) (n := np) (s := g) (fun i s => FR [72] g s) (fun r => ∃ g', r = some (0, g') ∧ FR [72] g g') (fun m i s hi hI => ?_) (fun m s hI => ?_) (show np < N by omega) FR_rf
          · have hI : FR [72] g s := hI
            left
            refine ⟨zs s 72 i 0, ?_, FR_tr hI (fun b hb => zs_row_ne (fun e => hb (by rw [e]; decide)))⟩
            show fX11_layRow_c17b N (fX11_layRow_c17 N m) x 0 (i : Int) s = _
            unfold fX11_layRow_c17b fX11_layRow_c54
            rw [hI 14 (by decide), M.1.1, zw_id (show -2147483648 ≤ (np : Int) ∧ (np : Int) < 2147483648 by omega), zw_id (show -2147483648 ≤ (i : Int) ∧ (i : Int) < 2147483648 by omega), if_neg (by omega), if_pos zw_0, if_pos (by omega), Int.toNat_natCast, zlet_v, if_pos zw_0]
            rfl
          · have hI : FR [72] g s := hI
            refine ⟨s, ?_, hI⟩
            show fX11_layRow_c17b N (fX11_layRow_c17 N m) x 0 (np : Int) s = _
            unfold fX11_layRow_c17b
            rw [hI 14 (by decide), M.1.1, if_pos (Int.le_refl _), if_pos (Or.inl rfl)]
        obtain ⟨g', e1, e2⟩ := hneg
        rw [e1, z2_some, if_pos zw_0, if_neg (fun h => c3 h.2.2.1)]
        exact ⟨g', rfl, e2⟩
    · rw [if_pos (by omega), if_neg (fun h => c2 h.2.1)]
      exact ⟨g, rfl, FR_rf⟩
  · rw [if_neg c1, if_neg (fun h => c1 h.1)]
    exact ⟨g, rfl, FR_rf⟩
