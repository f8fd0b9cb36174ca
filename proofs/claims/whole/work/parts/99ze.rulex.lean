/-! the class's steps in a rule: letters, numbers, the code and what waits -/
theorem ltrX {N : Nat} (hN : 10 ≤ N) {c : Int} (hc : zw c = c) : fX10_placeIn N 2 c = some (ltr c) := by
  obtain ⟨K, rfl⟩ : ∃ K, N = K + 8 := ⟨N - 8, by omega⟩
  have l : (zTb 2).length = 7 := rfl
  have s0 := plS (N := K + 8) (t := 2) (k := K + 7) (i := 0) hc (by decide) (by rw [l]; decide)
  have s1 := plS (N := K + 8) (t := 2) (k := K + 6) (i := 1) hc (by decide) (by rw [l]; decide)
  have s2 := plS (N := K + 8) (t := 2) (k := K + 5) (i := 2) hc (by decide) (by rw [l]; decide)
  have s3 := plS (N := K + 8) (t := 2) (k := K + 4) (i := 3) hc (by decide) (by rw [l]; decide)
  have s4 := plS (N := K + 8) (t := 2) (k := K + 3) (i := 4) hc (by decide) (by rw [l]; decide)
  have s5 := plS (N := K + 8) (t := 2) (k := K + 2) (i := 5) hc (by decide) (by rw [l]; decide)
  have s6 := plS (N := K + 8) (t := 2) (k := K + 1) (i := 6) hc (by decide) (by rw [l]; decide)
  have s7 := plS (N := K + 8) (t := 2) (k := K) (i := 7) hc (by decide) (by rw [l]; decide)
  rw [l, if_pos (by decide), show zw ((zTb 2).getD 0 0) = 104 by decide] at s0
  rw [l, if_pos (by decide), show zw ((zTb 2).getD 1 0) = 100 by decide] at s1
  rw [l, if_pos (by decide), show zw ((zTb 2).getD 2 0) = 119 by decide] at s2
  rw [l, if_pos (by decide), show zw ((zTb 2).getD 3 0) = 107 by decide] at s3
  rw [l, if_pos (by decide), show zw ((zTb 2).getD 4 0) = 112 by decide] at s4
  rw [l, if_pos (by decide), show zw ((zTb 2).getD 5 0) = 110 by decide] at s5
  rw [l, if_pos (by decide), show zw ((zTb 2).getD 6 0) = 122 by decide] at s6
  rw [l, if_neg (by decide)] at s7
  show fX10_placeIn_c2 (K + 8) 2 (K + 7 + 1) c ((0 : Nat) : Int) = _
  unfold ltr fX11_letterOf
  rw [hc, show zw 104 = 104 by decide, show zw 100 = 100 by decide, show zw 119 = 119 by decide, show zw 107 = 107 by decide, show zw 112 = 112 by decide, show zw 110 = 110 by decide, show zw 122 = 122 by decide, s0]
  by_cases c0 : c = 104
  · rw [if_pos c0.symm, if_pos c0]; rfl
  · rw [if_neg (fun e => c0 e.symm), if_neg c0, s1]
    by_cases c1 : c = 100
    · rw [if_pos c1.symm, if_pos c1]; rfl
    · rw [if_neg (fun e => c1 e.symm), if_neg c1, s2]
      by_cases c2 : c = 119
      · rw [if_pos c2.symm, if_pos c2]; rfl
      · rw [if_neg (fun e => c2 e.symm), if_neg c2, s3]
        by_cases c3 : c = 107
        · rw [if_pos c3.symm, if_pos c3]; rfl
        · rw [if_neg (fun e => c3 e.symm), if_neg c3, s4]
          by_cases c4 : c = 112
          · rw [if_pos c4.symm, if_pos c4]; rfl
          · rw [if_neg (fun e => c4 e.symm), if_neg c4, s5]
            by_cases c5 : c = 110
            · rw [if_pos c5.symm, if_pos c5]; rfl
            · rw [if_neg (fun e => c5 e.symm), if_neg c5, s6]
              by_cases c6 : c = 122
              · rw [if_pos c6.symm, if_pos c6]; rfl
              · rw [if_neg (fun e => c6 e.symm), if_neg c6, s7]
theorem num4L {n : Nat} {b : Nat → Nat} (T : TV n b) {N : Nat} {h0 : zH} (H : TX n b h0) (m : Nat) : ∀ (q F l4 : Nat) (v : Int) (h : zH), l4 + m = 4 → m < F → q ≤ n → (1 ≤ l4 ∨ dgp n b q) → FR [1] h0 h → FS 1 [2, 3] h0 h → h 1 2 = (q : Int) → h 1 3 = -1 → ∃ h', fX9_number_c10 N F 4 (sg n b q) v (l4 : Int) h = some ((dig n b m q v).2, h') ∧ FR [1] h0 h' ∧ FS 1 [2, 3] h0 h' ∧ h' 1 2 = ((dig n b m q v).1 : Int) ∧ h' 1 3 = if dgp n b (dig n b m q v).1 then ((dig n b m q v).1 : Int) else -1 := by
  have n240 := T.1
  induction m with
  | zero =>
    intro q F l4 v h hl hF hq hd F1 G1 e2 e3
    obtain ⟨F, rfl⟩ : ∃ F', F = F' + 1 := ⟨F - 1, by omega⟩
    have : l4 = 4 := by omega
    subst this
    show ∃ h', fX9_number_c10b N (fX9_number_c10 N F) 4 (sg n b q) v ((4 : Nat) : Int) h = some (v, h') ∧ FR [1] h0 h' ∧ FS 1 [2, 3] h0 h' ∧ h' 1 2 = (q : Int) ∧ h' 1 3 = if dgp n b q then (q : Int) else -1
    unfold fX9_number_c10b
    rw [if_pos (by decide), if_neg (by decide), isDX (sg_w T)]
    by_cases c : dgp n b q
    · rw [if_pos c, if_pos c, if_neg (show ¬ zw 1 = 0 by decide), e2, blameX e3 (by decide), if_pos rfl, zlet_v]
      exact ⟨_, rfl, FR_tr F1 (fun b hb => zs_row_ne (fun e => hb (by rw [e]; decide))), FS_tr G1 (fun q hq => zs_ne (fun e => hq (by rw [e]; decide))), by rw [zs_ne (by decide)]; exact e2, zs_at⟩
    · rw [if_neg c, if_neg c, if_pos zw_0]
      exact ⟨h, rfl, F1, G1, e2, e3⟩
  | succ m ih =>
    intro q F l4 v h hl hF hq hd F1 G1 e2 e3
    obtain ⟨F, rfl⟩ : ∃ F', F = F' + 1 := ⟨F - 1, by omega⟩
    show ∃ h', fX9_number_c10b N (fX9_number_c10 N F) 4 (sg n b q) v (l4 : Int) h = _ ∧ _
    unfold fX9_number_c10b dig
    rw [show zw 4 = 4 by decide, zw_id (show -2147483648 ≤ (l4 : Int) ∧ (l4 : Int) < 2147483648 by omega), if_neg (by omega), isDX (sg_w T)]
    by_cases c : dgp n b q
    · have lq := dgp_lt c
      rw [if_pos c, if_pos c, if_neg (show ¬ zw 1 = 0 by decide), e2]
      simp only [zlet_v]
      obtain ⟨s, es⟩ : ∃ s, s = zs h 1 2 ((q : Int) + 1) := ⟨_, rfl⟩
      rw [← es]
      have F2 : FR [1] h0 s := by rw [es]; exact FR_tr F1 (fun b hb => zs_row_ne (fun e => hb (by rw [e]; decide)))
      have G2 : FS 1 [2, 3] h0 s := by rw [es]; exact FS_tr G1 (fun q hq => zs_ne (fun e => hq (by rw [e]; decide)))
      have p2 : s 1 2 = ((q + 1 : Nat) : Int) := by rw [es, zs_at]; rfl
      have p3 : s 1 3 = -1 := by rw [es, zs_ne (by decide)]; exact e3
      have T2 := TX_to H (G2 1 (by decide)) (F2 15 (by decide))
      obtain ⟨h', r1, r2⟩ := ih (q + 1) F (l4 + 1) (v * 10 + sg n b q - 48) s (by omega) (by omega) (by omega) (Or.inl (by omega)) F2 G2 p2 p3
      refine ⟨h', ?_, r2⟩
      rw [← r1, T2.1, p2, zw_id (show -2147483648 ≤ (n : Int) ∧ (n : Int) < 2147483648 by omega), zw_id (show -2147483648 ≤ ((q + 1 : Nat) : Int) ∧ ((q + 1 : Nat) : Int) < 2147483648 by omega)]
      by_cases c2 : q + 1 < n
      · rw [if_neg (by omega), at15 T T2 c2, show sg n b (q + 1) = (b (q + 1) : Int) by unfold sg; rw [if_pos c2]]
        rfl
      · rw [if_pos (by omega), show sg n b (q + 1) = -1 by unfold sg; rw [if_neg c2]]
        rfl
    · have hl1 : 1 ≤ l4 := by
        rcases hd with h | h
        · exact h
        · exact absurd h c
      rw [if_neg c, if_neg c, if_pos zw_0, if_neg (show ¬ (l4 : Int) = 0 by omega), if_pos zw_0]
      exact ⟨h, rfl, F1, G1, e2, by rw [if_neg c]; exact e3⟩
theorem num4X {n : Nat} {b : Nat → Nat} (T : TV n b) {N : Nat} (hN : 300 ≤ N) {h : zH} (H : TX n b h) {p : Nat} (hp : p ≤ n) (hpl : h 1 2 = (p : Int)) (hf : h 1 3 = -1) (hd : dgp n b (skp n b p)) : ∃ h', fX9_number N 4 h = some ((dg4 n b (skp n b p)).2, h') ∧ FR [1] h h' ∧ FS 1 [2, 3] h h' ∧ h' 1 2 = ((dg4 n b (skp n b p)).1 : Int) ∧ h' 1 3 = if dgp n b (dg4 n b (skp n b p)).1 then ((dg4 n b (skp n b p)).1 : Int) else -1 := by
  obtain ⟨h1, e1, e2, e3, e4⟩ := nextX T hN H hp hpl hf (by decide)
  rw [if_pos rfl] at e1
  unfold fX9_number
  rw [e1, z2_some]
  exact num4L T H 4 (skp n b p) N 0 0 h1 rfl (by omega) (skp_b (b := b) hp).2.1 (Or.inr hd) e2 (FS_up e3 (by decide)) e4 (by rw [e3 3 (by decide)]; exact hf)
/-- the code and what waits -/
def RXr (C S : List Int) (d : Int) (h : zH) : Prop := (h 4 1 = (C.length : Int) ∧ sgm (h 22) 0 C) ∧ (h 4 3 = (S.length : Int) ∧ sgm (h 23) 0 S.reverse) ∧ h 4 4 = d
theorem sgm_put {r : Nat → Int} {X : List Int} {v : Int} (H : sgm r 0 X) : sgm (zup r X.length v) 0 (X ++ [v]) := by
  refine sgm_mk (fun j hj => ?_) (fun j hj => ?_)
  · rw [Nat.zero_add, zup_ne (by omega)]
    have := H j hj
    rw [Nat.zero_add] at this
    exact this
  · have : j = 0 := by simp at hj; omega
    subst this
    rw [Nat.zero_add, Nat.add_zero, zup_at]
    rfl
theorem emitX {C : List Int} {v : Int} {h : zH} (hC : C.length ≤ 240) (H1 : h 4 1 = (C.length : Int)) (H2 : sgm (h 22) 0 C) : ∃ h', fX4_emit v h = h' ∧ FR [4, 22] h h' ∧ FS 4 [1] h h' ∧ h' 4 1 = ((mEm C v).length : Int) ∧ sgm (h' 22) 0 (mEm C v) := by
  have l22 : zln 22 = 240 := rfl
  unfold fX4_emit mEm
  simp only [zlet_v]
  rw [H1]
  by_cases c : C.length < 240
  · rw [if_pos c, put_in (by omega) (by omega), Int.toNat_natCast]
    refine ⟨_, rfl, fun b hb => ?_, fun q hq => ?_, ?_, ?_⟩
    · rw [zs_row_ne (fun e => hb (by rw [e]; decide)), zs_row_ne (fun e => hb (by rw [e]; decide))]
    · rw [zs_ne (fun e => hq (by rw [e]; decide)), zs_row_ne (by decide)]
    · rw [zs_at, zs_row_ne (by decide), H1, List.length_append, List.length_singleton]
      unfold fJ9_min_7cf53
      rw [show zw 240 = 240 by decide, zw_id (show -2147483648 ≤ (C.length : Int) + 1 ∧ (C.length : Int) + 1 < 2147483648 by omega), if_neg (by omega)]
      rfl
    · rw [zs_row_ne (by decide), zs_zup]
      exact sgm_put H2
  · rw [if_neg c, put_out (by omega) (by omega)]
    refine ⟨_, rfl, fun b hb => ?_, fun q hq => ?_, ?_, ?_⟩
    · rw [zs_row_ne (fun e => hb (by rw [e]; decide))]
    · rw [zs_ne (fun e => hq (by rw [e]; decide))]
    · rw [zs_at, H1]
      unfold fJ9_min_7cf53
      rw [show zw 240 = 240 by decide, zw_id (show -2147483648 ≤ (C.length : Int) + 1 ∧ (C.length : Int) + 1 < 2147483648 by omega), if_pos (by omega)]
      omega
    · rw [zs_row_ne (by decide)]
      exact H2
theorem mEm_len {C : List Int} {v : Int} (hC : C.length ≤ 240) : (mEm C v).length ≤ 240 := by
  unfold mEm
  split
  · rw [List.length_append, List.length_singleton]; omega
  · exact hC
theorem pushX {S : List Int} {v : Int} {h : zH} (hS : S.length ≤ 48) (H1 : h 4 3 = (S.length : Int)) (H2 : sgm (h 23) 0 S.reverse) : ∃ h', fX4_push v h = h' ∧ FR [4, 23] h h' ∧ FS 4 [3] h h' ∧ h' 4 3 = ((mPu S v).length : Int) ∧ sgm (h' 23) 0 (mPu S v).reverse := by
  have l23 : zln 23 = 48 := rfl
  unfold fX4_push mPu
  simp only [zlet_v]
  rw [H1]
  by_cases c : S.length < 48
  · rw [if_pos c, put_in (by omega) (by omega), Int.toNat_natCast]
    refine ⟨_, rfl, fun b hb => ?_, fun q hq => ?_, ?_, ?_⟩
    · rw [zs_row_ne (fun e => hb (by rw [e]; decide)), zs_row_ne (fun e => hb (by rw [e]; decide))]
    · rw [zs_ne (fun e => hq (by rw [e]; decide)), zs_row_ne (by decide)]
    · rw [zs_at, zs_row_ne (by decide), H1, List.length_cons]
      unfold fJ9_min_7cf53
      rw [show zw 48 = 48 by decide, zw_id (show -2147483648 ≤ (S.length : Int) + 1 ∧ (S.length : Int) + 1 < 2147483648 by omega), if_neg (by omega)]
      rfl
    · rw [zs_row_ne (by decide), zs_zup, List.reverse_cons]
      have := sgm_put (v := v) H2
      rw [List.length_reverse] at this
      exact this
  · rw [if_neg c, put_out (by omega) (by omega)]
    refine ⟨_, rfl, fun b hb => ?_, fun q hq => ?_, ?_, ?_⟩
    · rw [zs_row_ne (fun e => hb (by rw [e]; decide))]
    · rw [zs_ne (fun e => hq (by rw [e]; decide))]
    · rw [zs_at, H1]
      unfold fJ9_min_7cf53
      rw [show zw 48 = 48 by decide, zw_id (show -2147483648 ≤ (S.length : Int) + 1 ∧ (S.length : Int) + 1 < 2147483648 by omega), if_pos (by omega)]
      omega
    · rw [zs_row_ne (by decide)]
      exact H2
theorem mPu_len {S : List Int} {v : Int} (hS : S.length ≤ 48) : (mPu S v).length ≤ 48 := by
  unfold mPu
  split
  · rw [List.length_cons]; omega
  · exact hS
def SB (S : List Int) : Prop := S.length ≤ 48 ∧ ∀ t, t ∈ S → 0 ≤ t ∧ t ≤ 255
theorem SB_pu {S : List Int} {v : Int} (H : SB S) (hv : 0 ≤ v ∧ v ≤ 255) : SB (mPu S v) := by
  refine ⟨mPu_len H.1, fun t ht => ?_⟩
  unfold mPu at ht
  split at ht
  · rcases List.mem_cons.mp ht with e | h
    · rw [e]; exact hv
    · exact H.2 t h
  · exact H.2 t ht
theorem SB_tl {S : List Int} (H : SB S) : SB S.tail := ⟨by rw [List.length_tail]; have := H.1; omega, fun t ht => H.2 t (List.mem_of_mem_tail ht)⟩
theorem mRed_b {r : Int} (S : List Int) : ∀ (C : List Int) (d : Int), SB S → C.length ≤ 240 → SB (mRed r S C d).2.1 ∧ (mRed r S C d).1.length ≤ 240 ∧ (d - S.length ≤ (mRed r S C d).2.2 ∧ (mRed r S C d).2.2 ≤ d) := by
  induction S with
  | nil => intro C d H hC; exact ⟨H, hC, by show d - 0 ≤ d; omega, Int.le_refl d⟩
  | cons t S ih =>
    intro C d H hC
    unfold mRed
    by_cases c : rk t < r
    · rw [if_pos c]
      refine ⟨H, hC, ?_, Int.le_refl d⟩
      show d - ((t :: S).length : Int) ≤ d
      omega
    · rw [if_neg c]
      obtain ⟨d', ed'⟩ : ∃ d', d' = if t = 33 then d - 1 else d := ⟨_, rfl⟩
      have hd' : d - 1 ≤ d' ∧ d' ≤ d := by rw [ed']; split <;> omega
      rw [← ed']
      obtain ⟨r1, r2, r3, r4⟩ := ih (mEm C (-t)) d' ⟨by have := H.1; rw [List.length_cons] at this; omega, fun x hx => H.2 x (List.mem_cons_of_mem _ hx)⟩ (mEm_len hC)
      refine ⟨r1, r2, ?_, ?_⟩
      · rw [List.length_cons]
        omega
      · omega
theorem reduceL {N : Nat} {r : Int} (hr : 0 ≤ r ∧ r ≤ 6) (S : List Int) : ∀ (F : Nat) (C : List Int) (d : Int) (h : zH), S.length < F → SB S → C.length ≤ 240 → RXr C S d h → ∃ h', fX4_reduce_c7 N F r ((S.length : Int) - 1) h = some h' ∧ FR [4, 22] h h' ∧ FS 4 [1, 3, 4] h h' ∧ RXr (mRed r S C d).1 (mRed r S C d).2.1 (mRed r S C d).2.2 h' := by
  have l23 : zln 23 = 48 := rfl
  induction S with
  | nil =>
    intro F C d h hF HS hC H
    obtain ⟨F, rfl⟩ : ∃ F', F = F' + 1 := ⟨F - 1, by rw [List.length_nil] at hF; omega⟩
    refine ⟨h, ?_, FR_rf, FS_rf, H⟩
    show fX4_reduce_c7b N (fX4_reduce_c7 N F) r (0 - 1) h = _
    unfold fX4_reduce_c7b
    rw [if_pos (by decide)]
  | cons t S ih =>
    intro F C d h hF HS hC H
    obtain ⟨F, rfl⟩ : ∃ F', F = F' + 1 := ⟨F - 1, by omega⟩
    obtain ⟨⟨c1, c2⟩, ⟨c3, c4⟩, c5⟩ := H
    have h48 := HS.1
    rw [List.length_cons] at h48 hF c3
    rw [List.reverse_cons] at c4
    have ht := HS.2 t (List.mem_cons_self ..)
    have tw : zw t = t := zw_id (by omega)
    have top : h 23 S.length = t := by
      have := sgm_1 (sgm_r c4)
      rw [List.length_reverse, Nat.zero_add] at this
      exact this
    have rb := rk_b t
    show ∃ h', fX4_reduce_c7b N (fX4_reduce_c7 N F) r (((t :: S).length : Int) - 1) h = _ ∧ _
    rw [List.length_cons, show ((S.length + 1 : Nat) : Int) - 1 = (S.length : Int) by omega]
    unfold fX4_reduce_c7b mRed
    rw [zw_id (show -2147483648 ≤ (S.length : Int) ∧ (S.length : Int) < 2147483648 by omega), if_neg (by omega), at_in (by omega) (by omega), Int.toNat_natCast, top]
    have rw1 : zw (fX4_rank t) = rk t := zw_id (show -2147483648 ≤ rk t ∧ rk t < 2147483648 by omega)
    rw [rw1, zw_id (show -2147483648 ≤ r ∧ r < 2147483648 by omega)]
    by_cases c : rk t < r
    · rw [if_pos c, if_pos c]
      exact ⟨h, rfl, FR_rf, FS_rf, ⟨c1, c2⟩, ⟨by rw [List.length_cons]; exact c3, by rw [List.reverse_cons]; exact c4⟩, c5⟩
    · rw [if_neg c, if_neg c, zlet_v, tw, show zw 33 = 33 by decide]
      obtain ⟨h1, e1, e2, e3, e4, e5⟩ := emitX (v := -t) hC c1 c2
      rw [e1, zlet_v]
      obtain ⟨h2, eh2⟩ : ∃ h2, h2 = zs (zs h1 4 4 (if t = 33 then d - 1 else d)) 4 3 (S.length : Int) := ⟨_, rfl⟩
      have d1 : h1 4 4 = d := by rw [e3 4 (by decide)]; exact c5
      have F2 : FR [4, 22] h h2 := by
        rw [eh2]
        exact FR_tr e2 (fun b hb => by rw [zs_row_ne (fun e => hb (by rw [e]; decide)), zs_row_ne (fun e => hb (by rw [e]; decide))])
      have G2 : FS 4 [1, 3, 4] h h2 := by
        rw [eh2]
        exact FS_tr (FS_up e3 (by decide)) (fun q hq => by rw [zs_ne (fun e => hq (by rw [e]; decide)), zs_ne (fun e => hq (by rw [e]; decide))])
      have R2 : RXr (mEm C (-t)) S (if t = 33 then d - 1 else d) h2 := by
        rw [eh2]
        refine ⟨⟨?_, ?_⟩, ⟨zs_at, ?_⟩, ?_⟩
        · rw [zs_ne (by decide), zs_ne (by decide)]; exact e4
        · rw [zs_row_ne (by decide), zs_row_ne (by decide)]; exact e5
        · rw [zs_row_ne (by decide), zs_row_ne (by decide), e2 23 (by decide)]; exact sgm_l c4
        · rw [zs_ne (by decide), zs_at]
      obtain ⟨h3, r1, r2, r3, r4⟩ := ih F (mEm C (-t)) (if t = 33 then d - 1 else d) h2 (by omega) ⟨by omega, fun x hx => HS.2 x (List.mem_cons_of_mem _ hx)⟩ (mEm_len hC) R2
      refine ⟨h3, ?_, FR_tr F2 r2, FS_tr G2 r3, r4⟩
      rw [← r1, eh2, d1]
      by_cases c33 : t = 33
      · rw [if_pos c33, if_pos c33]; rfl
      · rw [if_neg c33, if_neg c33, show d - 0 = d by omega]; rfl
theorem reduceX {N : Nat} (hN : 300 ≤ N) {r : Int} (hr : 0 ≤ r ∧ r ≤ 6) {S C : List Int} {d : Int} {h : zH} (HS : SB S) (hC : C.length ≤ 240) (H : RXr C S d h) : ∃ h', fX4_reduce N r h = some h' ∧ FR [4, 22] h h' ∧ FS 4 [1, 3, 4] h h' ∧ RXr (mRed r S C d).1 (mRed r S C d).2.1 (mRed r S C d).2.2 h' := by
  obtain ⟨h', r1, r2⟩ := reduceL (N := N) hr S N C d h (by have := HS.1; omega) HS hC H
  refine ⟨h', ?_, r2⟩
  unfold fX4_reduce
  rw [zlet_v, H.2.1.1]
  exact r1
