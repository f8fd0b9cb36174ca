/-! works of both -/
def wWork (L : List (Nat × Nat)) (n c : Nat) : Int := if min 60 L.length < n then -1 else if c = 0 then (wk L n (min 60 L.length + 1 - n)).1 else (wk L n (min 60 L.length + 1 - n)).2
theorem worX {np nd nr lim : Nat} {t : Nat → Nat} {w : hW} {h : zH} (V : HV np nd nr t) (O : WOK np nd nr t w) (H : CW np nd nr t lim w h) {N : Nat} (hN : 100 ≤ N) {x y : Int} (hx : zw x = x) (hy : zw y = y) : (¬ (0 < np ∧ (1 ≤ x ∧ x ≤ 9) ∧ 0 ≤ y ∧ y ≤ 1) → fX10_works N x y h = some (-1)) ∧ (0 < np ∧ (1 ≤ x ∧ x ≤ 9) ∧ 0 ≤ y ∧ y ≤ 1 → fX10_works N x y h = some (wWork (aL w.1) x.toNat y.toNat)) := by
  have v := V.1
  have hl := AOK_L O.1
  have e50 : h 30 50 = ((aL w.1).length : Int) := H.2.1.2.2.2.2
  have eL : fX8_logLength 7 h = (min 60 (aL w.1).length : Nat) := by
    show fJ9_min_7cf53 (h 30 50) 60 = _
    rw [e50, min_eq (zw_id (by omega)) zw_60]
    split <;> omega
  refine ⟨fun hc => ?_, fun hc => ?_⟩
  · unfold fX10_works
    rw [hasHillX V H.1, zq, hx, hy, zw_1, show zw 9 = 9 by decide]
    by_cases h0 : 0 < np
    · rw [if_pos h0]
      by_cases h1 : x < 1
      · rw [if_pos h1]
      · rw [if_neg h1]
        by_cases h2 : 9 < x
        · rw [if_pos h2]
        · rw [if_neg h2]
          by_cases h3 : y < 0
          · rw [if_pos h3]
          · rw [if_neg h3, if_neg (by omega)]
    · rw [if_neg h0]
  · obtain ⟨h0, c1, c2⟩ := hc
    obtain ⟨n, rfl⟩ := Int.eq_ofNat_of_zero_le (show 0 ≤ x by omega)
    obtain ⟨c, rfl⟩ := Int.eq_ofNat_of_zero_le c2.1
    rw [Int.toNat_natCast, Int.toNat_natCast]
    unfold fX10_works
    rw [hasHillX V H.1, zq, hx, hy, zw_1, show zw 9 = 9 by decide, if_pos h0, if_neg (by omega), if_neg (by omega), if_neg (by omega), if_pos (by omega)]
    have stop : ∀ (k i : Nat) (b m : Int), min 60 (aL w.1).length < i + n → i < 1000 → fX10_works_c37 N h (k + 1) (n : Int) (c : Int) b m (i : Int) = some (if c = 0 then b else m) := by
      intro k i b m hlt hi
      show fX10_works_c37b N h (fX10_works_c37 N h k) _ _ _ _ _ = _
      unfold fX10_works_c37b
      rw [eL, zw_id (show -2147483648 ≤ ((min 60 (aL w.1).length : Nat) : Int) ∧ ((min 60 (aL w.1).length : Nat) : Int) < 2147483648 by omega), zw_id (show -2147483648 ≤ (i : Int) + (n : Int) ∧ (i : Int) + (n : Int) < 2147483648 by omega), if_pos (by omega), hy]
      by_cases q : c = 0
      · rw [if_pos (by omega), if_pos q]
      · rw [if_neg (by omega), if_neg q]
    by_cases hn : min 60 (aL w.1).length < n
    · obtain ⟨K, hK⟩ : ∃ K, N = K + 1 := ⟨N - 1, by omega⟩
      have := stop K 0 (-1) (-1) (by omega) (by decide)
      rw [← hK] at this
      unfold wWork
      rw [if_pos hn]
      refine (show _ = _ from this).trans ?_
      split <;> rfl
    · unfold wWork
      rw [if_neg hn]
      refine zloopq (F := fun k i (s : Int × Int) => fX10_works_c37 N h k (n : Int) (c : Int) s.1 s.2 i) (n := min 60 (aL w.1).length + 1 - n) (s := (-1, -1)) (fun i s => s = wk (aL w.1) n i) (fun b => b = some (if c = 0 then (wk (aL w.1) n (min 60 (aL w.1).length + 1 - n)).1 else (wk (aL w.1) n (min 60 (aL w.1).length + 1 - n)).2)) (fun k i s hi hI => ?_) (fun k s hI => ?_) (by omega) rfl
      · obtain ⟨b, m⟩ := s
        have hwb := wk_b O.1.1 (n := n) (by omega) i
        rw [← hI] at hwb
        dsimp only at hwb ⊢
        left
        refine ⟨wk (aL w.1) n (i + 1), ?_, rfl⟩
        show fX10_works_c37b N h (fX10_works_c37 N h k) _ _ _ _ _ = _
        unfold fX10_works_c37b
        rw [eL, zw_id (show -2147483648 ≤ ((min 60 (aL w.1).length : Nat) : Int) ∧ ((min 60 (aL w.1).length : Nat) : Int) < 2147483648 by omega), zw_id (show -2147483648 ≤ (i : Int) + (n : Int) ∧ (i : Int) + (n : Int) < 2147483648 by omega), if_neg (by omega)]
        suffices Hs : fX10_works_c58 N h (fX10_works_c37 N h k) N (n : Int) (c : Int) b m (i : Int) 0 (0 + (i : Int)) = fX10_works_c37 N h k (n : Int) (c : Int) (wk (aL w.1) n (i + 1)).1 (wk (aL w.1) n (i + 1)).2 ((i + 1 : Nat) : Int) by
          rw [Int.zero_add] at Hs
          exact Hs
        refine zloopq (N := N) (F := fun k' j (q : Int) => fX10_works_c58 N h (fX10_works_c37 N h k) k' (n : Int) (c : Int) b m (i : Int) q (j + (i : Int))) (n := n) (s := 0) (fun j q => q = (sk (aL w.1) i j : Int)) (fun r => r = fX10_works_c37 N h k (n : Int) (c : Int) (wk (aL w.1) n (i + 1)).1 (wk (aL w.1) n (i + 1)).2 ((i + 1 : Nat) : Int)) (fun k' j q hj hJ => ?_) (fun k' q hJ => ?_) (by omega) rfl
        · left
          refine ⟨(sk (aL w.1) i (j + 1) : Int), ?_, rfl⟩
          show fX10_works_c58b N h (fX10_works_c37 N h k) (fX10_works_c58 N h (fX10_works_c37 N h k) k') _ _ _ _ _ _ _ = _
          unfold fX10_works_c58b
          rw [zw_id (show -2147483648 ≤ (i : Int) + (n : Int) ∧ (i : Int) + (n : Int) < 2147483648 by omega), zw_id (show -2147483648 ≤ (j : Int) + (i : Int) ∧ (j : Int) + (i : Int) < 2147483648 by omega), if_neg (by omega), zlet_v, show (j : Int) + (i : Int) = ((i + j : Nat) : Int) by omega, hoursX O.1.1 H.2.1 H.2.2.1 (by omega) (by omega), hJ, show ((i + j : Nat) : Int) + 1 = ((j + 1 : Nat) : Int) + (i : Int) by omega]
          rfl
        · show fX10_works_c58b N h (fX10_works_c37 N h k) (fX10_works_c58 N h (fX10_works_c37 N h k) k') _ _ _ _ _ _ _ = _
          unfold fX10_works_c58b
          have hsb := sk_b O.1.1 i n
          have ew : wk (aL w.1) n (i + 1) = if (sk (aL w.1) i n : Int) ≤ (wk (aL w.1) n i).2 then wk (aL w.1) n i else ((i : Int), (sk (aL w.1) i n : Int)) := rfl
          rw [if_pos (by rw [show (n : Int) + (i : Int) = (i : Int) + (n : Int) by omega]; exact Int.le_refl _), hJ, ew, ← hI]
          dsimp only
          rw [zw_id (show -2147483648 ≤ (sk (aL w.1) i n : Int) ∧ (sk (aL w.1) i n : Int) < 2147483648 by omega), zw_id (show -2147483648 ≤ m ∧ m < 2147483648 by omega)]
          by_cases q1 : (sk (aL w.1) i n : Int) ≤ m
          · rw [if_pos q1, if_pos q1]; rfl
          · rw [if_neg q1, if_neg q1]; rfl
      · rw [hI]
        exact stop k _ _ _ (by omega) (by omega)
theorem worM {np nd nr B : Nat} {t : Nat → Nat} {w : hW} {g : zH} (V : HV np nd nr t) (O : WOK np nd nr t w) (H : MW np nd nr t B w g) {N : Nat} (hN : 100 ≤ N) {x y : Int} (hx : zw x = x) (hy : zw y = y) : (¬ (0 < np ∧ (1 ≤ x ∧ x ≤ 9) ∧ 0 ≤ y ∧ y ≤ 1) → fX11_works N x y g = some (-1)) ∧ (0 < np ∧ (1 ≤ x ∧ x ≤ 9) ∧ 0 ≤ y ∧ y ≤ 1 → fX11_works N x y g = some (wWork (aL w.1) x.toNat y.toNat)) := by
  have v := V.1
  have e44 : g 69 44 = (min 60 (aL w.1).length : Nat) := H.2.1.2.2.2.2.2.1
  have hm := H.2.1.2.2.2.2.2.2
  refine ⟨fun hc => ?_, fun hc => ?_⟩
  · unfold fX11_works
    rw [H.1.1.1, zw_id (show -2147483648 ≤ (np : Int) ∧ (np : Int) < 2147483648 by omega), in_eq hx zw_1 (show zw 9 = 9 by decide), in_eq hy zw_0 zw_1, zq, zq]
    by_cases h0 : 0 < np
    · rw [if_neg (show ¬ (np : Int) = 0 by omega)]
      by_cases h1 : 1 ≤ x ∧ x ≤ 9
      · rw [if_pos h1, if_neg (fun e => hc ⟨h0, h1, e⟩)]
      · rw [if_neg h1]
    · rw [if_pos (show (np : Int) = 0 by omega)]
  · obtain ⟨h0, c1, c2⟩ := hc
    obtain ⟨n, rfl⟩ := Int.eq_ofNat_of_zero_le (show 0 ≤ x by omega)
    obtain ⟨c, rfl⟩ := Int.eq_ofNat_of_zero_le c2.1
    rw [Int.toNat_natCast, Int.toNat_natCast]
    unfold fX11_works
    rw [H.1.1.1, zw_id (show -2147483648 ≤ (np : Int) ∧ (np : Int) < 2147483648 by omega), in_eq hx zw_1 (show zw 9 = 9 by decide), in_eq hy zw_0 zw_1, zq, zq, if_neg (show ¬ (np : Int) = 0 by omega), if_pos c1, if_pos c2, hx, e44, zw_id (show -2147483648 ≤ ((min 60 (aL w.1).length : Nat) : Int) ∧ ((min 60 (aL w.1).length : Nat) : Int) < 2147483648 by omega)]
    by_cases hn : min 60 (aL w.1).length < n
    · unfold wWork
      rw [if_neg (show ¬ (n : Int) ≤ ((min 60 (aL w.1).length : Nat) : Int) by omega), if_pos hn]
    · unfold wWork
      rw [if_pos (show (n : Int) ≤ ((min 60 (aL w.1).length : Nat) : Int) by omega), if_neg hn]
      refine zloopq (F := fun k i (s : Int × Int) => fX11_works_c47 N g k (n : Int) (c : Int) s.1 s.2 i) (n := min 60 (aL w.1).length + 1 - n) (s := (-1, -1)) (fun i s => s = wk (aL w.1) n i) (fun b => b = some (if c = 0 then (wk (aL w.1) n (min 60 (aL w.1).length + 1 - n)).1 else (wk (aL w.1) n (min 60 (aL w.1).length + 1 - n)).2)) (fun k i s hi hI => ?_) (fun k s hI => ?_) (by omega) rfl
      · obtain ⟨b, m⟩ := s
        have hwb := wk_b O.1.1 (n := n) (by omega) i
        rw [← hI] at hwb
        dsimp only at hwb ⊢
        left
        refine ⟨wk (aL w.1) n (i + 1), ?_, rfl⟩
        show fX11_works_c47b N g (fX11_works_c47 N g k) _ _ _ _ _ = _
        unfold fX11_works_c47b
        rw [e44, zw_id (show -2147483648 ≤ ((min 60 (aL w.1).length : Nat) : Int) ∧ ((min 60 (aL w.1).length : Nat) : Int) < 2147483648 by omega), zw_id (show -2147483648 ≤ (i : Int) + (n : Int) ∧ (i : Int) + (n : Int) < 2147483648 by omega), if_neg (by omega)]
        refine zloopq (N := N) (F := fun k' j (q : Int) => fX11_works_c67 N g (fX11_works_c47 N g k) k' (n : Int) (c : Int) b m (i : Int) q j) (n := n) (s := 0) (fun j q => q = (sk (aL w.1) i j : Int)) (fun r => r = fX11_works_c47 N g k (n : Int) (c : Int) (wk (aL w.1) n (i + 1)).1 (wk (aL w.1) n (i + 1)).2 ((i + 1 : Nat) : Int)) (fun k' j q hj hJ => ?_) (fun k' q hJ => ?_) (by omega) rfl
        · have hd := (hm (min 60 (aL w.1).length - 1 - (i + j)) (by omega)).2
          rw [show min 60 (aL w.1).length - 1 - (min 60 (aL w.1).length - 1 - (i + j)) = i + j by omega] at hd
          left
          refine ⟨(sk (aL w.1) i (j + 1) : Int), ?_, rfl⟩
          show fX11_works_c67b N g (fX11_works_c47 N g k) (fX11_works_c67 N g (fX11_works_c47 N g k) k') _ _ _ _ _ _ _ = _
          unfold fX11_works_c67b
          rw [hx, zw_id (show -2147483648 ≤ (j : Int) ∧ (j : Int) < 2147483648 by omega), if_neg (by omega), show 45 + 2 * ((i : Int) + (j : Int)) + 1 = ((46 + 2 * (i + j) : Nat) : Int) by omega, zw_id (show -2147483648 ≤ ((46 + 2 * (i + j) : Nat) : Int) ∧ ((46 + 2 * (i + j) : Nat) : Int) < 2147483648 by omega), if_pos (by omega), zlet_v, Int.toNat_natCast, hd, hJ]
          rfl
        · show fX11_works_c67b N g (fX11_works_c47 N g k) (fX11_works_c67 N g (fX11_works_c47 N g k) k') _ _ _ _ _ _ _ = _
          unfold fX11_works_c67b fJ9_max_7cf53
          have hsb := sk_b O.1.1 i n
          have ew : wk (aL w.1) n (i + 1) = if (sk (aL w.1) i n : Int) ≤ (wk (aL w.1) n i).2 then wk (aL w.1) n i else ((i : Int), (sk (aL w.1) i n : Int)) := rfl
          rw [if_pos (Int.le_refl _), hJ, ew, ← hI]
          dsimp only
          rw [zw_id (show -2147483648 ≤ (sk (aL w.1) i n : Int) ∧ (sk (aL w.1) i n : Int) < 2147483648 by omega), zw_id (show -2147483648 ≤ m ∧ m < 2147483648 by omega), zlet_v, zlet_v]
          by_cases q1 : (sk (aL w.1) i n : Int) ≤ m
          · rw [if_pos q1, if_pos q1, if_neg (by omega)]; rfl
          · rw [if_neg q1, if_neg q1, if_pos (by omega)]; rfl
      · have hwb := wk_b O.1.1 (n := n) (by omega) (min 60 (aL w.1).length + 1 - n)
        show fX11_works_c47b N g (fX11_works_c47 N g k) _ _ _ _ _ = _
        unfold fX11_works_c47b
        rw [e44, zw_id (show -2147483648 ≤ ((min 60 (aL w.1).length : Nat) : Int) ∧ ((min 60 (aL w.1).length : Nat) : Int) < 2147483648 by omega), zw_id (show -2147483648 ≤ ((min 60 (aL w.1).length + 1 - n : Nat) : Int) + (n : Int) ∧ ((min 60 (aL w.1).length + 1 - n : Nat) : Int) + (n : Int) < 2147483648 by omega), if_pos (by omega), hy, hI]
        by_cases q : c = 0
        · rw [if_pos (by omega), if_pos q]
        · rw [if_neg (by omega), if_neg q]
