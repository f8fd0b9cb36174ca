/-! those that wait at a desk: by the queue, by the parishes -/
theorem zwd {x : Int} (h : -1 ≤ x ∧ x < 2147483648) : zw x = x := zw_id (by omega)
theorem backlogX {N : Nat} (hN : 8 ≤ N) {h : zH} {k : Nat} (hk : h 30 49 = (k : Int)) (hk6 : k ≤ 6) (hq : ∀ i : Nat, i < k → 0 ≤ h 30 (42 + i) ∧ h 30 (42 + i) < 6) (hs : ∀ p : Nat, p < 6 → zw (h 30 (36 + p)) = h 30 (36 + p)) {d : Int} (hd : zw d = d) : fX8_backlog N 7 d h = some (((List.range k).countP (fun i => decide (h 30 (36 + (h 30 (42 + i)).toNat) = d)) : Nat) : Int) := by
  have L : ∀ (j i M : Nat) (s : Nat), i + j = k → fX8_backlog_c4 N 7 h (M + j + 1) d (s : Int) (i : Int) = some ((s + (List.range' i j).countP (fun i => decide (h 30 (36 + (h 30 (42 + i)).toNat) = d)) : Nat) : Int) := by
    intro j
    induction j with
    | zero =>
      intro i M s hi
      show fX8_backlog_c4b N 7 h (fX8_backlog_c4 N 7 h M) d (s : Int) (i : Int) = _
      unfold fX8_backlog_c4b
      rw [show h (zfr 7 0) 49 = (k : Int) from hk, zw_id (show -2147483648 ≤ (k : Int) ∧ (k : Int) < 2147483648 by omega), zw_id (show -2147483648 ≤ (i : Int) ∧ (i : Int) < 2147483648 by omega), if_pos (by omega)]
      rfl
    | succ j ih =>
      intro i M s hi
      show fX8_backlog_c4b N 7 h (fX8_backlog_c4 N 7 h (M + j + 1)) d (s : Int) (i : Int) = _
      have hq1 := hq i (by omega)
      obtain ⟨p, hp⟩ := Int.eq_ofNat_of_zero_le hq1.1
      have e1 : fX8_of 7 7 (i : Int) h = h 30 (42 + i) := ofX_eq 7 i (by omega)
      have e2 : fX8_of 7 6 (p : Int) h = h 30 (36 + p) := ofX_eq 6 p (by omega)
      unfold fX8_backlog_c4b
      rw [show h (zfr 7 0) 49 = (k : Int) from hk, zw_id (show -2147483648 ≤ (k : Int) ∧ (k : Int) < 2147483648 by omega), zw_id (show -2147483648 ≤ (i : Int) ∧ (i : Int) < 2147483648 by omega), if_neg (by omega), e1, hp, e2, hs p (by omega), hd, List.range'_succ, List.countP_cons]
      have ei : (i : Int) + 1 = ((i + 1 : Nat) : Int) := rfl
      rw [ei]
      by_cases hc : h 30 (36 + p) = d
      · have hb : decide (h 30 (36 + (h 30 (42 + i)).toNat) = d) = true := by rw [hp, Int.toNat_natCast]; exact decide_eq_true hc
        rw [if_pos hc, show (s : Int) + 1 = ((s + 1 : Nat) : Int) from rfl, ih (i + 1) M (s + 1) (by omega), if_pos hb]
        congr 2
        omega
      · have hb : ¬ decide (h 30 (36 + (h 30 (42 + i)).toNat) = d) = true := by rw [hp, Int.toNat_natCast, decide_eq_true_iff]; exact hc
        rw [if_neg hc, show (s : Int) + 0 = ((s : Nat) : Int) by omega, ih (i + 1) M s (by omega), if_neg hb]
        rfl
  have h1 := L k 0 (N - k - 1) 0 (by omega)
  rw [show N - k - 1 + k + 1 = N by omega, ← List.range_eq_range', Nat.zero_add] at h1
  exact h1
theorem backlogM {N : Nat} (hN : 8 ≤ N) {h : zH} {n : Nat} (hn : h 14 28 = (n : Int)) (hn6 : n ≤ 6) {d : Int} (hA : ∀ p : Nat, p < n → fX11_isAt (p : Int) d h = some (if h 30 (36 + p) = d then 1 else 0)) : fX11_backlog N d h = some (((List.range n).countP (fun p => decide (h 30 (36 + p) = d)) : Nat) : Int) := by
  have L : ∀ (j i M : Nat) (s : Nat), i + j = n → fX11_backlog_c4 N h (M + j + 1) d (s : Int) (i : Int) = some ((s + (List.range' i j).countP (fun p => decide (h 30 (36 + p) = d)) : Nat) : Int) := by
    intro j
    induction j with
    | zero =>
      intro i M s hi
      show fX11_backlog_c4b N h (fX11_backlog_c4 N h M) d (s : Int) (i : Int) = _
      unfold fX11_backlog_c4b
      rw [hn, zw_id (show -2147483648 ≤ (n : Int) ∧ (n : Int) < 2147483648 by omega), zw_id (show -2147483648 ≤ (i : Int) ∧ (i : Int) < 2147483648 by omega), if_pos (by omega)]
      rfl
    | succ j ih =>
      intro i M s hi
      show fX11_backlog_c4b N h (fX11_backlog_c4 N h (M + j + 1)) d (s : Int) (i : Int) = _
      unfold fX11_backlog_c4b
      rw [hn, zw_id (show -2147483648 ≤ (n : Int) ∧ (n : Int) < 2147483648 by omega), zw_id (show -2147483648 ≤ (i : Int) ∧ (i : Int) < 2147483648 by omega), if_neg (by omega), hA i (by omega)]
      show (if zw (if h 30 (36 + i) = d then 1 else 0) = 0 then fX11_backlog_c4 N h (M + j + 1) d ((s : Int) + 0) ((i : Int) + 1) else fX11_backlog_c4 N h (M + j + 1) d ((s : Int) + 1) ((i : Int) + 1)) = _
      rw [zq, List.range'_succ, List.countP_cons, show (i : Int) + 1 = ((i + 1 : Nat) : Int) from rfl]
      by_cases hc : h 30 (36 + i) = d
      · rw [if_pos hc, show (s : Int) + 1 = ((s + 1 : Nat) : Int) from rfl, ih (i + 1) M (s + 1) (by omega), if_pos (decide_eq_true hc)]
        congr 2
        omega
      · rw [if_neg hc, show (s : Int) + 0 = ((s : Nat) : Int) by omega, ih (i + 1) M s (by omega), if_neg (by rw [decide_eq_true_iff]; exact hc)]
        rfl
  have h1 := L n 0 (N - n - 1) 0 (by omega)
  rw [show N - n - 1 + n + 1 = N by omega, ← List.range_eq_range', Nat.zero_add] at h1
  exact h1
theorem queue_perm {n k : Nat} {rc m : Nat → Int} (Q : RQue (n : Int) rc m) (hk : rc 49 = (k : Int)) : ((List.range k).map (fun i => (rc (42 + i)).toNat)).Perm ((List.range n).filter (fun p => decide (m (7 * p + 1) ≠ -1))) := by
  obtain ⟨q1, q2, q3, q4⟩ := Q
  refine (List.perm_ext_iff_of_nodup ?_ ?_).mpr (fun p => ?_)
  · refine List.pairwise_map.mpr (List.Pairwise.imp_of_mem ?_ List.pairwise_lt_range)
    intro i j hi hj hij e
    have := q3 i j hij (by rw [hk]; have := List.mem_range.mp hj; omega)
    rw [e] at this
    omega
  · exact List.Pairwise.filter _ List.nodup_range
  · rw [List.mem_map, List.mem_filter, List.mem_range, decide_eq_true_iff]
    constructor
    · rintro ⟨i, hi, rfl⟩
      obtain ⟨a1, a2, a3, a4⟩ := q2 i (by rw [hk]; have := List.mem_range.mp hi; omega)
      exact ⟨by omega, a3⟩
    · rintro ⟨hp, hw⟩
      obtain ⟨i, hi, he⟩ := q4 p (by omega) hw
      exact ⟨i, List.mem_range.mpr (by omega), by rw [he]; rfl⟩
