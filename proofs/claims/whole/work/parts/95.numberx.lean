/-! numbers are read -/
abbrev dgp (n : Nat) (b : Nat → Nat) (q : Nat) : Prop := 48 ≤ sg n b q ∧ sg n b q ≤ 57
/-- a number: where it ends, its value, the fault -/
def nbr (n : Nat) (b : Nat → Nat) (p : Nat) : Nat × Int × Int := if dgp n b (skp n b p) then (if dgp n b (skp n b p + 1) then (skp n b p + 2, (sg n b (skp n b p) - 48) * 10 + sg n b (skp n b p + 1) - 48, if dgp n b (skp n b p + 2) then ((skp n b p + 2 : Nat) : Int) else -1) else (skp n b p + 1, sg n b (skp n b p) - 48, -1)) else (skp n b p, 0, (skp n b p : Int))
theorem dgp_lt {n q : Nat} {b : Nat → Nat} (h : dgp n b q) : q < n := sg_lt (show sg n b q ≠ -1 by omega)
theorem nbr_b {n p : Nat} {b : Nat → Nat} (hp : p ≤ n) : (nbr n b p).1 ≤ n ∧ (0 ≤ (nbr n b p).2.1 ∧ (nbr n b p).2.1 ≤ 99) ∧ (-1 ≤ (nbr n b p).2.2 ∧ (nbr n b p).2.2 ≤ n) ∧ ((nbr n b p).2.2 = -1 → 1 ≤ (nbr n b p).1) := by
  obtain ⟨s1, s2, s3⟩ := skp_b (b := b) hp
  unfold nbr
  by_cases c0 : dgp n b (skp n b p)
  · have l0 := dgp_lt c0
    rw [if_pos c0]
    by_cases c1 : dgp n b (skp n b p + 1)
    · have l1 := dgp_lt c1
      rw [if_pos c1]
      refine ⟨by show skp n b p + 2 ≤ n; omega, ⟨?_, ?_⟩, ?_, fun _ => by show 1 ≤ skp n b p + 2; omega⟩
      · show 0 ≤ (sg n b (skp n b p) - 48) * 10 + sg n b (skp n b p + 1) - 48
        omega
      · show (sg n b (skp n b p) - 48) * 10 + sg n b (skp n b p + 1) - 48 ≤ 99
        omega
      · by_cases c2 : dgp n b (skp n b p + 2)
        · have l2 := dgp_lt c2
          rw [if_pos c2]
          refine ⟨?_, ?_⟩
          · show (-1 : Int) ≤ ((skp n b p + 2 : Nat) : Int)
            omega
          · show ((skp n b p + 2 : Nat) : Int) ≤ (n : Int)
            omega
        · rw [if_neg c2]
          refine ⟨(show (-1 : Int) ≤ -1 by decide), ?_⟩
          show (-1 : Int) ≤ (n : Int)
          omega
    · rw [if_neg c1]
      refine ⟨by show skp n b p + 1 ≤ n; omega, ⟨?_, ?_⟩, ⟨(show (-1 : Int) ≤ -1 by decide), ?_⟩, fun _ => by show 1 ≤ skp n b p + 1; omega⟩
      · show 0 ≤ sg n b (skp n b p) - 48
        omega
      · show sg n b (skp n b p) - 48 ≤ 99
        omega
      · show (-1 : Int) ≤ n
        omega
  · rw [if_neg c0]
    refine ⟨s2, ⟨(show (0 : Int) ≤ 0 by decide), (show (0 : Int) ≤ 99 by decide)⟩, ⟨?_, ?_⟩, fun h => ?_⟩
    · show (-1 : Int) ≤ (skp n b p : Int)
      omega
    · show (skp n b p : Int) ≤ n
      omega
    · have : ((skp n b p : Nat) : Int) = -1 := h
      omega
theorem c10S {n : Nat} {b : Nat → Nat} (T : TV n b) {N k : Nat} {h : zH} (H : TX n b h) {q l4 : Nat} {v : Int} (hq : h 1 2 = (q : Int)) (hd : dgp n b q) (hl : l4 < 2) : fX9_number_c10 N (k + 1) 2 (sg n b q) v (l4 : Int) h = fX9_number_c10 N k 2 (sg n b (q + 1)) (v * 10 + sg n b q - 48) ((l4 + 1 : Nat) : Int) (zs h 1 2 ((q + 1 : Nat) : Int)) := by
  have n240 := T.1
  have lq := dgp_lt hd
  show fX9_number_c10b N (fX9_number_c10 N k) 2 _ _ _ h = _
  unfold fX9_number_c10b
  rw [show zw 2 = 2 by decide, zw_id (show -2147483648 ≤ (l4 : Int) ∧ (l4 : Int) < 2147483648 by omega), if_neg (by omega), isDX (sg_w T), if_pos hd, if_neg (show ¬ zw 1 = 0 by decide), hq]
  simp only [zlet_v]
  have e1 : zs h 1 2 ((q : Int) + 1) 1 1 = (n : Int) := by rw [zs_ne (by decide)]; exact H.1
  rw [e1, zs_at, show (q : Int) + 1 = ((q + 1 : Nat) : Int) by omega, zw_id (show -2147483648 ≤ (n : Int) ∧ (n : Int) < 2147483648 by omega), zw_id (show -2147483648 ≤ ((q + 1 : Nat) : Int) ∧ ((q + 1 : Nat) : Int) < 2147483648 by omega)]
  by_cases c : q + 1 < n
  · rw [if_neg (by omega), at15 T (TX_to H (by rw [zs_ne (by decide)]) (zs_row_ne (by decide))) c]
    unfold sg
    rw [if_pos c]
    rfl
  · rw [if_pos (by omega), show sg n b (q + 1) = -1 by unfold sg; rw [if_neg c]]
    rfl
theorem c10E {n : Nat} {b : Nat → Nat} (T : TV n b) {N k : Nat} {h : zH} {q l4 : Nat} {v : Int} (hf : h 1 3 = -1) (hq : h 1 2 = (q : Int)) (hl : 1 ≤ l4 ∧ l4 ≤ 2) (hd : l4 = 2 ∨ ¬ dgp n b q) : fX9_number_c10 N (k + 1) 2 (sg n b q) v (l4 : Int) h = if dgp n b q then some (v, zs h 1 3 (q : Int)) else some (v, h) := by
  have n240 := T.1
  show fX9_number_c10b N (fX9_number_c10 N k) 2 _ _ _ h = _
  unfold fX9_number_c10b
  rw [show zw 2 = 2 by decide, zw_id (show -2147483648 ≤ (l4 : Int) ∧ (l4 : Int) < 2147483648 by omega), isDX (sg_w T)]
  by_cases c : dgp n b q
  · have h2 : l4 = 2 := by
      rcases hd with h | h
      · exact h
      · exact absurd c h
    rw [if_pos c, if_pos c, if_pos (by omega), if_neg (by omega), if_neg (show ¬ zw 1 = 0 by decide), hq, blameX hf (by decide), if_pos rfl]
    rfl
  · rw [if_neg c, if_neg c, if_pos zw_0, if_neg (show ¬ (l4 : Int) = 0 by omega)]
    split <;> rfl
theorem numX {n : Nat} {b : Nat → Nat} (T : TV n b) {N : Nat} (hN : 300 ≤ N) {h : zH} (H : TX n b h) {p : Nat} (hp : p ≤ n) (hpl : h 1 2 = (p : Int)) (hf : h 1 3 = -1) : ∃ h', fX9_number N 2 h = some ((nbr n b p).2.1, h') ∧ FR [1] h h' ∧ FS 1 [2, 3] h h' ∧ h' 1 2 = ((nbr n b p).1 : Int) ∧ h' 1 3 = (nbr n b p).2.2 := by
  obtain ⟨K, rfl⟩ : ∃ K, N = K + 3 := ⟨N - 3, by omega⟩
  obtain ⟨h1, e1, e2, e3, e4⟩ := nextX T hN H hp hpl hf (by decide)
  rw [if_pos rfl] at e1
  have hf1 : h1 1 3 = -1 := by rw [e3 3 (by decide)]; exact hf
  have G1 : FS 1 [2, 3] h h1 := fun q hq => e3 q (fun e => hq (by rw [List.mem_singleton.mp e]; decide))
  have T1 : TX n b h1 := TX_to H (G1 1 (by decide)) (e2 15 (by decide))
  unfold fX9_number
  rw [e1, z2_some]
  unfold nbr
  by_cases c0 : dgp n b (skp n b p)
  · rw [if_pos c0, show (0 : Int) = ((0 : Nat) : Int) from rfl, c10S (k := K + 2) T T1 e4 c0 (by decide)]
    obtain ⟨h2, eh2⟩ : ∃ h2, h2 = zs h1 1 2 ((skp n b p + 1 : Nat) : Int) := ⟨_, rfl⟩
    rw [← eh2]
    have F2 : FR [1] h h2 := by rw [eh2]; exact FR_tr e2 (fun b hb => zs_row_ne (fun e => hb (by rw [e]; decide)))
    have G2 : FS 1 [2, 3] h h2 := by rw [eh2]; exact FS_tr G1 (fun q hq => zs_ne (fun e => hq (by rw [e]; decide)))
    have p2 : h2 1 2 = ((skp n b p + 1 : Nat) : Int) := by rw [eh2, zs_at]
    have f2 : h2 1 3 = -1 := by rw [eh2, zs_ne (by decide)]; exact hf1
    have v1 : ((0 : Nat) : Int) * 10 + sg n b (skp n b p) - 48 = sg n b (skp n b p) - 48 := by omega
    rw [v1]
    by_cases c1 : dgp n b (skp n b p + 1)
    · rw [if_pos c1, c10S (k := K + 1) T (TX_to H (G2 1 (by decide)) (F2 15 (by decide))) p2 c1 (by decide)]
      obtain ⟨h3, eh3⟩ : ∃ h3, h3 = zs h2 1 2 ((skp n b p + 1 + 1 : Nat) : Int) := ⟨_, rfl⟩
      rw [← eh3]
      have F3 : FR [1] h h3 := by rw [eh3]; exact FR_tr F2 (fun b hb => zs_row_ne (fun e => hb (by rw [e]; decide)))
      have G3 : FS 1 [2, 3] h h3 := by rw [eh3]; exact FS_tr G2 (fun q hq => zs_ne (fun e => hq (by rw [e]; decide)))
      have p3 : h3 1 2 = ((skp n b p + 2 : Nat) : Int) := by rw [eh3, zs_at]
      have f3 : h3 1 3 = -1 := by rw [eh3, zs_ne (by decide)]; exact f2
      rw [c10E (k := K) T f3 p3 (show 1 ≤ 2 ∧ 2 ≤ 2 by decide) (Or.inl rfl)]
      by_cases c2 : dgp n b (skp n b p + 2)
      · rw [if_pos c2, if_pos c2]
        exact ⟨_, rfl, FR_tr F3 (fun b hb => zs_row_ne (fun e => hb (by rw [e]; decide))), FS_tr G3 (fun q hq => zs_ne (fun e => hq (by rw [e]; decide))), by rw [zs_ne (by decide)]; exact p3, zs_at⟩
      · rw [if_neg c2, if_neg c2]
        exact ⟨_, rfl, F3, G3, p3, f3⟩
    · rw [if_neg c1, c10E (k := K + 1) T f2 p2 (show 1 ≤ 1 ∧ 1 ≤ 2 by decide) (Or.inr c1), if_neg c1]
      exact ⟨_, rfl, F2, G2, p2, f2⟩
  · rw [if_neg c0]
    show ∃ h', fX9_number_c10b (K + 3) (fX9_number_c10 (K + 3) (K + 2)) 2 _ 0 0 h1 = _ ∧ _
    unfold fX9_number_c10b
    rw [show zw 2 = 2 by decide, zw_0, if_neg (by decide), isDX (sg_w T), if_neg c0, if_pos zw_0, if_pos rfl, e4, blameX hf1 (by decide), if_pos rfl]
    exact ⟨_, rfl, FR_tr e2 (fun b hb => zs_row_ne (fun e => hb (by rw [e]; decide))), FS_tr G1 (fun q hq => zs_ne (fun e => hq (by rw [e]; decide))), by rw [zs_ne (by decide)]; exact e4, zs_at⟩
