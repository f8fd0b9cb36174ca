/-! letters of items, ranges, what is usual -/
/-- the item that a letter names, of the sort k (sun, parish, desk, paper) -/
def itI (k : Nat) (c : Int) : Int := if k = 0 then (if c = 97 then 0 else if c = 108 then 1 else -1) else if k = 1 then (if c = 102 then 0 else if c = 110 then 1 else if c = 122 then 2 else -1) else if k = 2 then (if c = 111 then 0 else if c = 99 then 1 else if c = 116 then 2 else if c = 101 then 3 else -1) else (if c = 100 then 0 else if c = 110 then 1 else if c = 109 then 2 else -1)
def itN (k : Nat) : Nat := if k = 0 then 2 else if k = 1 then 3 else if k = 2 then 4 else 3
def itL (k : Nat) : Int := (zTb 0).getD k 0
theorem itI_b {k : Nat} {c : Int} : -1 ≤ itI k c ∧ itI k c < itN k := by
  unfold itI itN
  by_cases k0 : k = 0
  · simp only [if_pos k0]
    (repeat' split) <;> omega
  · simp only [if_neg k0]
    by_cases k1 : k = 1
    · simp only [if_pos k1]
      (repeat' split) <;> omega
    · simp only [if_neg k1]
      by_cases k2 : k = 2
      · simp only [if_pos k2]
        (repeat' split) <;> omega
      · simp only [if_neg k2]
        (repeat' split) <;> omega
theorem itS {N m k i : Nat} {c : Int} (hc : zw c = c) (hk : k < 4) (hi : i < 4) : fX1_itemOf_c2 N (m + 1) (k : Int) c (i : Int) = if zw ((zTb 1).getD (4 * k + i) 0) = c then some (i : Int) else fX1_itemOf_c2 N m (k : Int) c ((i + 1 : Nat) : Int) := by
  show fX1_itemOf_c2b N (fX1_itemOf_c2 N m) _ _ _ = _
  unfold fX1_itemOf_c2b
  have e : zTn 1 = 16 := rfl
  rw [show zw 4 = 4 by decide, show zw 16 = 16 by decide, e, show ((k : Int) * 4) + (i : Int) = ((4 * k + i : Nat) : Int) by omega, zw_id (show -2147483648 ≤ (i : Int) ∧ (i : Int) < 2147483648 by omega), zw_id (show -2147483648 ≤ ((4 * k + i : Nat) : Int) ∧ ((4 * k + i : Nat) : Int) < 2147483648 by omega), if_neg (by omega), if_neg (by omega), if_neg (by omega), if_pos (by omega), Int.toNat_natCast, hc]
  rfl
theorem itE {N m k : Nat} {c : Int} : fX1_itemOf_c2 N (m + 1) (k : Int) c ((4 : Nat) : Int) = some (-1) := by
  show fX1_itemOf_c2b N (fX1_itemOf_c2 N m) _ _ _ = _
  unfold fX1_itemOf_c2b
  rw [if_pos (show zw 4 ≤ zw ((4 : Nat) : Int) by decide)]
theorem itX {N k : Nat} {c : Int} (hN : 10 ≤ N) (hc : zw c = c) (h32 : c ≠ 32) (hk : k < 4) : fX1_itemOf N (k : Int) c = some (itI k c) := by
  obtain ⟨K, rfl⟩ : ∃ K, N = K + 5 := ⟨N - 5, by omega⟩
  have s0 := itS (N := K + 5) (m := K + 4) (i := 0) hc hk (by decide)
  have s1 := itS (N := K + 5) (m := K + 3) (i := 1) hc hk (by decide)
  have s2 := itS (N := K + 5) (m := K + 2) (i := 2) hc hk (by decide)
  have s3 := itS (N := K + 5) (m := K + 1) (i := 3) hc hk (by decide)
  have s4 := itE (N := K + 5) (m := K) (k := k) (c := c)
  show fX1_itemOf_c2 (K + 5) (K + 4 + 1) (k : Int) c ((0 : Nat) : Int) = _
  rw [s0, s1, s2, s3, s4]
  have h32' : ¬ (32 : Int) = c := fun e => h32 e.symm
  unfold itI
  rcases (show k = 0 ∨ k = 1 ∨ k = 2 ∨ k = 3 by omega) with rfl | rfl | rfl | rfl
  · rw [show zw ((zTb 1).getD (4 * 0 + 0) 0) = 97 by decide, show zw ((zTb 1).getD (4 * 0 + 1) 0) = 108 by decide, show zw ((zTb 1).getD (4 * 0 + 2) 0) = 32 by decide, show zw ((zTb 1).getD (4 * 0 + 3) 0) = 32 by decide, if_neg h32', if_neg h32', if_pos rfl]
    by_cases c0 : c = 97
    · rw [if_pos c0.symm, if_pos c0]; rfl
    · rw [if_neg (fun e => c0 e.symm), if_neg c0]
      by_cases c1 : c = 108
      · rw [if_pos c1.symm, if_pos c1]; rfl
      · rw [if_neg (fun e => c1 e.symm), if_neg c1]
  · rw [show zw ((zTb 1).getD (4 * 1 + 0) 0) = 102 by decide, show zw ((zTb 1).getD (4 * 1 + 1) 0) = 110 by decide, show zw ((zTb 1).getD (4 * 1 + 2) 0) = 122 by decide, show zw ((zTb 1).getD (4 * 1 + 3) 0) = 32 by decide, if_neg h32', if_neg (show ¬ (1 : Nat) = 0 by decide), if_pos rfl]
    by_cases c0 : c = 102
    · rw [if_pos c0.symm, if_pos c0]; rfl
    · rw [if_neg (fun e => c0 e.symm), if_neg c0]
      by_cases c1 : c = 110
      · rw [if_pos c1.symm, if_pos c1]; rfl
      · rw [if_neg (fun e => c1 e.symm), if_neg c1]
        by_cases c2 : c = 122
        · rw [if_pos c2.symm, if_pos c2]; rfl
        · rw [if_neg (fun e => c2 e.symm), if_neg c2]
  · rw [show zw ((zTb 1).getD (4 * 2 + 0) 0) = 111 by decide, show zw ((zTb 1).getD (4 * 2 + 1) 0) = 99 by decide, show zw ((zTb 1).getD (4 * 2 + 2) 0) = 116 by decide, show zw ((zTb 1).getD (4 * 2 + 3) 0) = 101 by decide, if_neg (show ¬ (2 : Nat) = 0 by decide), if_neg (show ¬ (2 : Nat) = 1 by decide), if_pos rfl]
    by_cases c0 : c = 111
    · rw [if_pos c0.symm, if_pos c0]; rfl
    · rw [if_neg (fun e => c0 e.symm), if_neg c0]
      by_cases c1 : c = 99
      · rw [if_pos c1.symm, if_pos c1]; rfl
      · rw [if_neg (fun e => c1 e.symm), if_neg c1]
        by_cases c2 : c = 116
        · rw [if_pos c2.symm, if_pos c2]; rfl
        · rw [if_neg (fun e => c2 e.symm), if_neg c2]
          by_cases c3 : c = 101
          · rw [if_pos c3.symm, if_pos c3]; rfl
          · rw [if_neg (fun e => c3 e.symm), if_neg c3]
  · rw [show zw ((zTb 1).getD (4 * 3 + 0) 0) = 100 by decide, show zw ((zTb 1).getD (4 * 3 + 1) 0) = 110 by decide, show zw ((zTb 1).getD (4 * 3 + 2) 0) = 109 by decide, show zw ((zTb 1).getD (4 * 3 + 3) 0) = 32 by decide, if_neg h32', if_neg (show ¬ (3 : Nat) = 0 by decide), if_neg (show ¬ (3 : Nat) = 1 by decide), if_neg (show ¬ (3 : Nat) = 2 by decide)]
    by_cases c0 : c = 100
    · rw [if_pos c0.symm, if_pos c0]; rfl
    · rw [if_neg (fun e => c0 e.symm), if_neg c0]
      by_cases c1 : c = 110
      · rw [if_pos c1.symm, if_pos c1]; rfl
      · rw [if_neg (fun e => c1 e.symm), if_neg c1]
        by_cases c2 : c = 109
        · rw [if_pos c2.symm, if_pos c2]; rfl
        · rw [if_neg (fun e => c2 e.symm), if_neg c2]
theorem itM {k : Nat} {c : Int} (hc : zw c = c) (hk : k < 4) : fX11_itemOf (itL k) c = itI k c := by
  unfold fX11_itemOf itI
  rw [hc]
  rcases (show k = 0 ∨ k = 1 ∨ k = 2 ∨ k = 3 by omega) with rfl | rfl | rfl | rfl
  · rw [if_neg (show ¬ zw (itL 0) = 100 by decide), if_neg (show ¬ zw (itL 0) = 112 by decide), if_pos (show zw (itL 0) = 115 by decide), if_pos rfl]; rfl
  · rw [if_neg (show ¬ zw (itL 1) = 100 by decide), if_pos (show zw (itL 1) = 112 by decide), if_neg (show ¬ (1 : Nat) = 0 by decide), if_pos rfl]; rfl
  · rw [if_pos (show zw (itL 2) = 100 by decide), if_neg (show ¬ (2 : Nat) = 0 by decide), if_neg (show ¬ (2 : Nat) = 1 by decide), if_pos rfl]; rfl
  · rw [if_neg (show ¬ zw (itL 3) = 100 by decide), if_neg (show ¬ zw (itL 3) = 112 by decide), if_neg (show ¬ zw (itL 3) = 115 by decide), if_neg (show ¬ (3 : Nat) = 0 by decide), if_neg (show ¬ (3 : Nat) = 1 by decide), if_neg (show ¬ (3 : Nat) = 2 by decide)]; rfl
/-- the class's ranges are the model's -/
theorem rng_eq : ∀ k, k < 4 → ∀ i, i < itN k → zats 2 ((k : Int) * 4 + (i : Int)) = fX11_lowest (itL k) (i : Int) ∧ zats 3 ((k : Int) * 4 + (i : Int)) = fX11_highest (itL k) (i : Int) ∧ zats 0 ((k : Int) * 4 + (i : Int)) = fX11_usual (itL k) (i : Int) ∧ (0 ≤ fX11_lowest (itL k) (i : Int) ∧ fX11_lowest (itL k) (i : Int) ≤ 99) ∧ (0 ≤ fX11_highest (itL k) (i : Int) ∧ fX11_highest (itL k) (i : Int) ≤ 99) ∧ (0 ≤ fX11_usual (itL k) (i : Int) ∧ fX11_usual (itL k) (i : Int) ≤ 99) := by
  intro k hk i hi
  rcases (show k = 0 ∨ k = 1 ∨ k = 2 ∨ k = 3 by omega) with rfl | rfl | rfl | rfl
  · have hi : i < 2 := hi
    rcases (show i = 0 ∨ i = 1 by omega) with rfl | rfl <;> decide
  · have hi : i < 3 := hi
    rcases (show i = 0 ∨ i = 1 ∨ i = 2 by omega) with rfl | rfl | rfl <;> decide
  · have hi : i < 4 := hi
    rcases (show i = 0 ∨ i = 1 ∨ i = 2 ∨ i = 3 by omega) with rfl | rfl | rfl | rfl <;> decide
  · have hi : i < 3 := hi
    rcases (show i = 0 ∨ i = 1 ∨ i = 2 by omega) with rfl | rfl | rfl <;> decide
