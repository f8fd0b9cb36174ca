/-! a clause of a hill, the model's -/
def DM (ct : Nat → Nat) (t : Nat → Int) (g : zH) : Prop := (g 14 21 = (ct 1 : Int) ∧ g 14 22 = (ct 2 : Int) ∧ g 14 23 = (ct 3 : Int)) ∧ ∀ k i j, k < 4 → (i < ct k ∨ (k = 0 ∧ i = 0)) → j < itN k → g (59 + k) (itN k * i + j) = t (32 * k + 4 * i + j)
theorem zln59 : ∀ k, k < 4 → itN k * mxI k = zln (59 + k) ∧ zln (59 + k) ≤ 100 := by decide
theorem oneCM {n : Nat} {b : Nat → Nat} (T : TV n b) {N : Nat} (hN : 300 ≤ N) {ct : Nat → Nat} {t : Nat → Int} {k p : Nat} (V : DV ct) (hk : k < 4) (eS : clS n b p = k) (cm : ct k < mxI k) {g : zH} (H : TMo n b g) (hlt : skp n b p < n) (hpl : g 14 3 = (skp n b p : Int)) (hf : g 14 4 = -1) (D : ∀ k i j, k < 4 → (i < ct k ∨ (k = 0 ∧ i = 0)) → j < itN k → g (59 + k) (itN k * i + j) = t (32 * k + 4 * i + j)) : ∃ g', fX11_items N (59 + k) (itL k) ((itN k * ct k : Nat) : Int) (itN k : Int) (zs g 14 3 ((skp n b p : Int) + 1)) = some g' ∧ FR [14, 59, 60, 61, 62] g g' ∧ FS 14 [3, 4] g g' ∧ g' 14 4 = (iAll n b k (skp n b p + 1)).2.1 ∧ ((iAll n b k (skp n b p + 1)).2.1 = -1 → g' 14 3 = (clE n b p : Int) ∧ ∀ q i j, q < 4 → (i < clC n b p ct q ∨ (q = 0 ∧ i = 0)) → j < itN q → g' (59 + q) (itN q * i + j) = clT n b p ct t (32 * q + 4 * i + j)) := by
  obtain ⟨z1, z2⟩ := zln59 k hk
  have hle : itN k * (ct k + 1) ≤ itN k * mxI k := Nat.mul_le_mul_left _ cm
  rw [Nat.mul_succ] at hle
  have F0 : FR [14] g (zs g 14 3 ((skp n b p : Int) + 1)) := fun b hb => zs_row_ne (fun e => hb (by rw [e]; decide))
  have G0 : FS 14 [3, 4] g (zs g 14 3 ((skp n b p : Int) + 1)) := fun q hq => zs_ne (fun e => hq (by rw [e]; decide))
  obtain ⟨g', r1, r2, r3, r4, r5, r6⟩ := itemsM (o := 59 + k) (B := itN k * ct k) (p := skp n b p + 1) T hN hk (by omega) (by omega) z2 (TM_to H (G0 2 (by decide)) (F0 49 (by decide))) (show skp n b p + 1 ≤ n by omega) (by rw [zs_at]; rfl) (by rw [zs_ne (by decide)]; exact hf)
  refine ⟨g', r1, fun b hb => ?_, FS_tr G0 r3, r5, fun hc => ?_⟩
  · rw [r2 b (fun e => hb ?_), F0 b (fun e => hb (by rw [List.mem_singleton.mp e]; decide))]
    rcases List.mem_cons.mp e with e | e
    · rw [e]; decide
    · rw [List.mem_singleton.mp e]
      rcases (show k = 0 ∨ k = 1 ∨ k = 2 ∨ k = 3 by omega) with rfl | rfl | rfl | rfl <;> decide
  · obtain ⟨x1, x2⟩ := r6 hc
    have eE : clE n b p = (iAll n b k (skp n b p + 1)).1 := by unfold clE; rw [eS]
    refine ⟨by rw [eE]; exact x1, fun q i j hq hi hj => ?_⟩
    unfold clT clB
    rw [eS]
    have jq := itN_4 q
    have kq := itN_4 k
    have m8 := mxI_8 k
    by_cases eq : q = k
    · have ile : i ≤ ct k := by
        rcases hi with hi | ⟨_, hi⟩
        · unfold clC at hi
          rw [eS, if_pos eq, eq] at hi; omega
        · omega
      rw [eq] at hj ⊢
      by_cases ei : i = ct k
      · rw [ei, if_pos (by omega), x2 j hj, show 32 * k + 4 * ct k + j - (32 * k + 4 * ct k) = j by omega]
      · have hl2 : itN k * (i + 1) ≤ itN k * ct k := Nat.mul_le_mul_left _ (by omega)
        rw [Nat.mul_succ] at hl2
        rw [if_neg (by omega), r4 _ (by omega), zs_row_ne (by omega)]
        exact D k i j hk (Or.inl (by omega)) hj
    · have hi' : i < ct q ∨ (q = 0 ∧ i = 0) := by
        rcases hi with hi | hi
        · unfold clC at hi
          rw [eS, if_neg eq] at hi
          exact Or.inl hi
        · exact Or.inr hi
      have hrow : g' (59 + q) = g (59 + q) := by
        rw [r2 (59 + q) (fun e => by
          rcases List.mem_cons.mp e with e | e
          · omega
          · have := List.mem_singleton.mp e
            omega), F0 (59 + q) (fun e => by have := List.mem_singleton.mp e; omega)]
      rw [hrow, D q i j hq hi' hj]
      by_cases cin : 32 * k + 4 * ct k ≤ 32 * q + 4 * i + j ∧ 32 * q + 4 * i + j < 32 * k + 4 * ct k + itN k
      · exfalso
        have vq := V q hq
        have mq := mxI_8 q
        omega
      · rw [if_neg cin]
