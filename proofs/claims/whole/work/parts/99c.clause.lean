/-! the model's items from the usual ones; the class's clause -/
theorem itemsM {n : Nat} {b : Nat → Nat} (T : TV n b) {N : Nat} (hN : 300 ≤ N) {k o B p : Nat} (hk : k < 4) (ho : 59 ≤ o ∧ o ≤ 62) (hB : B + itN k ≤ zln o) (hz : zln o ≤ 100) {g : zH} (H : TMo n b g) (hp : p ≤ n) (hpl : g 14 3 = (p : Int)) (hf : g 14 4 = -1) : ∃ g', fX11_items N o (itL k) (B : Int) (itN k : Int) g = some g' ∧ FR [14, o] g g' ∧ FS 14 [3, 4] g g' ∧ (∀ q, q < B ∨ B + itN k ≤ q → g' o q = g o q) ∧ g' 14 4 = (iAll n b k p).2.1 ∧ ((iAll n b k p).2.1 = -1 → g' 14 3 = ((iAll n b k p).1 : Int) ∧ ∀ i, i < itN k → g' o (B + i) = (iAll n b k p).2.2 i) := by
  have h4 := itN_4 k
  have n240 := T.1
  have mo : o ∈ [14, o] := List.mem_cons_of_mem _ (List.mem_cons_self ..)
  refine zloopq (F := fun m i (s : zH) => fX11_items_c3 N o m (itL k) (B : Int) (itN k : Int) i s) (n := itN k) (s := g) (fun i s => FR [o] g s ∧ (∀ q, q < B ∨ B + itN k ≤ q → s o q = g o q) ∧ ∀ j, j < i → s o (B + j) = iUs k j) (fun r => ∃ g', r = some g' ∧ FR [14, o] g g' ∧ FS 14 [3, 4] g g' ∧ (∀ q, q < B ∨ B + itN k ≤ q → g' o q = g o q) ∧ g' 14 4 = (iAll n b k p).2.1 ∧ ((iAll n b k p).2.1 = -1 → g' 14 3 = ((iAll n b k p).1 : Int) ∧ ∀ i, i < itN k → g' o (B + i) = (iAll n b k p).2.2 i)) (fun m i s hi hI => ?_) (fun m s hI => ?_) (by omega) ⟨FR_rf, fun q _ => rfl, fun j hj => absurd hj (by omega)⟩
  · obtain ⟨i1, i2, i3⟩ := hI
    left
    refine ⟨zs s o (B + i) (iUs k i), ?_, FR_tr i1 (fun b hb => zs_row_ne (fun e => hb (by rw [e]; exact List.mem_singleton.mpr rfl))), fun q hq => by rw [zs_ne (by omega)]; exact i2 q hq, fun j hj => ?_⟩
    · show fX11_items_c3b N o (fX11_items_c3 N o m) _ _ _ _ s = _
      unfold fX11_items_c3b
      rw [zw_id (show -2147483648 ≤ (itN k : Int) ∧ (itN k : Int) < 2147483648 by omega), zw_id (show -2147483648 ≤ (i : Int) ∧ (i : Int) < 2147483648 by omega), if_neg (by omega), show (B : Int) + (i : Int) = ((B + i : Nat) : Int) by omega, zw_id (show -2147483648 ≤ ((B + i : Nat) : Int) ∧ ((B + i : Nat) : Int) < 2147483648 by omega), if_pos (by omega), Int.toNat_natCast]
      rfl
    · by_cases e : j = i
      · rw [e, zs_at]
      · rw [zs_ne (by omega)]; exact i3 j (by omega)
  · obtain ⟨i1, i2, i3⟩ := hI
    show ∃ g', fX11_items_c3b N o (fX11_items_c3 N o m) _ _ _ _ s = _ ∧ _
    unfold fX11_items_c3b
    have a14 : s 14 = g 14 := i1 14 (fun e => by have := List.mem_singleton.mp e; omega)
    have T1 : TMo n b s := TM_to H (by rw [a14]) (i1 49 (fun e => by have := List.mem_singleton.mp e; omega))
    obtain ⟨g1, w1, w2, w3, w4⟩ := lookM T hN T1 (show p < 100000 by omega) (by rw [a14]; exact hpl)
    have sk := skp_b (b := b) hp
    rw [if_pos (show zw (itN k : Int) ≤ zw (itN k : Int) from Int.le_refl _), w1, z2_some, zlet_v, itM (sg_w T) hk]
    have W : FR [14, o] g g1 := FR_tr (fun b hb => i1 b (fun e => hb (by rw [List.mem_singleton.mp e]; exact mo))) (fun b hb => w2 b (fun e => hb (by rw [List.mem_singleton.mp e]; exact List.mem_cons_self ..)))
    have W3 : FS 14 [3, 4] g g1 := fun q hq => by rw [w3 q (fun e => hq (by rw [List.mem_singleton.mp e]; decide)), a14]
    have Wo : ∀ q, g1 o q = s o q := fun q => by rw [w2 o (fun e => by have := List.mem_singleton.mp e; omega)]
    obtain ⟨g5, x1, x2, x3, x4, x5, x6⟩ := loopIM T hN hk ho hB hz 4 0 (skp n b p) N (iUs k) g1 rfl (by decide) (by omega) sk.2.1 (TM_to H (W3 2 (by decide)) (W 49 (fun e => by
      rcases List.mem_cons.mp e with e | e
      · omega
      · have := List.mem_singleton.mp e
        omega))) w4 (by rw [w3 4 (by decide), a14]; exact hf) (fun i hi => by rw [Wo]; exact i3 i hi)
    exact ⟨g5, x1, FR_tr W x2, FS_tr W3 x3, fun q hq => by rw [x4 q hq, Wo]; exact i2 q hq, x5, x6⟩
/-- how many of a sort there may be; the sort that a letter names -/
def mxI (k : Nat) : Nat := if k = 0 then 1 else if k = 1 then 6 else if k = 2 then 4 else 8
def srt (c : Int) : Int := if c = 115 then 0 else if c = 112 then 1 else if c = 100 then 2 else if c = 114 then 3 else -1
theorem mx_eq : ∀ k : Nat, k < 4 → zats 1 (k : Int) = (mxI k : Int) := by decide +kernel
theorem srtX {N : Nat} (hN : 10 ≤ N) {c : Int} (hc : zw c = c) : fX10_placeIn N 0 c = some (srt c) := by
  obtain ⟨K, rfl⟩ : ∃ K, N = K + 5 := ⟨N - 5, by omega⟩
  have l : (zTb 0).length = 4 := rfl
  have s0 := plS (N := K + 5) (t := 0) (k := K + 4) (i := 0) hc (by decide) (by rw [l]; decide)
  have s1 := plS (N := K + 5) (t := 0) (k := K + 3) (i := 1) hc (by decide) (by rw [l]; decide)
  have s2 := plS (N := K + 5) (t := 0) (k := K + 2) (i := 2) hc (by decide) (by rw [l]; decide)
  have s3 := plS (N := K + 5) (t := 0) (k := K + 1) (i := 3) hc (by decide) (by rw [l]; decide)
  have s4 := plS (N := K + 5) (t := 0) (k := K) (i := 4) hc (by decide) (by rw [l]; decide)
  rw [l, if_pos (by decide), show zw ((zTb 0).getD 0 0) = 115 by decide] at s0
  rw [l, if_pos (by decide), show zw ((zTb 0).getD 1 0) = 112 by decide] at s1
  rw [l, if_pos (by decide), show zw ((zTb 0).getD 2 0) = 100 by decide] at s2
  rw [l, if_pos (by decide), show zw ((zTb 0).getD 3 0) = 114 by decide] at s3
  rw [l, if_neg (by decide)] at s4
  show fX10_placeIn_c2 (K + 5) 0 (K + 4 + 1) c ((0 : Nat) : Int) = _
  unfold srt
  rw [s0]
  by_cases c0 : c = 115
  · rw [if_pos c0.symm, if_pos c0]; rfl
  · rw [if_neg (fun e => c0 e.symm), if_neg c0, s1]
    by_cases c1 : c = 112
    · rw [if_pos c1.symm, if_pos c1]; rfl
    · rw [if_neg (fun e => c1 e.symm), if_neg c1, s2]
      by_cases c2 : c = 100
      · rw [if_pos c2.symm, if_pos c2]; rfl
      · rw [if_neg (fun e => c2 e.symm), if_neg c2, s3]
        by_cases c3 : c = 114
        · rw [if_pos c3.symm, if_pos c3]; rfl
        · rw [if_neg (fun e => c3 e.symm), if_neg c3, s4]
theorem usX {N : Nat} (hN : 10 ≤ N) {k idx : Nat} (hk : k < 4) (hx : idx < 8) {h : zH} : ∃ h', fX1_useUntold N 3 (k : Int) (idx : Int) h = some h' ∧ FR [19] h h' ∧ (∀ q, q < 32 * k + 4 * idx ∨ 32 * k + 4 * idx + 4 ≤ q → h' 19 q = h 19 q) ∧ ∀ i, i < itN k → h' 19 (32 * k + 4 * idx + i) = iUs k i := by
  have h4 := itN_4 k
  refine zloopq (F := fun m i (s : zH) => fX1_useUntold_c2 N 3 m (k : Int) (idx : Int) i s) (n := 4) (s := h) (fun i s => FR [19] h s ∧ (∀ q, q < 32 * k + 4 * idx ∨ 32 * k + 4 * idx + 4 ≤ q → s 19 q = h 19 q) ∧ ∀ j, j < i → j < itN k → s 19 (32 * k + 4 * idx + j) = iUs k j) (fun r => ∃ h', r = some h' ∧ FR [19] h h' ∧ (∀ q, q < 32 * k + 4 * idx ∨ 32 * k + 4 * idx + 4 ≤ q → h' 19 q = h 19 q) ∧ ∀ i, i < itN k → h' 19 (32 * k + 4 * idx + i) = iUs k i) (fun m i s hi hI => ?_) (fun m s hI => ?_) (by omega) ⟨FR_rf, fun q _ => rfl, fun j hj => absurd hj (by omega)⟩
  · obtain ⟨i1, i2, i3⟩ := hI
    left
    refine ⟨zs s 19 (32 * k + 4 * idx + i) (zats 0 ((k : Int) * 4 + (i : Int))), ?_, FR_tr i1 (fun b hb => zs_row_ne (fun e => hb (by rw [e]; decide))), fun q hq => by rw [zs_ne (by omega)]; exact i2 q hq, fun j hj hj2 => ?_⟩
    · show fX1_useUntold_c2b N 3 (fX1_useUntold_c2 N 3 m) _ _ _ s = _
      unfold fX1_useUntold_c2b
      have ecell : fX1_cellOf (k : Int) (idx : Int) (i : Int) = ((32 * k + 4 * idx + i : Nat) : Int) := by unfold fX1_cellOf; omega
      have e19 : zfr 3 0 = 19 := rfl
      rw [show zw 4 = 4 by decide, zw_id (show -2147483648 ≤ (i : Int) ∧ (i : Int) < 2147483648 by omega), if_neg (by omega), ecell, e19, put19 (by omega)]
      rfl
    · by_cases e : j = i
      · rw [e, zs_at]; exact (rng_eq k hk i (by omega)).2.2.1
      · rw [zs_ne (by omega)]; exact i3 j (by omega) hj2
  · obtain ⟨i1, i2, i3⟩ := hI
    refine ⟨s, ?_, i1, i2, fun i hi => i3 i (by omega) hi⟩
    show fX1_useUntold_c2b N 3 (fX1_useUntold_c2 N 3 m) _ _ _ s = _
    unfold fX1_useUntold_c2b
    rw [if_pos (show zw 4 ≤ zw ((4 : Nat) : Int) by decide)]
