/-! orders are read -/
theorem plS {N t : Nat} {k i : Nat} {c : Int} (hc : zw c = c) (hi : i < 100) (hl : (zTb t).length ≤ 100) : fX10_placeIn_c2 N t (k + 1) c (i : Int) = if i < (zTb t).length then (if zw ((zTb t).getD i 0) = c then some (i : Int) else fX10_placeIn_c2 N t k c ((i + 1 : Nat) : Int)) else some (-1) := by
  show fX10_placeIn_c2b N t (fX10_placeIn_c2 N t k) _ _ = _
  unfold fX10_placeIn_c2b
  have e : zTn t = ((zTb t).length : Int) := rfl
  have e2 : zTc t (zw (i : Int)).toNat = (zTb t).getD i 0 := by
    unfold zTc
    rw [zw_id (show -2147483648 ≤ (i : Int) ∧ (i : Int) < 2147483648 by omega), Int.toNat_natCast]
  rw [e2, e, hc, zw_id (show -2147483648 ≤ ((zTb t).length : Int) ∧ ((zTb t).length : Int) < 2147483648 by omega), zw_id (show -2147483648 ≤ (i : Int) ∧ (i : Int) < 2147483648 by omega)]
  by_cases h : i < (zTb t).length
  · rw [if_neg (by omega), if_pos h, if_pos (by omega)]; rfl
  · rw [if_pos (by omega), if_neg h]
theorem pl3 {N : Nat} (hN : 10 ≤ N) {c : Int} (hc : zw c = c) : fX10_placeIn N 3 c = some (if c = 102 then 0 else if c = 119 then 1 else if c = 104 then 2 else -1) := by
  obtain ⟨K, rfl⟩ : ∃ K, N = K + 4 := ⟨N - 4, by omega⟩
  have l : (zTb 3).length = 3 := rfl
  have s0 := plS (N := K + 4) (t := 3) (k := K + 3) (i := 0) hc (by decide) (by rw [l]; decide)
  have s1 := plS (N := K + 4) (t := 3) (k := K + 2) (i := 1) hc (by decide) (by rw [l]; decide)
  have s2 := plS (N := K + 4) (t := 3) (k := K + 1) (i := 2) hc (by decide) (by rw [l]; decide)
  have s3 := plS (N := K + 4) (t := 3) (k := K) (i := 3) hc (by decide) (by rw [l]; decide)
  rw [l, if_pos (by decide), show zw ((zTb 3).getD 0 0) = 102 by decide] at s0
  rw [l, if_pos (by decide), show zw ((zTb 3).getD 1 0) = 119 by decide] at s1
  rw [l, if_pos (by decide), show zw ((zTb 3).getD 2 0) = 104 by decide] at s2
  rw [l, if_neg (by decide)] at s3
  show fX10_placeIn_c2 (K + 4) 3 (K + 3 + 1) c ((0 : Nat) : Int) = _
  rw [s0]
  by_cases c0 : c = 102
  · rw [if_pos c0.symm, if_pos c0]; rfl
  · rw [if_neg (fun e => c0 e.symm), if_neg c0, s1]
    by_cases c1 : c = 119
    · rw [if_pos c1.symm, if_pos c1]; rfl
    · rw [if_neg (fun e => c1 e.symm), if_neg c1, s2]
      by_cases c2 : c = 104
      · rw [if_pos c2.symm, if_pos c2]; rfl
      · rw [if_neg (fun e => c2 e.symm), if_neg c2, s3]
/-- a digit: where it ends, its value, the fault -/
def dgt (n : Nat) (b : Nat → Nat) (p : Nat) : Nat × Int × Int := if 48 ≤ sg n b (skp n b p) ∧ sg n b (skp n b p) ≤ 57 then (skp n b p + 1, sg n b (skp n b p) - 48, -1) else (skp n b p, -1, (skp n b p : Int))
theorem dgt_b {n p : Nat} {b : Nat → Nat} (hp : p ≤ n) : (dgt n b p).1 ≤ n ∧ -1 ≤ (dgt n b p).2.2 ∧ (dgt n b p).2.2 ≤ n ∧ -1 ≤ (dgt n b p).2.1 ∧ (dgt n b p).2.1 ≤ 9 := by
  obtain ⟨s1, s2, s3⟩ := skp_b (b := b) hp
  unfold dgt
  split
  · rename_i h
    have : skp n b p < n := sg_lt (show sg n b (skp n b p) ≠ -1 by omega)
    show skp n b p + 1 ≤ n ∧ -1 ≤ (-1 : Int) ∧ (-1 : Int) ≤ n ∧ -1 ≤ sg n b (skp n b p) - 48 ∧ sg n b (skp n b p) - 48 ≤ 9
    omega
  · show skp n b p ≤ n ∧ -1 ≤ (skp n b p : Int) ∧ (skp n b p : Int) ≤ n ∧ -1 ≤ (-1 : Int) ∧ (-1 : Int) ≤ 9
    omega
/-- a step: where it ends, its sort, its digits, the fault -/
def oSt (n : Nat) (b : Nat → Nat) (p : Nat) : Nat × Int × Int × Int × Int := if sg n b (skp n b p) = 102 then (if (dgt n b (skp n b p + 1)).2.2 = -1 then ((dgt n b (dgt n b (skp n b p + 1)).1).1, 0, (dgt n b (skp n b p + 1)).2.1, (dgt n b (dgt n b (skp n b p + 1)).1).2.1, (dgt n b (dgt n b (skp n b p + 1)).1).2.2) else ((dgt n b (skp n b p + 1)).1, 0, -1, -1, (dgt n b (skp n b p + 1)).2.2)) else if sg n b (skp n b p) = 119 then ((dgt n b (skp n b p + 1)).1, 1, (dgt n b (skp n b p + 1)).2.1, -1, (dgt n b (skp n b p + 1)).2.2) else if sg n b (skp n b p) = 104 then (skp n b p + 1, 2, -1, -1, -1) else (skp n b p, -1, -1, -1, (skp n b p : Int))
theorem rdX {n : Nat} {b : Nat → Nat} (T : TV n b) {N : Nat} (hN : 300 ≤ N) {h : zH} (H : TX n b h) {p : Nat} (hp : p ≤ n) (hpl : h 1 2 = (p : Int)) (hf : h 1 3 = -1) : ∃ h', fX2_readDigit N h = some ((dgt n b p).2.1, h') ∧ FR [1] h h' ∧ FS 1 [2, 3] h h' ∧ h' 1 2 = ((dgt n b p).1 : Int) ∧ h' 1 3 = (dgt n b p).2.2 := by
  obtain ⟨h1, e1, e2, e3, e4⟩ := nextX T hN H hp hpl hf (by decide)
  rw [if_pos rfl] at e1
  have hf1 : h1 1 3 = -1 := by rw [e3 3 (by decide)]; exact hf
  unfold fX2_readDigit dgt
  rw [e1, z2_some, isDX (sg_w T), zq]
  by_cases c : 48 ≤ sg n b (skp n b p) ∧ sg n b (skp n b p) ≤ 57
  · rw [if_pos c, if_pos c, zlet_v, e4]
    refine ⟨_, rfl, FR_tr e2 (fun b hb => zs_row_ne (fun e => hb (by rw [e]; decide))), fun j hj => ?_, zs_at, ?_⟩
    · rw [zs_ne (fun e => hj (by rw [e]; decide)), e3 j (fun e => hj (by rw [List.mem_singleton.mp e]; decide))]
    · rw [zs_ne (by decide)]; exact hf1
  · rw [if_neg c, if_neg c, blameX hf1 (by decide), if_pos rfl, zlet_v, e4]
    refine ⟨_, rfl, FR_tr e2 (fun b hb => zs_row_ne (fun e => hb (by rw [e]; decide))), fun j hj => ?_, ?_, zs_at⟩
    · rw [zs_ne (fun e => hj (by rw [e]; decide)), e3 j (fun e => hj (by rw [List.mem_singleton.mp e]; decide))]
    · rw [zs_ne (by decide)]; exact e4
/-- behind a fault the class's readers go nowhere -/
theorem rdXf {n : Nat} {b : Nat → Nat} (T : TV n b) {N : Nat} (hN : 300 ≤ N) {h : zH} (H : TX n b h) {p : Nat} (hp : p ≤ n) (hpl : h 1 2 = (p : Int)) {f : Int} (hf : h 1 3 = f) (hfb : 0 ≤ f ∧ f ≤ 1000) : ∃ h', fX2_readDigit N h = some (-1, h') ∧ FR [1] h h' ∧ FS 1 [2, 3] h h' ∧ (∃ q : Nat, h' 1 2 = (q : Int) ∧ q ≤ n) ∧ h' 1 3 = f := by
  obtain ⟨h1, e1, e2, e3, e4⟩ := nextX T hN H hp hpl hf (by omega)
  rw [if_neg (by omega)] at e1
  have hf1 : h1 1 3 = f := by rw [e3 3 (by decide)]; exact hf
  unfold fX2_readDigit
  rw [e1, z2_some, isDX zw_m1, if_neg (show ¬ ((48:Int) ≤ -1 ∧ (-1:Int) ≤ 57) by omega), zif0, blameX hf1 (by omega), if_neg (show ¬ f = -1 by omega), zlet_v]
  exact ⟨h1, rfl, e2, fun j hj => e3 j (fun e => hj (by rw [List.mem_singleton.mp e]; decide)), ⟨_, e4, (skp_b hp).2.1⟩, hf1⟩
theorem put29 {j : Nat} (hj : j < 48) (v : Int) (h : zH) : fX10_put 29 (j : Int) v h = zs h 29 j v := by
  rw [put_in (by omega) (by show _ < ((48 : Nat) : Int); omega), Int.toNat_natCast]
theorem stX72 {N : Nat} {l2 s0 : Int} {h : zH} {j : Nat} (hj : j < 16) (hd : h 6 4 = (j : Int)) (hl : l2 ≠ 0 ∧ zw l2 = l2) : fX2_readStep_c72 N l2 s0 (((j * 3 + 1 : Nat)) : Int) h = some (zs (zs (zs h 29 (3 * j + 1) s0) 29 (3 * j + 2) (-1)) 6 4 ((j + 1 : Nat) : Int)) := by
  unfold fX2_readStep_c72
  rw [put29 (by omega), zlet_v, hl.2, if_neg hl.1]
  have e1 : zs h 29 (j * 3 + 1) s0 6 4 = (j : Int) := by rw [zs_row_ne (by decide)]; exact hd
  rw [e1, show (j : Int) * 3 + 2 = ((j * 3 + 2 : Nat) : Int) by omega, put29 (by omega)]
  simp only [zlet_v]
  have e2 : zs (zs h 29 (j * 3 + 1) s0) 29 (j * 3 + 2) (-1) 6 4 = (j : Int) := by rw [zs_row_ne (by decide)]; exact e1
  rw [e2, Nat.mul_comm j 3]
  rfl
theorem stepX {n : Nat} {b : Nat → Nat} (T : TV n b) {N : Nat} (hN : 300 ≤ N) {h : zH} (H : TX n b h) {p j : Nat} (hp : p ≤ n) (hpl : h 1 2 = (p : Int)) (hf : h 1 3 = -1) (hj : j < 16) (hd : h 6 4 = (j : Int)) : ∃ h', fX2_readStep N h = some h' ∧ FR [1, 6, 29] h h' ∧ FS 1 [2, 3] h h' ∧ FS 6 [4] h h' ∧ h' 1 3 = (oSt n b p).2.2.2.2 ∧ (∃ q : Nat, h' 1 2 = (q : Int) ∧ q ≤ n) ∧ ((oSt n b p).2.2.2.2 = -1 → h' 1 2 = ((oSt n b p).1 : Int) ∧ h' 6 4 = ((j + 1 : Nat) : Int) ∧ (h' 29 (3 * j) = (oSt n b p).2.1 ∧ h' 29 (3 * j + 1) = (oSt n b p).2.2.1 ∧ h' 29 (3 * j + 2) = (oSt n b p).2.2.2.1) ∧ ∀ i, i < 3 * j → h' 29 i = h 29 i) := by
  have n240 := T.1
  obtain ⟨h1, e1, e2, e3, e4⟩ := nextX T hN H hp hpl hf (by decide)
  rw [if_pos rfl] at e1
  have hf1 : h1 1 3 = -1 := by rw [e3 3 (by decide)]; exact hf
  have hd1 : h1 6 4 = (j : Int) := by rw [e2 6 (by decide)]; exact hd
  obtain ⟨sk1, sk2, sk3⟩ := skp_b (b := b) hp
  have F1 : FR [1, 6, 29] h h1 := FR_up e2 (by decide)
  have G1 : FS 1 [2, 3] h h1 := fun q hq => e3 q (fun e => hq (by rw [List.mem_singleton.mp e]; decide))
  have sgw := sg_w (p := skp n b p) T
  unfold fX2_readStep
  rw [e1, z2_some, pl3 (by omega) sgw, zb_some]
  by_cases cno : sg n b (skp n b p) ≠ 102 ∧ sg n b (skp n b p) ≠ 119 ∧ sg n b (skp n b p) ≠ 104
  · have eo : oSt n b p = (skp n b p, -1, -1, -1, (skp n b p : Int)) := by
      unfold oSt
      rw [if_neg cno.1, if_neg cno.2.1, if_neg cno.2.2]
    rw [if_neg cno.1, if_neg cno.2.1, if_neg cno.2.2, zw_m1, if_neg (by decide), blameX hf1 (by decide), if_pos rfl, zlet_v, e4, eo]
    refine ⟨_, rfl, FR_tr F1 (fun b hb => zs_row_ne (fun e => hb (by rw [e]; decide))), FS_tr G1 (fun q hq => zs_ne (fun e => hq (by rw [e]; decide))), fun q _ => by rw [zs_row_ne (by decide), e2 6 (by decide)], zs_at, ⟨skp n b p, by rw [zs_ne (by decide)]; exact e4, sk2⟩, fun hc => ?_⟩
    have : ((skp n b p : Nat) : Int) = -1 := hc
    omega
  · have hlt : skp n b p < n := sg_lt (fun e => cno (by rw [e]; decide))
    -- behind the letter
    obtain ⟨s, hs, hsc⟩ : ∃ s : Nat, (if sg n b (skp n b p) = 102 then (0 : Int) else if sg n b (skp n b p) = 119 then 1 else if sg n b (skp n b p) = 104 then 2 else -1) = (s : Int) ∧ ((s = 0 ∧ sg n b (skp n b p) = 102) ∨ (s = 1 ∧ sg n b (skp n b p) = 119) ∨ (s = 2 ∧ sg n b (skp n b p) = 104)) := by
      by_cases c0 : sg n b (skp n b p) = 102
      · exact ⟨0, by rw [if_pos c0]; rfl, Or.inl ⟨rfl, c0⟩⟩
      · by_cases c1 : sg n b (skp n b p) = 119
        · exact ⟨1, by rw [if_neg c0, if_pos c1]; rfl, Or.inr (Or.inl ⟨rfl, c1⟩)⟩
        · by_cases c2 : sg n b (skp n b p) = 104
          · exact ⟨2, by rw [if_neg c0, if_neg c1, if_pos c2]; rfl, Or.inr (Or.inr ⟨rfl, c2⟩)⟩
          · exact absurd ⟨c0, c1, c2⟩ cno
    have hs3 : s ≤ 2 := by omega
    rw [hs, zw_id (show -2147483648 ≤ (s : Int) ∧ (s : Int) < 2147483648 by omega), if_pos (by omega)]
    simp only [zlet_v]
    have d1 : zs h1 1 2 (h1 1 2 + 1) 6 4 = (j : Int) := by rw [zs_row_ne (by decide)]; exact hd1
    have d2 : zs (zs h1 1 2 (h1 1 2 + 1)) 29 (j * 3) (s : Int) 6 4 = (j : Int) := by rw [zs_row_ne (by decide)]; exact d1
    rw [d1, show (j : Int) * 3 = ((j * 3 : Nat) : Int) by omega, put29 (by omega), d2, zw_2]
    obtain ⟨h2, eh2⟩ : ∃ h2, h2 = zs (zs h1 1 2 (h1 1 2 + 1)) 29 (j * 3) (s : Int) := ⟨_, rfl⟩
    rw [← eh2] at d2 ⊢
    have p2 : h2 1 2 = ((skp n b p + 1 : Nat) : Int) := by rw [eh2, zs_row_ne (by decide), zs_at, e4]; rfl
    have f2 : h2 1 3 = -1 := by rw [eh2, zs_row_ne (by decide), zs_ne (by decide)]; exact hf1
    have F2 : FR [1, 6, 29] h h2 := by
      rw [eh2]
      exact FR_tr F1 (fun b hb => by rw [zs_row_ne (fun e => hb (by rw [e]; decide)), zs_row_ne (fun e => hb (by rw [e]; decide))])
    have G2 : FS 1 [2, 3] h h2 := by
      rw [eh2]
      exact FS_tr G1 (fun q hq => by rw [zs_row_ne (by decide), zs_ne (fun e => hq (by rw [e]; decide))])
    have G6 : FS 6 [4] h h2 := by
      rw [eh2]
      exact fun q _ => by rw [zs_row_ne (by decide), zs_row_ne (by decide), e2 6 (by decide)]
    have r29 : h2 29 (3 * j) = (s : Int) ∧ ∀ i, i < 3 * j → h2 29 i = h 29 i := by
      rw [eh2]
      refine ⟨by rw [Nat.mul_comm j 3, zs_at], fun i hi => ?_⟩
      rw [zs_ne (by omega), zs_row_ne (by decide), e2 29 (by decide)]
    have T2 : TX n b h2 := TX_to H (G2 1 (by decide)) (F2 15 (by decide))
    have fin : ∀ (h3 : zH) (d : Int), FR [1] h2 h3 → FS 1 [2, 3] h2 h3 → ∃ h', some (zs (zs (zs h3 29 (3 * j + 1) d) 29 (3 * j + 2) (-1)) 6 4 ((j + 1 : Nat) : Int)) = some h' ∧ FR [1, 6, 29] h h' ∧ FS 1 [2, 3] h h' ∧ FS 6 [4] h h' ∧ h' 1 3 = h3 1 3 ∧ h' 1 2 = h3 1 2 ∧ h' 6 4 = ((j + 1 : Nat) : Int) ∧ h' 29 (3 * j) = (s : Int) ∧ h' 29 (3 * j + 1) = d ∧ h' 29 (3 * j + 2) = -1 ∧ ∀ i, i < 3 * j → h' 29 i = h 29 i := by
      intro h3 d F3 G3
      refine ⟨_, rfl, FR_tr F2 (fun b hb => ?_), FS_tr G2 (FS_tr G3 (fun q _ => by rw [zs_row_ne (by decide), zs_row_ne (by decide), zs_row_ne (by decide)])), FS_tr G6 (fun q hq => ?_), by rw [zs_row_ne (by decide), zs_row_ne (by decide), zs_row_ne (by decide)], by rw [zs_row_ne (by decide), zs_row_ne (by decide), zs_row_ne (by decide)], zs_at, ?_, ?_, ?_, fun i hi => ?_⟩
      · rw [zs_row_ne (fun e => hb (by rw [e]; decide)), zs_row_ne (fun e => hb (by rw [e]; decide)), zs_row_ne (fun e => hb (by rw [e]; decide)), F3 b (fun e => hb (by rw [List.mem_singleton.mp e]; decide))]
      · rw [zs_ne (fun e => hq (by rw [e]; decide)), zs_row_ne (by decide), zs_row_ne (by decide), F3 6 (by decide)]
      · rw [zs_row_ne (by decide), zs_ne (by omega), zs_ne (by omega), F3 29 (by decide)]; exact r29.1
      · rw [zs_row_ne (by decide), zs_ne (by omega), zs_at]
      · rw [zs_row_ne (by decide), zs_at]
      · rw [zs_row_ne (by decide), zs_ne (by omega), zs_ne (by omega), F3 29 (by decide)]; exact r29.2 i hi
    rcases hsc with ⟨rfl, c0⟩ | ⟨rfl, c1⟩ | ⟨rfl, c2⟩
    · -- f: two digits
      rw [if_neg (by decide)]
      obtain ⟨db1, db2, db3, db4, db5⟩ := dgt_b (b := b) (show skp n b p + 1 ≤ n by omega)
      obtain ⟨h3, r1, r2, r3, r4, r5⟩ := rdX T hN T2 (show skp n b p + 1 ≤ n by omega) p2 f2
      have d3 : h3 6 4 = (j : Int) := by rw [r2 6 (by decide)]; exact d2
      rw [r1, z2_some, show (j : Int) * 3 + 1 = ((j * 3 + 1 : Nat) : Int) by omega]
      unfold fX2_readStep_c72
      rw [put29 (by omega), zlet_v, show zw ((0 : Nat) : Int) = 0 from zw_0, if_pos rfl]
      have T3 : TX n b (zs h3 29 (j * 3 + 1) (dgt n b (skp n b p + 1)).2.1) := TX_to T2 (by rw [zs_row_ne (by decide), r3 1 (by decide)]) (by rw [zs_row_ne (by decide), r2 15 (by decide)])
      have p3 : zs h3 29 (j * 3 + 1) (dgt n b (skp n b p + 1)).2.1 1 2 = ((dgt n b (skp n b p + 1)).1 : Int) := by rw [zs_row_ne (by decide)]; exact r4
      have f3 : zs h3 29 (j * 3 + 1) (dgt n b (skp n b p + 1)).2.1 1 3 = (dgt n b (skp n b p + 1)).2.2 := by rw [zs_row_ne (by decide)]; exact r5
      have fin2 : ∀ (h4 : zH) (d : Int), FR [1] (zs h3 29 (j * 3 + 1) (dgt n b (skp n b p + 1)).2.1) h4 → FS 1 [2, 3] (zs h3 29 (j * 3 + 1) (dgt n b (skp n b p + 1)).2.1) h4 → ∃ h', (zlet (fX10_put 29 (((zs h3 29 (j * 3 + 1) (dgt n b (skp n b p + 1)).2.1 6 4) * 3) + 2) d h4) fun h5 => zlet (zs h5 6 4 ((h5 6 4) + 1)) fun h6 => some h6) = some h' ∧ FR [1, 6, 29] h h' ∧ FS 1 [2, 3] h h' ∧ FS 6 [4] h h' ∧ h' 1 3 = h4 1 3 ∧ h' 1 2 = h4 1 2 ∧ h' 6 4 = ((j + 1 : Nat) : Int) ∧ h' 29 (3 * j) = ((0 : Nat) : Int) ∧ h' 29 (3 * j + 1) = (dgt n b (skp n b p + 1)).2.1 ∧ h' 29 (3 * j + 2) = d ∧ ∀ i, i < 3 * j → h' 29 i = h 29 i := by
        intro h4 d F4 G4
        have d4 : h4 6 4 = (j : Int) := by rw [F4 6 (by decide), zs_row_ne (by decide)]; exact d3
        have d5 : zs h4 29 (j * 3 + 2) d 6 4 = (j : Int) := by rw [zs_row_ne (by decide)]; exact d4
        rw [show zs h3 29 (j * 3 + 1) (dgt n b (skp n b p + 1)).2.1 6 4 = (j : Int) by rw [zs_row_ne (by decide)]; exact d3, show (j : Int) * 3 + 2 = ((j * 3 + 2 : Nat) : Int) by omega, put29 (by omega)]
        simp only [zlet_v]
        rw [d5]
        have w29 : ∀ i, i < 3 * j + 1 → h4 29 i = h2 29 i := fun i hi => by rw [F4 29 (by decide), zs_ne (by omega), r2 29 (by decide)]
        refine ⟨_, rfl, FR_tr F2 (fun b hb => ?_), FS_tr G2 (fun q hq => ?_), FS_tr G6 (fun q hq => ?_), by rw [zs_row_ne (by decide), zs_row_ne (by decide)], by rw [zs_row_ne (by decide), zs_row_ne (by decide)], by rw [zs_at]; rfl, ?_, ?_, ?_, fun i hi => ?_⟩
        · have b1 : b ∉ [1] := fun e => hb (by rw [List.mem_singleton.mp e]; decide)
          rw [zs_row_ne (fun e => hb (by rw [e]; decide)), zs_row_ne (fun e => hb (by rw [e]; decide)), F4 b b1, zs_row_ne (fun e => hb (by rw [e]; decide)), r2 b b1]
        · rw [zs_row_ne (by decide), zs_row_ne (by decide), G4 q hq, zs_row_ne (by decide), r3 q hq]
        · rw [zs_ne (fun e => hq (by rw [e]; decide)), zs_row_ne (by decide), F4 6 (by decide), zs_row_ne (by decide), r2 6 (by decide)]
        · rw [zs_row_ne (by decide), zs_ne (by omega), w29 _ (by omega)]; exact r29.1
        · rw [zs_row_ne (by decide), zs_ne (by omega), F4 29 (by decide), show 3 * j + 1 = j * 3 + 1 by omega, zs_at]
        · rw [zs_row_ne (by decide), show 3 * j + 2 = j * 3 + 2 by omega, zs_at]
        · rw [zs_row_ne (by decide), zs_ne (by omega), w29 _ (by omega)]; exact r29.2 i hi
      by_cases cf : (dgt n b (skp n b p + 1)).2.2 = -1
      · have eo : oSt n b p = ((dgt n b (dgt n b (skp n b p + 1)).1).1, 0, (dgt n b (skp n b p + 1)).2.1, (dgt n b (dgt n b (skp n b p + 1)).1).2.1, (dgt n b (dgt n b (skp n b p + 1)).1).2.2) := by
          unfold oSt
          rw [if_pos c0, if_pos cf]
        rw [eo]
        rw [cf] at f3
        obtain ⟨h4, u1, u2, u3, u4, u5⟩ := rdX T hN T3 db1 p3 f3
        obtain ⟨eb1, eb2, eb3, eb4, eb5⟩ := dgt_b (b := b) db1
        rw [u1, z2_some]
        obtain ⟨h', w0, w1, w2, w3, w4, w5, w6, w7, w8, w9, w10⟩ := fin2 h4 (dgt n b (dgt n b (skp n b p + 1)).1).2.1 u2 u3
        exact ⟨h', w0, w1, w2, w3, by rw [w4]; exact u5, ⟨_, by rw [w5]; exact u4, eb1⟩, fun _ => ⟨by rw [w5]; exact u4, w6, ⟨w7, w8, w9⟩, w10⟩⟩
      · have eo : oSt n b p = ((dgt n b (skp n b p + 1)).1, 0, -1, -1, (dgt n b (skp n b p + 1)).2.2) := by
          unfold oSt
          rw [if_pos c0, if_neg cf]
        rw [eo]
        obtain ⟨h4, u1, u2, u3, u4, u5⟩ := rdXf T hN T3 db1 p3 f3 (by omega)
        rw [u1, z2_some]
        obtain ⟨h', w0, w1, w2, w3, w4, w5, w6, w7, w8, w9, w10⟩ := fin2 h4 (-1) u2 u3
        exact ⟨h', w0, w1, w2, w3, by rw [w4]; exact u5, by rw [w5]; exact u4, fun hc => absurd hc cf⟩
    · -- w: a digit
      rw [if_neg (by decide)]
      obtain ⟨db1, db2, db3, db4, db5⟩ := dgt_b (b := b) (show skp n b p + 1 ≤ n by omega)
      obtain ⟨h3, r1, r2, r3, r4, r5⟩ := rdX T hN T2 (show skp n b p + 1 ≤ n by omega) p2 f2
      have d3 : h3 6 4 = (j : Int) := by rw [r2 6 (by decide)]; exact d2
      have eo : oSt n b p = ((dgt n b (skp n b p + 1)).1, 1, (dgt n b (skp n b p + 1)).2.1, -1, (dgt n b (skp n b p + 1)).2.2) := by
        unfold oSt
        rw [if_neg (by omega), if_pos c1]
      rw [eo, r1, z2_some, show (j : Int) * 3 + 1 = ((j * 3 + 1 : Nat) : Int) by omega, stX72 hj d3 ⟨by decide, by decide⟩]
      obtain ⟨h', w0, w1, w2, w3, w4, w5, w6, w7, w8, w9, w10⟩ := fin h3 (dgt n b (skp n b p + 1)).2.1 r2 r3
      exact ⟨h', w0, w1, w2, w3, by rw [w4]; exact r5, ⟨_, by rw [w5]; exact r4, db1⟩, fun _ => ⟨by rw [w5]; exact r4, w6, ⟨w7, w8, w9⟩, w10⟩⟩
    · -- h
      rw [if_pos (show ((2 : Nat) : Int) = 2 from rfl)]
      have eo : oSt n b p = (skp n b p + 1, 2, -1, -1, -1) := by
        unfold oSt
        rw [if_neg (by omega), if_neg (by omega), if_pos c2]
      rw [eo, show (j : Int) * 3 + 1 = ((j * 3 + 1 : Nat) : Int) by omega, stX72 hj d2 ⟨by decide, by decide⟩]
      obtain ⟨h', w0, w1, w2, w3, w4, w5, w6, w7, w8, w9, w10⟩ := fin h2 (-1) FR_rf FS_rf
      exact ⟨h', w0, w1, w2, w3, by rw [w4]; exact f2, ⟨_, by rw [w5]; exact p2, by omega⟩, fun _ => ⟨by rw [w5]; exact p2, w6, ⟨w7, w8, w9⟩, w10⟩⟩
