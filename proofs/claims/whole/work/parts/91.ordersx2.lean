/-! orders are read by the class -/
theorem oSt_b {n p : Nat} {b : Nat → Nat} (hp : p ≤ n) : (oSt n b p).1 ≤ n ∧ (-1 ≤ (oSt n b p).2.2.2.2 ∧ (oSt n b p).2.2.2.2 ≤ n) ∧ (-1 ≤ (oSt n b p).2.1 ∧ (oSt n b p).2.1 ≤ 2) ∧ (-1 ≤ (oSt n b p).2.2.1 ∧ (oSt n b p).2.2.1 ≤ 9) ∧ -1 ≤ (oSt n b p).2.2.2.1 ∧ (oSt n b p).2.2.2.1 ≤ 9 := by
  obtain ⟨s1, s2, s3⟩ := skp_b (b := b) hp
  unfold oSt
  by_cases c0 : sg n b (skp n b p) = 102
  · have hl : skp n b p < n := sg_lt (show sg n b (skp n b p) ≠ -1 by omega)
    obtain ⟨d1, d2, d3, d4, d5⟩ := dgt_b (b := b) (show skp n b p + 1 ≤ n by omega)
    obtain ⟨e1, e2, e3, e4, e5⟩ := dgt_b (b := b) d1
    rw [if_pos c0]
    by_cases cf : (dgt n b (skp n b p + 1)).2.2 = -1
    · rw [if_pos cf]
      exact ⟨e1, ⟨e2, e3⟩, ⟨(show (-1 : Int) ≤ 0 by decide), (show (0 : Int) ≤ 2 by decide)⟩, ⟨d4, d5⟩, e4, e5⟩
    · rw [if_neg cf]
      exact ⟨d1, ⟨d2, d3⟩, ⟨(show (-1 : Int) ≤ 0 by decide), (show (0 : Int) ≤ 2 by decide)⟩, ⟨(show (-1 : Int) ≤ -1 by decide), (show (-1 : Int) ≤ 9 by decide)⟩, (show (-1 : Int) ≤ -1 by decide), (show (-1 : Int) ≤ 9 by decide)⟩
  · rw [if_neg c0]
    by_cases c1 : sg n b (skp n b p) = 119
    · have hl : skp n b p < n := sg_lt (show sg n b (skp n b p) ≠ -1 by omega)
      obtain ⟨d1, d2, d3, d4, d5⟩ := dgt_b (b := b) (show skp n b p + 1 ≤ n by omega)
      rw [if_pos c1]
      exact ⟨d1, ⟨d2, d3⟩, ⟨(show (-1 : Int) ≤ 1 by decide), (show (1 : Int) ≤ 2 by decide)⟩, ⟨d4, d5⟩, (show (-1 : Int) ≤ -1 by decide), (show (-1 : Int) ≤ 9 by decide)⟩
    · rw [if_neg c1]
      by_cases c2 : sg n b (skp n b p) = 104
      · have hl : skp n b p < n := sg_lt (show sg n b (skp n b p) ≠ -1 by omega)
        rw [if_pos c2]
        refine ⟨?_, ⟨(show (-1 : Int) ≤ -1 by decide), ?_⟩, ⟨(show (-1 : Int) ≤ 2 by decide), (show (2 : Int) ≤ 2 by decide)⟩, ⟨(show (-1 : Int) ≤ -1 by decide), (show (-1 : Int) ≤ 9 by decide)⟩, (show (-1 : Int) ≤ -1 by decide), (show (-1 : Int) ≤ 9 by decide)⟩
        · show skp n b p + 1 ≤ n
          omega
        · show (-1 : Int) ≤ n
          omega
      · rw [if_neg c2]
        refine ⟨s2, ⟨?_, ?_⟩, ⟨(show (-1 : Int) ≤ -1 by decide), (show (-1 : Int) ≤ 2 by decide)⟩, ⟨(show (-1 : Int) ≤ -1 by decide), (show (-1 : Int) ≤ 9 by decide)⟩, (show (-1 : Int) ≤ -1 by decide), (show (-1 : Int) ≤ 9 by decide)⟩
        · show (-1 : Int) ≤ (skp n b p : Int)
          omega
        · show (skp n b p : Int) ≤ n
          omega
/-- where step j begins -/
def oP (n : Nat) (b : Nat → Nat) : Nat → Nat
  | 0 => 0
  | j + 1 => skp n b (oSt n b (oP n b j)).1 + 1
/-- the fault of step j; what stands behind it -/
def oF (n : Nat) (b : Nat → Nat) (j : Nat) : Int := (oSt n b (oP n b j)).2.2.2.2
def oE (n : Nat) (b : Nat → Nat) (j : Nat) : Nat := skp n b (oSt n b (oP n b j)).1
/-- k steps more may follow step j: the fault of all, and how many steps there are -/
def oRd (n : Nat) (b : Nat → Nat) : Nat → Nat → Int × Nat
  | 0, j => if oF n b j = -1 then (if sg n b (oE n b j) = -1 then -1 else (oE n b j : Int), j + 1) else (oF n b j, j + 1)
  | k + 1, j => if oF n b j = -1 then (if sg n b (oE n b j) = 59 then oRd n b k (j + 1) else (if sg n b (oE n b j) = -1 then -1 else (oE n b j : Int), j + 1)) else (oF n b j, j + 1)
/-- the cells of the steps -/
def oCl (n : Nat) (b : Nat → Nat) (i : Nat) : Int := if i % 3 = 0 then (oSt n b (oP n b (i / 3))).2.1 else if i % 3 = 1 then (oSt n b (oP n b (i / 3))).2.2.1 else (oSt n b (oP n b (i / 3))).2.2.2.1
theorem oCl_3 {n : Nat} {b : Nat → Nat} (j : Nat) : oCl n b (3 * j) = (oSt n b (oP n b j)).2.1 ∧ oCl n b (3 * j + 1) = (oSt n b (oP n b j)).2.2.1 ∧ oCl n b (3 * j + 2) = (oSt n b (oP n b j)).2.2.2.1 := by
  unfold oCl
  refine ⟨?_, ?_, ?_⟩
  · rw [if_pos (by omega), show 3 * j / 3 = j by omega]
  · rw [if_neg (by omega), if_pos (by omega), show (3 * j + 1) / 3 = j by omega]
  · rw [if_neg (by omega), if_neg (by omega), show (3 * j + 2) / 3 = j by omega]
/-- behind step j, as the class has it -/
def oJ (n : Nat) (b : Nat → Nat) (h : zH) (j : Nat) (s : zH) : Prop := FR [1, 6, 29] h s ∧ FS 1 [2, 3] h s ∧ FS 6 [4] h s ∧ s 1 3 = oF n b j ∧ (∃ q : Nat, s 1 2 = (q : Int) ∧ q ≤ n) ∧ (oF n b j = -1 → s 1 2 = ((oSt n b (oP n b j)).1 : Int) ∧ s 6 4 = ((j + 1 : Nat) : Int) ∧ ∀ i, i < 3 * (j + 1) → s 29 i = oCl n b i)
theorem skp_i {n p : Nat} {b : Nat → Nat} (hp : p ≤ n) : skp n b (skp n b p) = skp n b p := by
  have h := (skp_b (b := b) hp).2.2
  refine skp_n (fun hc => h ?_)
  unfold sg
  rw [if_pos hc.1, hc.2]; rfl
theorem closeX {n : Nat} {b : Nat → Nat} (T : TV n b) {N : Nat} (hN : 300 ≤ N) {h : zH} (H : TX n b h) {p : Nat} (hp : p ≤ n) (hpl : h 1 2 = (p : Int)) {f : Int} (hf : h 1 3 = f) (hfb : -1 ≤ f ∧ f ≤ 1000) : ∃ h', fX9_close N h = some (if f = -1 then (if sg n b (skp n b p) = -1 then -1 else (skp n b p : Int)) else f, h') ∧ FR [1] h h' ∧ FS 1 [2, 3] h h' := by
  obtain ⟨h1, e1, e2, e3, e4⟩ := nextX T hN H hp hpl hf hfb
  have G1 : FS 1 [2, 3] h h1 := fun q hq => e3 q (fun e => hq (by rw [List.mem_singleton.mp e]; decide))
  have hf1 : h1 1 3 = f := by rw [e3 3 (by decide)]; exact hf
  unfold fX9_close
  rw [e1, z2_some]
  by_cases cf : f = -1
  · subst cf
    rw [if_pos rfl, if_pos rfl, sg_w T, zw_m1]
    by_cases c : sg n b (skp n b p) = -1
    · rw [if_pos c, if_pos c, hf1]
      exact ⟨h1, rfl, e2, G1⟩
    · rw [if_neg c, if_neg c, e4, blameX hf1 (by decide), if_pos rfl, zlet_v, zs_at]
      exact ⟨_, rfl, FR_tr e2 (fun b hb => zs_row_ne (fun e => hb (by rw [e]; decide))), FS_tr G1 (fun q hq => zs_ne (fun e => hq (by rw [e]; decide)))⟩
  · rw [if_neg cf, if_neg cf, if_pos rfl, hf1]
    exact ⟨h1, rfl, e2, G1⟩
theorem readX {n : Nat} {b : Nat → Nat} (T : TV n b) {N : Nat} (hN : 300 ≤ N) {h : zH} (H : TX n b h) : ∃ h', fX2_read N h = some ((oRd n b 15 0).1, h') ∧ FR [1, 6, 29] h h' ∧ FS 1 [2, 3] h h' ∧ FS 6 [4] h h' ∧ ((oRd n b 15 0).1 = -1 → h' 6 4 = ((oRd n b 15 0).2 : Int) ∧ ∀ i, i < 3 * (oRd n b 15 0).2 → h' 29 i = oCl n b i) := by
  have n240 := T.1
  have key : ∀ (k j F : Nat) (s : zH), j + k = 15 → k < F → oP n b j ≤ n → oJ n b h j s → ∃ h', fX2_read_c16 N F ((j + 1 : Nat) : Int) s = some ((oRd n b k j).1, h') ∧ FR [1, 6, 29] h h' ∧ FS 1 [2, 3] h h' ∧ FS 6 [4] h h' ∧ ((oRd n b k j).1 = -1 → h' 6 4 = ((oRd n b k j).2 : Int) ∧ ∀ i, i < 3 * (oRd n b k j).2 → h' 29 i = oCl n b i) := by
    -- to close
    have fin : ∀ (j : Nat) (s : zH), oP n b j ≤ n → FR [1, 6, 29] h s → FS 1 [2, 3] h s → FS 6 [4] h s → s 1 3 = oF n b j → ∀ q : Nat, s 1 2 = (q : Int) → q ≤ n → (oF n b j = -1 → skp n b q = oE n b j ∧ s 6 4 = ((j + 1 : Nat) : Int) ∧ ∀ i, i < 3 * (j + 1) → s 29 i = oCl n b i) → ∃ h', fX9_close N s = some (if oF n b j = -1 then (if sg n b (oE n b j) = -1 then -1 else (oE n b j : Int)) else oF n b j, h') ∧ FR [1, 6, 29] h h' ∧ FS 1 [2, 3] h h' ∧ FS 6 [4] h h' ∧ (oF n b j = -1 → h' 6 4 = ((j + 1 : Nat) : Int) ∧ ∀ i, i < 3 * (j + 1) → h' 29 i = oCl n b i) := by
      intro j s hp F1 G1 G6 f1 q q1 q2 I1
      obtain ⟨o1, o2, o3, o4, o5⟩ := oSt_b (b := b) hp
      have o2' : -1 ≤ oF n b j ∧ oF n b j ≤ 1000 := ⟨o2.1, by unfold oF; omega⟩
      obtain ⟨h1, r1, r2, r3⟩ := closeX T hN (TX_to H (G1 1 (by decide)) (F1 15 (by decide))) q2 q1 f1 o2'
      refine ⟨h1, ?_, FR_tr F1 (FR_up r2 (by decide)), FS_tr G1 r3, FS_tr G6 (fun q _ => by rw [r2 6 (by decide)]), fun hc => ?_⟩
      · rw [r1]
        by_cases cf : oF n b j = -1
        · rw [if_pos cf, if_pos cf, (I1 cf).1]
        · rw [if_neg cf, if_neg cf]
      · obtain ⟨i1, i2, i3⟩ := I1 hc
        refine ⟨by rw [r2 6 (by decide)]; exact i2, fun i hi => by rw [r2 29 (by decide)]; exact i3 i hi⟩
    intro k
    induction k with
    | zero =>
      intro j F s hj hF hp I
      obtain ⟨F, rfl⟩ : ∃ F', F = F' + 1 := ⟨F - 1, by omega⟩
      obtain ⟨F1, G1, G6, f1, ⟨q, q1, q2⟩, I1⟩ := I
      obtain ⟨h', r1, r2, r3, r4, r5⟩ := fin j s hp F1 G1 G6 f1 q q1 q2 (fun hc => ⟨by have : q = (oSt n b (oP n b j)).1 := by { have := (I1 hc).1; omega }
                                                                                       rw [this]; rfl, (I1 hc).2⟩)
      show ∃ h', fX2_read_c16b N (fX2_read_c16 N F) _ s = _ ∧ _
      unfold fX2_read_c16b
      rw [zw_id (show -2147483648 ≤ ((j + 1 : Nat) : Int) ∧ ((j + 1 : Nat) : Int) < 2147483648 by omega), if_pos (by rw [zw_id (by decide)]; omega), r1, z2_some]
      unfold oRd
      by_cases cf : oF n b j = -1
      · simp only [if_pos cf]
        exact ⟨h', rfl, r2, r3, r4, fun _ => r5 cf⟩
      · simp only [if_neg cf]
        exact ⟨h', rfl, r2, r3, r4, fun hc => absurd hc cf⟩
    | succ k ih =>
      intro j F s hj hF hp I
      obtain ⟨F, rfl⟩ : ∃ F', F = F' + 1 := ⟨F - 1, by omega⟩
      have I0 := I
      obtain ⟨F1, G1, G6, f1, ⟨q, q1, q2⟩, I1⟩ := I
      obtain ⟨o1, o2, o3, o4, o5⟩ := oSt_b (b := b) hp
      have o2' : -1 ≤ oF n b j ∧ oF n b j ≤ 1000 := ⟨o2.1, by unfold oF; omega⟩
      have T1 : TX n b s := TX_to H (G1 1 (by decide)) (F1 15 (by decide))
      obtain ⟨h1, e1, e2, e3, e4⟩ := nextX T hN T1 q2 q1 f1 o2'
      have sk := skp_b (b := b) q2
      show ∃ h', fX2_read_c16b N (fX2_read_c16 N F) _ s = _ ∧ _
      unfold fX2_read_c16b fX9_take
      rw [zw_id (show -2147483648 ≤ ((j + 1 : Nat) : Int) ∧ ((j + 1 : Nat) : Int) < 2147483648 by omega), if_neg (by rw [zw_id (by decide)]; omega), e1, z2_some]
      have F1' : FR [1, 6, 29] h h1 := FR_tr F1 (FR_up e2 (by decide))
      have G1' : FS 1 [2, 3] h h1 := FS_tr G1 (fun q hq => e3 q (fun e => hq (by rw [List.mem_singleton.mp e]; decide)))
      have G6' : FS 6 [4] h h1 := FS_tr G6 (fun q _ => by rw [e2 6 (by decide)])
      have f1' : h1 1 3 = oF n b j := by rw [e3 3 (by decide)]; exact f1
      by_cases cf : oF n b j = -1
      · have eq : q = (oSt n b (oP n b j)).1 := by have := (I1 cf).1; omega
        have ee : skp n b q = oE n b j := by rw [eq]; rfl
        rw [if_pos cf, ee, sg_w T, show zw 59 = 59 from zw_id (by decide)]
        by_cases c59 : sg n b (oE n b j) = 59
        · rw [if_pos c59]
          simp only [zlet_v, z2_some]
          rw [if_neg (by decide), e4, ee]
          have hlt : oE n b j < n := sg_lt (show sg n b (oE n b j) ≠ -1 by omega)
          have ep : oP n b (j + 1) = oE n b j + 1 := rfl
          have hp' : oP n b (j + 1) ≤ n := by omega
          obtain ⟨h2, eh2⟩ : ∃ h2, h2 = zs h1 1 2 ((oE n b j : Int) + 1) := ⟨_, rfl⟩
          rw [← eh2]
          have F2 : FR [1] s h2 := by rw [eh2]; exact FR_tr e2 (fun b hb => zs_row_ne (fun e => hb (by rw [e]; decide)))
          have G2 : FS 1 [2, 3] s h2 := by
            rw [eh2]
            exact fun q hq => by rw [zs_ne (fun e => hq (by rw [e]; decide)), e3 q (fun e => hq (by rw [List.mem_singleton.mp e]; decide))]
          have p2 : h2 1 2 = ((oP n b (j + 1) : Nat) : Int) := by rw [eh2, zs_at, ep]; rfl
          have f2 : h2 1 3 = -1 := by rw [eh2, zs_ne (by decide), e3 3 (by decide), f1]; exact cf
          obtain ⟨i1, i2, i3⟩ := I1 cf
          obtain ⟨h3, r1, r2, r3, r4, r5, r6, r7⟩ := stepX T hN (TX_to T1 (G2 1 (by decide)) (F2 15 (by decide))) hp' p2 f2 (show j + 1 < 16 by omega) (by rw [F2 6 (by decide)]; exact i2)
          rw [r1, zb_some]
          have I3 : oJ n b h (j + 1) h3 := by
            refine ⟨FR_tr (FR_tr F1 (FR_up F2 (by decide))) r2, FS_tr (FS_tr G1 G2) r3, FS_tr (FS_tr G6 (fun q _ => by rw [F2 6 (by decide)])) r4, r5, r6, fun hc => ?_⟩
            obtain ⟨u1, u2, u3, u4⟩ := r7 hc
            refine ⟨u1, u2, fun i hi => ?_⟩
            obtain ⟨w1, w2, w3⟩ := oCl_3 (n := n) (b := b) (j + 1)
            by_cases h0 : i < 3 * (j + 1)
            · rw [u4 i h0, F2 29 (by decide)]; exact i3 i h0
            · by_cases hh1 : i = 3 * (j + 1)
              · rw [hh1, w1]; exact u3.1
              · by_cases hh2 : i = 3 * (j + 1) + 1
                · rw [hh2, w2]; exact u3.2.1
                · rw [show i = 3 * (j + 1) + 2 by omega, w3]; exact u3.2.2
          have eR : oRd n b (k + 1) j = oRd n b k (j + 1) := by
            show (if oF n b j = -1 then _ else _) = _
            rw [if_pos cf, if_pos c59]
          rw [eR]
          exact ih (j + 1) F h3 (by omega) (by omega) hp' I3
        · rw [if_neg c59]
          simp only [z2_some]
          obtain ⟨h', r1, r2, r3, r4, r5⟩ := fin j h1 hp F1' G1' G6' f1' (skp n b q) e4 sk.2.1 (fun hc => ⟨by rw [skp_i q2, ee], by rw [e2 6 (by decide)]; exact (I1 hc).2.1, fun i hi => by rw [e2 29 (by decide)]; exact (I1 hc).2.2 i hi⟩)
          rw [if_pos zw_0, r1, z2_some]
          have eR : oRd n b (k + 1) j = ((if oF n b j = -1 then (if sg n b (oE n b j) = -1 then -1 else (oE n b j : Int)) else oF n b j), j + 1) := by
            show (if oF n b j = -1 then _ else _) = _
            rw [if_pos cf, if_neg c59, if_pos cf]
          rw [eR]
          exact ⟨h', rfl, r2, r3, r4, fun _ => r5 cf⟩
      · rw [if_neg cf, if_neg (show ¬ zw (-1) = zw 59 by decide)]
        simp only [z2_some]
        obtain ⟨h', r1, r2, r3, r4, r5⟩ := fin j h1 hp F1' G1' G6' f1' (skp n b q) e4 sk.2.1 (fun hc => absurd hc cf)
        rw [if_pos zw_0, r1, z2_some]
        have eR : oRd n b (k + 1) j = ((if oF n b j = -1 then (if sg n b (oE n b j) = -1 then -1 else (oE n b j : Int)) else oF n b j), j + 1) := by
          show (if oF n b j = -1 then _ else _) = _
          rw [if_neg cf, if_neg cf]
        rw [eR]
        exact ⟨h', rfl, r2, r3, r4, fun hc => by rw [if_neg cf] at hc; exact absurd hc cf⟩
  -- the first step
  obtain ⟨h1, eh1⟩ : ∃ h1, h1 = zs (zs (zs h 1 2 0) 1 3 (-1)) 6 4 0 := ⟨_, rfl⟩
  have F1 : FR [1, 6, 29] h h1 := by
    rw [eh1]
    exact fun b hb => by rw [zs_row_ne (fun e => hb (by rw [e]; decide)), zs_row_ne (fun e => hb (by rw [e]; decide)), zs_row_ne (fun e => hb (by rw [e]; decide))]
  have G1 : FS 1 [2, 3] h h1 := by
    rw [eh1]
    exact fun q hq => by rw [zs_row_ne (by decide), zs_ne (fun e => hq (by rw [e]; decide)), zs_ne (fun e => hq (by rw [e]; decide))]
  have G6 : FS 6 [4] h h1 := by
    rw [eh1]
    exact fun q hq => by rw [zs_ne (fun e => hq (by rw [e]; decide)), zs_row_ne (by decide), zs_row_ne (by decide)]
  have p1 : h1 1 2 = ((0 : Nat) : Int) := by rw [eh1, zs_row_ne (by decide), zs_ne (by decide), zs_at]; rfl
  have f1 : h1 1 3 = -1 := by rw [eh1, zs_row_ne (by decide), zs_at]
  have d1 : h1 6 4 = ((0 : Nat) : Int) := by rw [eh1, zs_at]; rfl
  obtain ⟨h2, r1, r2, r3, r4, r5, r6, r7⟩ := stepX T hN (TX_to H (G1 1 (by decide)) (F1 15 (by decide))) (Nat.zero_le n) p1 f1 (by decide) d1
  have e : fX2_read N h = zb (fX2_readStep N h1) fun h3 => fX2_read_c16 N N ((0 + 1 : Nat) : Int) h3 := by rw [eh1]; rfl
  rw [e, r1, zb_some]
  refine key 15 0 N h2 rfl (by omega) (Nat.zero_le n) ⟨FR_tr F1 r2, FS_tr G1 r3, FS_tr G6 r4, r5, r6, fun hc => ?_⟩
  obtain ⟨u1, u2, u3, u4⟩ := r7 hc
  obtain ⟨w1, w2, w3⟩ := oCl_3 (n := n) (b := b) 0
  refine ⟨u1, u2, fun i hi => ?_⟩
  by_cases h0 : i = 3 * 0
  · rw [h0, w1]; exact u3.1
  · by_cases hh1 : i = 3 * 0 + 1
    · rw [hh1, w2]; exact u3.2.1
    · rw [show i = 3 * 0 + 2 by omega, w3]; exact u3.2.2
