/-! fault 2 and text 2 of both -/
theorem put27 {j : Nat} (hj : j < 192) (v : Int) (h : zH) : fX10_put 27 (j : Int) v h = zs h 27 j v := by
  rw [put_in (by omega) (by show _ < ((192 : Nat) : Int); omega), Int.toNat_natCast]
theorem put28 {j : Nat} (hj : j < 4) (v : Int) (h : zH) : fX10_put 28 (j : Int) v h = zs h 28 j v := by
  rw [put_in (by omega) (by show _ < ((4 : Nat) : Int); omega), Int.toNat_natCast]
theorem at29 {j : Nat} (hj : j < 48) (h : zH) : fX10_at 29 (j : Int) h = h 29 j := by
  rw [at_in (by omega) (by show _ < ((48 : Nat) : Int); omega), Int.toNat_natCast]
theorem oSt_s {n p : Nat} {b : Nat → Nat} (h : (oSt n b p).2.2.2.2 = -1) : 0 ≤ (oSt n b p).2.1 := by
  unfold oSt at *
  by_cases c0 : sg n b (skp n b p) = 102
  · rw [if_pos c0] at *
    by_cases cf : (dgt n b (skp n b p + 1)).2.2 = -1
    · rw [if_pos cf]
      exact (show (0 : Int) ≤ 0 by decide)
    · rw [if_neg cf]
      exact (show (0 : Int) ≤ 0 by decide)
  · rw [if_neg c0] at *
    by_cases c1 : sg n b (skp n b p) = 119
    · rw [if_pos c1]
      exact (show (0 : Int) ≤ 1 by decide)
    · rw [if_neg c1] at *
      by_cases c2 : sg n b (skp n b p) = 104
      · rw [if_pos c2]
        exact (show (0 : Int) ≤ 2 by decide)
      · rw [if_neg c2] at h
        have : ((skp n b p : Nat) : Int) = -1 := h
        omega
theorem oRd_f {n : Nat} {b : Nat → Nat} (k : Nat) : ∀ j, (oRd n b k j).1 = -1 → ∀ i, j ≤ i → i < (oRd n b k j).2 → oF n b i = -1 := by
  induction k with
  | zero =>
    intro j hc i h1 h2
    unfold oRd at hc h2
    by_cases cf : oF n b j = -1
    · rw [if_pos cf] at h2
      have : i < j + 1 := h2
      rw [show i = j by omega]; exact cf
    · rw [if_neg cf] at hc
      exact absurd hc cf
  | succ k ih =>
    intro j hc i h1 h2
    unfold oRd at hc h2
    by_cases cf : oF n b j = -1
    · rw [if_pos cf] at hc h2
      by_cases h : i = j
      · rw [h]; exact cf
      · by_cases c59 : sg n b (oE n b j) = 59
        · rw [if_pos c59] at hc h2
          exact ih (j + 1) hc i (by omega) h2
        · rw [if_neg c59] at h2
          have : i < j + 1 := h2
          omega
    · rw [if_neg cf] at hc
      exact absurd hc cf
/-- how many steps, and that each begins on the tape -/
theorem oRd_b {n : Nat} {b : Nat → Nat} (k : Nat) : ∀ j, oP n b j ≤ n → j < (oRd n b k j).2 ∧ (oRd n b k j).2 ≤ j + k + 1 ∧ (∀ i, j ≤ i → i < (oRd n b k j).2 → oP n b i ≤ n) ∧ -1 ≤ (oRd n b k j).1 ∧ (oRd n b k j).1 ≤ n := by
  have one : ∀ j, oP n b j ≤ n → -1 ≤ oF n b j ∧ oF n b j ≤ n ∧ oE n b j ≤ n := fun j hp => by
    obtain ⟨b1, b2, _⟩ := oSt_b (b := b) hp
    exact ⟨b2.1, b2.2, (skp_b b1).2.1⟩
  induction k with
  | zero =>
    intro j hp
    obtain ⟨o1, o2, o3⟩ := one j hp
    unfold oRd
    split
    · refine ⟨by show j < j + 1; omega, by show j + 1 ≤ _; omega, fun i h1 h2 => ?_, ?_, ?_⟩
      · have : i < j + 1 := h2
        rw [show i = j by omega]; exact hp
      · show -1 ≤ (if _ then _ else _)
        split <;> omega
      · show (if _ then _ else _) ≤ _
        split <;> omega
    · refine ⟨by show j < j + 1; omega, by show j + 1 ≤ _; omega, fun i h1 h2 => ?_, o1, o2⟩
      have : i < j + 1 := h2
      rw [show i = j by omega]; exact hp
  | succ k ih =>
    intro j hp
    obtain ⟨o1, o2, o3⟩ := one j hp
    have fin : ∀ v : Int, -1 ≤ v → v ≤ n → j < ((v, j + 1) : Int × Nat).2 ∧ ((v, j + 1) : Int × Nat).2 ≤ j + (k + 1) + 1 ∧ (∀ i, j ≤ i → i < ((v, j + 1) : Int × Nat).2 → oP n b i ≤ n) ∧ -1 ≤ ((v, j + 1) : Int × Nat).1 ∧ ((v, j + 1) : Int × Nat).1 ≤ n := by
      intro v v1 v2
      refine ⟨by show j < j + 1; omega, by show j + 1 ≤ _; omega, fun i h1 h2 => ?_, v1, v2⟩
      have : i < j + 1 := h2
      rw [show i = j by omega]; exact hp
    unfold oRd
    split
    · split
      · rename_i c1 c2
        have hlt : oE n b j < n := sg_lt (show sg n b (oE n b j) ≠ -1 by omega)
        have ep : oP n b (j + 1) = oE n b j + 1 := rfl
        obtain ⟨r1, r2, r3, r4, r5⟩ := ih (j + 1) (by omega)
        refine ⟨by omega, by omega, fun i h1 h2 => ?_, r4, r5⟩
        by_cases h : i = j
        · rw [h]; exact hp
        · exact r3 i (by omega) h2
      · refine fin _ ?_ ?_ <;> split <;> omega
    · exact fin _ o1 o2
/-- the orders read: whether, how many steps -/
def oOk (n : Nat) (b : Nat → Nat) : Prop := (oRd n b 15 0).1 = -1
def oL (n : Nat) (b : Nat → Nat) : Nat := (oRd n b 15 0).2
theorem oL_b {n : Nat} {b : Nat → Nat} : 1 ≤ oL n b ∧ oL n b ≤ 16 ∧ ∀ i, i < oL n b → oP n b i ≤ n := by
  obtain ⟨r1, r2, r3, _⟩ := oRd_b (n := n) (b := b) 15 0 (Nat.zero_le n)
  exact ⟨by unfold oL; omega, by unfold oL; omega, fun i hi => r3 i (by omega) hi⟩
/-- the orders with one more -/
def ol1 (n : Nat) (b : Nat → Nat) (no : Nat) (ol : Nat → Nat) (o : Nat) : Nat := if o = no then oL n b else ol o
def sp1 (n : Nat) (b : Nat → Nat) (no : Nat) (sp : Nat → Int) (i : Nat) : Int := if 48 * no ≤ i then oCl n b (i - 48 * no) else sp i
theorem OV_1 {n : Nat} {b : Nat → Nat} {no : Nat} {ol : Nat → Nat} {sp : Nat → Int} (V : OV no ol sp) (h : no < 4) (hk : oOk n b) : OV (no + 1) (ol1 n b no ol) (sp1 n b no sp) := by
  refine ⟨by omega, fun o ho => ?_⟩
  obtain ⟨l1, l2, l3⟩ := oL_b (n := n) (b := b)
  by_cases e : o = no
  · subst e
    unfold ol1 sp1
    rw [if_pos rfl]
    refine ⟨l2, fun i hi => ?_⟩
    rw [if_pos (by omega), if_pos (by omega), if_pos (by omega), show 48 * o + 3 * i - 48 * o = 3 * i by omega, show 48 * o + 3 * i + 1 - 48 * o = 3 * i + 1 by omega, show 48 * o + 3 * i + 2 - 48 * o = 3 * i + 2 by omega]
    obtain ⟨w1, w2, w3⟩ := oCl_3 (n := n) (b := b) i
    obtain ⟨b1, b2, b3, b4, b5⟩ := oSt_b (b := b) (l3 i hi)
    rw [w1, w2, w3]
    exact ⟨oSt_s (oRd_f 15 0 hk i (Nat.zero_le i) hi), b3.2, b4.1, b4.2, b5.1, b5.2⟩
  · obtain ⟨v1, v2⟩ := V.2 o (by omega)
    unfold ol1 sp1
    rw [if_neg e]
    refine ⟨v1, fun i hi => ?_⟩
    rw [if_neg (by omega), if_neg (by omega), if_neg (by omega)]
    exact v2 i hi
theorem addX {n : Nat} {b : Nat → Nat} {no : Nat} {ol : Nat → Nat} {sp : Nat → Int} (V : OV no ol sp) (hno : no < 4) {N : Nat} (hN : 300 ≤ N) {h : zH} (O : OX no ol sp h) (hl : h 6 4 = (oL n b : Int)) (hc : ∀ i, i < 3 * oL n b → h 29 i = oCl n b i) : ∃ h', fX2_add N h = some ((no : Int), h') ∧ FR [6, 27, 28] h h' ∧ FS 6 [0] h h' ∧ OX (no + 1) (ol1 n b no ol) (sp1 n b no sp) h' := by
  obtain ⟨l1, l2, l3⟩ := oL_b (n := n) (b := b)
  have z6 : ∀ s, FR [27] h s → s 6 0 = (no : Int) ∧ s 6 4 = (oL n b : Int) := fun s F => by
    rw [F 6 (by decide)]; exact ⟨O.1, hl⟩
  unfold fX2_add
  rw [O.1, zw_id (show -2147483648 ≤ (no : Int) ∧ (no : Int) < 2147483648 by omega), if_pos (show (no : Int) < zw 4 by rw [zw_id (by decide)]; omega)]
  refine zloopq (F := fun k i (s : zH) => fX2_add_c12 N k i s) (n := 3 * oL n b) (s := h) (fun i s => FR [27] h s ∧ (∀ j, j < 48 * no → s 27 j = h 27 j) ∧ ∀ j, j < i → s 27 (48 * no + j) = oCl n b j) (fun r => ∃ h', r = some ((no : Int), h') ∧ FR [6, 27, 28] h h' ∧ FS 6 [0] h h' ∧ OX (no + 1) (ol1 n b no ol) (sp1 n b no sp) h') (fun k i s hi hI => ?_) (fun k s hI => ?_) (by omega) ⟨FR_rf, fun j _ => rfl, fun j hj => absurd hj (by omega)⟩
  · obtain ⟨i1, i2, i3⟩ := hI
    obtain ⟨y1, y2⟩ := z6 s i1
    left
    refine ⟨zs s 27 (48 * no + i) (oCl n b i), ?_, FR_tr i1 (fun b hb => zs_row_ne (fun e => hb (by rw [e]; decide))), fun j hj => ?_, fun j hj => ?_⟩
    · show fX2_add_c12b N (fX2_add_c12 N k) (i : Int) s = _
      unfold fX2_add_c12b
      rw [y2, show ((oL n b : Int)) * 3 = ((3 * oL n b : Nat) : Int) by omega, zw_id (show -2147483648 ≤ ((3 * oL n b : Nat) : Int) ∧ ((3 * oL n b : Nat) : Int) < 2147483648 by omega), zw_id (show -2147483648 ≤ (i : Int) ∧ (i : Int) < 2147483648 by omega), if_neg (by omega), y1, at29 (by omega), show ((no : Int) * 48) + (i : Int) = ((48 * no + i : Nat) : Int) by omega, put27 (by omega), zlet_v, i1 29 (by decide), hc i hi]
      rfl
    · rw [zs_ne (by omega)]; exact i2 j hj
    · by_cases e : j = i
      · rw [e, zs_at]
      · rw [zs_ne (by omega)]; exact i3 j (by omega)
  · obtain ⟨i1, i2, i3⟩ := hI
    obtain ⟨y1, y2⟩ := z6 s i1
    show ∃ h', fX2_add_c12b N (fX2_add_c12 N k) ((3 * oL n b : Nat) : Int) s = _ ∧ _
    unfold fX2_add_c12b
    rw [y2, show ((oL n b : Int)) * 3 = ((3 * oL n b : Nat) : Int) by omega, zw_id (show -2147483648 ≤ ((3 * oL n b : Nat) : Int) ∧ ((3 * oL n b : Nat) : Int) < 2147483648 by omega), if_pos (by omega), y1, put28 hno]
    simp only [zlet_v]
    have y3 : zs s 28 no (oL n b : Int) 6 0 = (no : Int) := by rw [zs_row_ne (by decide)]; exact y1
    rw [y3, zs_at]
    refine ⟨_, by rw [show ((no : Int) + 1) - 1 = (no : Int) by omega], FR_tr (FR_up i1 (by decide)) (fun b hb => by rw [zs_row_ne (fun e => hb (by rw [e]; decide)), zs_row_ne (fun e => hb (by rw [e]; decide))]), fun q hq => by rw [zs_ne (fun e => hq (by rw [e]; decide)), zs_row_ne (by decide), i1 6 (by decide)], by rw [zs_at]; rfl, fun o ho => ?_⟩
    have q27 : ∀ v, zs (zs s 28 no (oL n b : Int)) 6 0 v 27 = s 27 := fun v => by rw [zs_row_ne (by decide), zs_row_ne (by decide)]
    rw [zs_row_ne (show (28 : Nat) ≠ 6 by decide), q27]
    unfold ol1 sp1
    by_cases e : o = no
    · subst e
      rw [if_pos rfl, zs_at]
      refine ⟨rfl, fun j hj => ?_⟩
      rw [if_pos (by omega), show 48 * o + j - 48 * o = j by omega]
      exact i3 j (by omega)
    · obtain ⟨v1, v2⟩ := V.2 o (by omega)
      obtain ⟨o1, o2⟩ := O.2 o (by omega)
      rw [if_neg e, zs_ne e, i1 28 (by decide)]
      refine ⟨o1, fun j hj => ?_⟩
      rw [if_neg (by omega), i2 _ (by omega)]
      exact o2 j hj
/-- fault 2 -/
theorem fault2X {n : Nat} {b : Nat → Nat} (T : TV n b) {N : Nat} (hN : 300 ≤ N) {h : zH} (H : TX n b h) : ∃ h', fX10_fault N 2 h = some ((oRd n b 15 0).1, h') ∧ FR [1, 6, 29] h h' ∧ FS 1 [2, 3] h h' ∧ FS 6 [4] h h' ∧ (oOk n b → h' 6 4 = (oL n b : Int) ∧ ∀ i, i < 3 * oL n b → h' 29 i = oCl n b i) := by
  obtain ⟨h', r1, r2, r3, r4, r5⟩ := readX T hN H
  unfold fX10_fault
  rw [if_neg (show ¬ zw 2 = 0 by decide), if_neg (show ¬ zw 2 = zw 1 by decide), if_pos rfl, r1, z2_some]
  exact ⟨h', rfl, r2, r3, r4, r5⟩
theorem fault2M {n : Nat} {b : Nat → Nat} (T : TV n b) {N : Nat} (hN : 300 ≤ N) {g : zH} (H : TMo n b g) : ∃ g', fX11_fault N 2 g = some ((oRd n b 15 0).1, g') ∧ oK 4 g g' := by
  obtain ⟨g', r1, r2, r3⟩ := readMs T hN H (o := 4) (by decide)
  unfold fX11_fault
  rw [if_neg (show ¬ zw 2 = 0 by decide), if_neg (show ¬ zw 2 = zw 1 by decide), if_pos rfl, show (4 : Int) = ((4 : Nat) : Int) from rfl, r1, z2_some]
  exact ⟨g', rfl, r2⟩
theorem OX_oK {no : Nat} {ol : Nat → Nat} {sp : Nat → Int} (V : OV no ol sp) {g g' : zH} (O : OMo no ol sp g) {o : Nat} (ho : no ≤ o) (K : oK o g g') : OMo no ol sp g' := by
  refine ⟨by rw [K.2.1 33 (by decide)]; exact O.1, fun q hq => ?_⟩
  obtain ⟨o1, o2⟩ := O.2 q hq
  have v := (V.2 q hq).1
  refine ⟨by rw [K.2.2.1 q (fun e => by have := List.mem_singleton.mp e; omega)]; exact o1, fun j hj => ?_⟩
  rw [K.2.2.2 _ (by omega)]
  exact o2 j hj
/-- text 2 -/
theorem text2X {n : Nat} {b : Nat → Nat} (T : TV n b) {no : Nat} {ol : Nat → Nat} {sp : Nat → Int} (V : OV no ol sp) {N : Nat} (hN : 300 ≤ N) {h : zH} (H : TX n b h) (O : OX no ol sp h) :
    (no < 4 ∧ oOk n b → ∃ h', fX10_text N 2 h = some ((no : Int), h') ∧ FR [1, 6, 27, 28, 29] h h' ∧ FS 1 [1, 2, 3] h h' ∧ FS 6 [0, 4] h h' ∧ TX 0 b h' ∧ OX (no + 1) (ol1 n b no ol) (sp1 n b no sp) h') ∧
    (¬ (no < 4 ∧ oOk n b) → ∃ h', fX10_text N 2 h = some (-1, h') ∧ FR [1, 6, 29] h h' ∧ FS 1 [2, 3] h h' ∧ FS 6 [4] h h') := by
  have z0 : fX10_text N 2 h = if (no : Int) = 4 then some (-1, h) else z2 (fX10_fault N 2 h) fun v3 h2 => if zw v3 = zw (-1) then zlet (zs h2 1 1 0) fun h5 => z2 (fX2_add N h5) fun v11 h10 => some (v11, h10) else some (-1, h2) := by
    unfold fX10_text
    rw [if_neg (show ¬ zw 2 = zw 1 by decide), if_pos (show zw 2 = zw 2 from rfl), O.1, zw_id (show -2147483648 ≤ (no : Int) ∧ (no : Int) < 2147483648 by have := V.1; omega), show zw 4 = 4 by decide]
    rfl
  obtain ⟨h1, r1, r2, r3, r4, r5⟩ := fault2X T hN H
  obtain ⟨_, _, _, u4, u5⟩ := oRd_b (n := n) (b := b) 15 0 (Nat.zero_le n)
  have n240 := T.1
  have zu : zw (oRd n b 15 0).1 = (oRd n b 15 0).1 := zw_id (by omega)
  have hV := V.1
  rw [z0]
  refine ⟨fun hc => ?_, fun hc => ?_⟩
  · rw [if_neg (by omega), r1, z2_some, zu, zw_m1, if_pos (show (oRd n b 15 0).1 = -1 from hc.2), zlet_v]
    obtain ⟨c1, c2⟩ := r5 hc.2
    obtain ⟨h2, s1, s2, s3, s4⟩ := addX (n := n) (b := b) V hc.1 hN (h := zs h1 1 1 0) (OX_to O (by rw [zs_row_ne (by decide), r4 0 (by decide)]) (by rw [zs_row_ne (by decide), r2 27 (by decide)]) (by rw [zs_row_ne (by decide), r2 28 (by decide)])) (by rw [zs_row_ne (by decide)]; exact c1) (fun i hi => by rw [zs_row_ne (by decide)]; exact c2 i hi)
    rw [s1, z2_some]
    refine ⟨h2, rfl, FR_tr (FR_up r2 (by decide)) (FR_tr (fun b hb => zs_row_ne (fun e => hb (by rw [e]; decide))) (FR_up s2 (by decide))), fun q hq => ?_, fun q hq => ?_, ⟨?_, fun i hi => absurd hi (by omega)⟩, s4⟩
    · rw [s2 1 (by decide), zs_ne (fun e => hq (by rw [e]; decide)), r3 q (fun e => hq (List.mem_cons_of_mem _ e))]
    · rw [s3 q (fun e => hq (by rw [List.mem_singleton.mp e]; decide)), zs_row_ne (by decide), r4 q (fun e => hq (by rw [List.mem_singleton.mp e]; decide))]
    · rw [s2 1 (by decide), zs_at]; rfl
  · by_cases c4 : (no : Int) = 4
    · rw [if_pos c4]
      exact ⟨h, rfl, FR_rf, FS_rf, FS_rf⟩
    · rw [if_neg c4, r1, z2_some, zu, zw_m1, if_neg (show ¬ (oRd n b 15 0).1 = -1 from fun e => hc ⟨by omega, e⟩)]
      exact ⟨h1, rfl, r2, r3, r4⟩
theorem text2M {n : Nat} {b : Nat → Nat} (T : TV n b) {no : Nat} {ol : Nat → Nat} {sp : Nat → Int} (V : OV no ol sp) {N : Nat} (hN : 300 ≤ N) {g : zH} (H : TMo n b g) (O : OMo no ol sp g) :
    (no < 4 ∧ oOk n b → ∃ g', fX11_text N 2 g = some ((no : Int), g') ∧ FR [14, 67, 68] g g' ∧ FS 14 [2, 3, 4, 33] g g' ∧ TMo 0 b g' ∧ OMo (no + 1) (ol1 n b no ol) (sp1 n b no sp) g') ∧
    (¬ (no < 4 ∧ oOk n b) → ∃ g', fX11_text N 2 g = some (-1, g') ∧ FR [14, 67, 68] g g' ∧ FS 14 [3, 4] g g' ∧ OMo no ol sp g') := by
  have hV := V.1
  have z0 : fX11_text N 2 g = if 4 ≤ (no : Int) then some (-1, g) else z2 (fX11_readOrders N (no : Int) g) fun v4 h3 => if zw v4 = zw (-1) then zlet (zs h3 14 2 0) fun h6 => zlet (zs h6 14 33 ((h6 14 33) + 1)) fun h7 => some ((h7 14 33) - 1, h7) else some (-1, h3) := by
    unfold fX11_text fX11_text_c22 fX11_text_c69
    rw [if_neg (show ¬ zw 2 = 0 by decide), if_neg (show ¬ zw 2 = zw 1 by decide), if_pos (show zw 2 = zw 2 from rfl), O.1, zw_id (show -2147483648 ≤ (no : Int) ∧ (no : Int) < 2147483648 by omega), show zw 4 = 4 by decide]
  obtain ⟨_, _, _, u4, u5⟩ := oRd_b (n := n) (b := b) 15 0 (Nat.zero_le n)
  have n240 := T.1
  have zu : zw (oRd n b 15 0).1 = (oRd n b 15 0).1 := zw_id (by omega)
  rw [z0]
  obtain ⟨g1, r1, r2, r3⟩ := readMs T hN H (o := no) (by omega)
  refine ⟨fun hc => ?_, fun hc => ?_⟩
  · rw [if_neg (by omega), r1, z2_some, zu, zw_m1, if_pos (show (oRd n b 15 0).1 = -1 from hc.2)]
    obtain ⟨c1, c2⟩ := r3 hc.2
    have O1 := OX_oK V O (Nat.le_refl no) r2
    have e1 : zs g1 14 2 0 14 33 = (no : Int) := by rw [zs_ne (by decide)]; exact O1.1
    simp only [zlet_v]
    rw [e1, zs_at]
    refine ⟨_, by rw [show ((no : Int) + 1) - 1 = (no : Int) by omega], FR_tr r2.1 (fun b hb => by rw [zs_row_ne (fun e => hb (by rw [e]; decide)), zs_row_ne (fun e => hb (by rw [e]; decide))]), fun q hq => ?_, ⟨by rw [zs_ne (by decide), zs_at]; rfl, fun i hi => absurd hi (by omega)⟩, by rw [zs_at]; rfl, fun o ho => ?_⟩
    · rw [zs_ne (fun e => hq (by rw [e]; decide)), zs_ne (fun e => hq (by rw [e]; decide))]
      refine r2.2.1 q (fun e => hq ?_)
      rcases List.mem_cons.mp e with e | e
      · rw [e]; decide
      · rw [List.mem_singleton.mp e]; decide
    · rw [zs_row_ne (by decide), zs_row_ne (by decide), zs_row_ne (by decide), zs_row_ne (by decide)]
      unfold ol1 sp1
      by_cases e : o = no
      · subst e
        rw [if_pos rfl]
        refine ⟨c1, fun j hj => ?_⟩
        rw [if_pos (by omega), show 48 * o + j - 48 * o = j by omega]
        exact c2 j hj
      · obtain ⟨v1, v2⟩ := V.2 o (by omega)
        obtain ⟨o1, o2⟩ := O1.2 o (by omega)
        rw [if_neg e]
        refine ⟨o1, fun j hj => ?_⟩
        rw [if_neg (by omega)]
        exact o2 j hj
  · by_cases c4 : (4 : Int) ≤ (no : Int)
    · rw [if_pos c4]
      exact ⟨g, rfl, FR_rf, FS_rf, O⟩
    · rw [if_neg c4, r1, z2_some, zu, zw_m1, if_neg (show ¬ (oRd n b 15 0).1 = -1 from fun e => hc ⟨by omega, e⟩)]
      exact ⟨g1, rfl, r2.1, r2.2.1, OX_oK V O (Nat.le_refl no) r2⟩
