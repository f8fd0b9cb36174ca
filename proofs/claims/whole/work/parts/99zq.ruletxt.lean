/-! fault 1 and text 1 of both; what the held rule grants -/
def RXl (nl : Nat) (lw : Nat → List rCl) (h : zH) : Prop := h 5 0 = (nl : Int) ∧ ∀ i, i < nl → h 25 i = ((lawX (lw i)).length : Int) ∧ sgm (h 24) (240 * i) (lawX (lw i))
def RMl (nl : Nat) (lw : Nat → List rCl) (g : zH) : Prop := g 14 13 = (nl : Int) ∧ ∀ i, i < nl → g 53 i = ((lw i).length : Int) ∧ lawMo i (lw i) 0 0 g
def RVl (nl : Nat) (lw : Nat → List rCl) : Prop := nl ≤ 4 ∧ ∀ i, i < nl → LV 240 (lw i)
def lw1 (n : Nat) (b : Nat → Nat) (nl : Nat) (lw : Nat → List rCl) : Nat → List rCl := fun i => if i = nl then (lwR n b).2 else lw i
theorem RVl_1 {n : Nat} {b : Nat → Nat} (T : TV n b) {nl : Nat} {lw : Nat → List rCl} (V : RVl nl lw) (h4 : nl < 4) (hk : (lwR n b).1 = -1) : RVl (nl + 1) (lw1 n b nl lw) := by
  refine ⟨by omega, fun i hi => ?_⟩
  unfold lw1
  by_cases e : i = nl
  · rw [if_pos e]
    exact LV_up ((lwR_F (n := n) (b := b)).2.2 hk) T.1
  · rw [if_neg e]
    exact V.2 i (by omega)
theorem fault1X {n : Nat} {b : Nat → Nat} (T : TV n b) {N : Nat} (hN : 300 ≤ N) {h : zH} (H : TX n b h) : ∃ h', fX10_fault N 1 h = some ((lwR n b).1, h') ∧ FR [1, 4, 22, 23] h h' ∧ FS 1 [2, 3] h h' ∧ ((lwR n b).1 = -1 → h' 4 1 = ((lawX (lwR n b).2).length : Int) ∧ sgm (h' 22) 0 (lawX (lwR n b).2)) := by
  obtain ⟨h', r1, r2, r3, r4⟩ := readRX T hN H
  unfold fX10_fault
  rw [if_neg (show ¬ zw 1 = 0 by decide), if_pos rfl, r1, z2_some]
  exact ⟨h', rfl, r2, r3, r4⟩
theorem fault1M {n : Nat} {b : Nat → Nat} (T : TV n b) {N : Nat} (hN : 300 ≤ N) {g : zH} (H : TMo n b g) : ∃ g', fX11_fault N 1 g = some ((lwR n b).1, g') ∧ LFr 4 g g' := by
  obtain ⟨g', r1, r2, r3⟩ := readLM T hN (x := 4) (by decide) H
  unfold fX11_fault
  rw [if_neg (show ¬ zw 1 = 0 by decide), if_pos rfl, show (4 : Int) = ((4 : Nat) : Int) from rfl, r1, z2_some]
  exact ⟨g', rfl, r2⟩
theorem RMl_L {nl x : Nat} {lw : Nat → List rCl} (V : RVl nl lw) {g g' : zH} (hx : nl ≤ x) (L : LFr x g g') (R : RMl nl lw g) : RMl nl lw g' := by
  obtain ⟨l1, l2, l3, l4, l5, l6⟩ := L
  refine ⟨by rw [l2 13 (by decide)]; exact R.1, fun i hi => ?_⟩
  obtain ⟨r1, r2⟩ := R.2 i hi
  obtain ⟨v1, v2, v3, v4⟩ := V.2 i hi
  refine ⟨by rw [l4 i (fun e => by have := List.mem_singleton.mp e; omega)]; exact r1, lawMo_keep _ 0 0 (fun j h1 h2 => l5 j (by omega)) (fun j h1 h2 => l6 j (by omega)) r2⟩
theorem put24 {j : Nat} (hj : j < 960) (v : Int) (h : zH) : fX10_put 24 (j : Int) v h = zs h 24 j v := by
  rw [put_in (by omega) (by show _ < ((960 : Nat) : Int); omega), Int.toNat_natCast]
theorem put25 {j : Nat} (hj : j < 4) (v : Int) (h : zH) : fX10_put 25 (j : Int) v h = zs h 25 j v := by
  rw [put_in (by omega) (by show _ < ((4 : Nat) : Int); omega), Int.toNat_natCast]
theorem at22 {j : Nat} (hj : j < 240) (h : zH) : fX10_at 22 (j : Int) h = h 22 j := by
  rw [at_in (by omega) (by show _ < ((240 : Nat) : Int); omega), Int.toNat_natCast]
theorem addRX {nl : Nat} {lw : Nat → List rCl} (V : RVl nl lw) (h4 : nl < 4) {cs : List rCl} (hcs : (lawX cs).length ≤ 240) {N : Nat} (hN : 300 ≤ N) {h : zH} (R : RXl nl lw h) (h41 : h 4 1 = ((lawX cs).length : Int)) (h22 : sgm (h 22) 0 (lawX cs)) : ∃ h', fX5_add N h = some ((nl : Int), h') ∧ FR [5, 24, 25] h h' ∧ FS 5 [0] h h' ∧ RXl (nl + 1) (fun i => if i = nl then cs else lw i) h' := by
  obtain ⟨z, ez⟩ : ∃ z, z = (lawX cs).length := ⟨_, rfl⟩
  rw [← ez] at h41
  unfold fX5_add
  rw [R.1, zw_id (show -2147483648 ≤ (nl : Int) ∧ (nl : Int) < 2147483648 by omega), if_pos (show (nl : Int) < zw 4 by rw [zw_id (by decide)]; omega)]
  refine zloopq (F := fun k i (s : zH) => fX5_add_c12 N k i s) (n := z) (s := h) (fun i s => FR [24] h s ∧ (∀ j, j < 240 * nl → s 24 j = h 24 j) ∧ ∀ j, j < i → s 24 (240 * nl + j) = (lawX cs).getD j 0) (fun r => ∃ h', r = some ((nl : Int), h') ∧ FR [5, 24, 25] h h' ∧ FS 5 [0] h h' ∧ RXl (nl + 1) (fun i => if i = nl then cs else lw i) h') (fun k i s hi hI => ?_) (fun k s hI => ?_) (by omega) ⟨FR_rf, fun j _ => rfl, fun j hj => absurd hj (by omega)⟩
  · obtain ⟨i1, i2, i3⟩ := hI
    left
    refine ⟨zs s 24 (240 * nl + i) ((lawX cs).getD i 0), ?_, FR_tr i1 (fun b hb => zs_row_ne (fun e => hb (by rw [e]; decide))), fun j hj => ?_, fun j hj => ?_⟩
    · show fX5_add_c12b N (fX5_add_c12 N k) (i : Int) s = _
      unfold fX5_add_c12b
      have e22 := h22 i (by omega)
      rw [Nat.zero_add] at e22
      rw [i1 4 (by decide), h41, zw_id (show -2147483648 ≤ (z : Int) ∧ (z : Int) < 2147483648 by omega), zw_id (show -2147483648 ≤ (i : Int) ∧ (i : Int) < 2147483648 by omega), if_neg (by omega), i1 5 (by decide), R.1, at22 (by omega), show ((nl : Int) * 240) + (i : Int) = ((240 * nl + i : Nat) : Int) by omega, put24 (by omega), zlet_v, i1 22 (by decide), e22]
      rfl
    · rw [zs_ne (by omega)]; exact i2 j hj
    · by_cases e : j = i
      · rw [e, zs_at]
      · rw [zs_ne (by omega)]; exact i3 j (by omega)
  · obtain ⟨i1, i2, i3⟩ := hI
    show ∃ h', fX5_add_c12b N (fX5_add_c12 N k) (z : Int) s = _ ∧ _
    unfold fX5_add_c12b
    rw [i1 4 (by decide), h41, if_pos (Int.le_refl _), i1 5 (by decide), R.1, put25 h4]
    simp only [zlet_v]
    have y3 : zs s 25 nl (z : Int) 5 0 = (nl : Int) := by rw [zs_row_ne (by decide), i1 5 (by decide)]; exact R.1
    rw [y3, zs_at]
    refine ⟨_, by rw [show ((nl : Int) + 1) - 1 = (nl : Int) by omega], FR_tr (FR_up i1 (by decide)) (fun b hb => by rw [zs_row_ne (fun e => hb (by rw [e]; decide)), zs_row_ne (fun e => hb (by rw [e]; decide))]), fun q hq => by rw [zs_ne (fun e => hq (by rw [e]; decide)), zs_row_ne (by decide), i1 5 (by decide)], by rw [zs_at]; rfl, fun i hi => ?_⟩
    rw [zs_row_ne (show (25 : Nat) ≠ 5 by decide), zs_row_ne (show (24 : Nat) ≠ 5 by decide), zs_row_ne (show (24 : Nat) ≠ 25 by decide)]
    dsimp only
    by_cases e : i = nl
    · subst e
      rw [if_pos rfl, zs_at, ez]
      exact ⟨rfl, fun j hj => i3 j (by omega)⟩
    · obtain ⟨o1, o2⟩ := R.2 i (by omega)
      obtain ⟨v1, v2, _⟩ := V.2 i (by omega)
      rw [if_neg e, zs_ne e, i1 25 (by decide)]
      refine ⟨o1, fun j hj => ?_⟩
      rw [i2 _ (by omega)]
      exact o2 j hj
theorem text1X {n : Nat} {b : Nat → Nat} (T : TV n b) {nl : Nat} {lw : Nat → List rCl} (V : RVl nl lw) {N : Nat} (hN : 300 ≤ N) {h : zH} (H : TX n b h) (R : RXl nl lw h) :
    (nl < 4 ∧ (lwR n b).1 = -1 → ∃ h', fX10_text N 1 h = some ((nl : Int), h') ∧ FR [1, 4, 5, 22, 23, 24, 25] h h' ∧ FS 1 [1, 2, 3] h h' ∧ FS 5 [0] h h' ∧ TX 0 b h' ∧ RXl (nl + 1) (lw1 n b nl lw) h') ∧
    (¬ (nl < 4 ∧ (lwR n b).1 = -1) → ∃ h', fX10_text N 1 h = some (-1, h') ∧ FR [1, 4, 22, 23] h h' ∧ FS 1 [2, 3] h h') := by
  have hV := V.1
  have z0 : fX10_text N 1 h = if (nl : Int) = 4 then some (-1, h) else z2 (fX10_fault N 1 h) fun v3 h2 => if zw v3 = zw (-1) then zlet (zs h2 1 1 0) fun h5 => z2 (fX5_add N h5) fun v8 h7 => some (v8, h7) else some (-1, h2) := by
    unfold fX10_text fX10_text_c37
    rw [if_pos (show zw 1 = zw 1 from rfl), R.1, zw_id (show -2147483648 ≤ (nl : Int) ∧ (nl : Int) < 2147483648 by omega), show zw 4 = 4 by decide, if_neg (show ¬ zw 1 = zw 2 by decide), if_pos zw_0, if_neg (show ¬ zw 1 = 0 by decide)]
    rfl
  obtain ⟨h1, r1, r2, r3, r4⟩ := fault1X T hN H
  have fb := lwR_F (n := n) (b := b)
  have n240 := T.1
  have zu : zw (lwR n b).1 = (lwR n b).1 := zw_id (by omega)
  rw [z0]
  refine ⟨fun hc => ?_, fun hc => ?_⟩
  · rw [if_neg (by omega), r1, z2_some, zu, zw_m1, if_pos hc.2, zlet_v]
    obtain ⟨c1, c2⟩ := r4 hc.2
    have LVn := fb.2.2 hc.2
    have R1 : RXl nl lw (zs h1 1 1 0) := by
      unfold RXl
      rw [zs_row_ne (by decide), zs_row_ne (by decide), zs_row_ne (by decide), r2 5 (by decide), r2 25 (by decide), r2 24 (by decide)]
      exact R
    obtain ⟨h2, s1, s2, s3, s4⟩ := addRX V hc.1 (cs := (lwR n b).2) (by have := LVn.2.1; omega) hN R1 (by rw [zs_row_ne (by decide)]; exact c1) (by rw [zs_row_ne (by decide)]; exact c2)
    rw [s1, z2_some]
    refine ⟨h2, rfl, FR_tr (FR_up r2 (by decide)) (FR_tr (fun b hb => zs_row_ne (fun e => hb (by rw [e]; decide))) (FR_up s2 (by decide))), fun q hq => ?_, fun q hq => ?_, ⟨?_, fun i hi => absurd hi (by omega)⟩, s4⟩
    · rw [s2 1 (by decide), zs_ne (fun e => hq (by rw [e]; decide)), r3 q (fun e => hq (List.mem_cons_of_mem _ e))]
    · rw [s3 q hq, zs_row_ne (by decide), r2 5 (by decide)]
    · rw [s2 1 (by decide), zs_at]; rfl
  · by_cases c4 : (nl : Int) = 4
    · rw [if_pos c4]
      exact ⟨h, rfl, FR_rf, FS_rf⟩
    · rw [if_neg c4, r1, z2_some, zu, zw_m1, if_neg (fun e => hc ⟨by omega, e⟩)]
      exact ⟨h1, rfl, r2, r3⟩
theorem text1M {n : Nat} {b : Nat → Nat} (T : TV n b) {nl : Nat} {lw : Nat → List rCl} (V : RVl nl lw) {N : Nat} (hN : 300 ≤ N) {g : zH} (H : TMo n b g) (R : RMl nl lw g) :
    (nl < 4 ∧ (lwR n b).1 = -1 → ∃ g', fX11_text N 1 g = some ((nl : Int), g') ∧ FR [14, 50, 51, 52, 53, 54, 55, 56] g g' ∧ FS 14 [2, 3, 4, 5, 13, 14] g g' ∧ TMo 0 b g' ∧ RMl (nl + 1) (lw1 n b nl lw) g') ∧
    (¬ (nl < 4 ∧ (lwR n b).1 = -1) → ∃ g', fX11_text N 1 g = some (-1, g') ∧ FR [14, 50, 51, 52, 53, 54, 55, 56] g g' ∧ FS 14 [3, 4, 5, 14] g g' ∧ RMl nl lw g') := by
  have hV := V.1
  have z0 : fX11_text N 1 g = if 4 ≤ (nl : Int) then some (-1, g) else z2 (fX11_readLaw N (nl : Int) g) fun v4 h3 => if zw v4 = zw (-1) then zlet (zs h3 14 2 0) fun h6 => zlet (zs h6 14 13 ((h6 14 13) + 1)) fun h7 => some ((h7 14 13) - 1, h7) else some (-1, h3) := by
    unfold fX11_text fX11_text_c22 fX11_text_c69
    rw [if_neg (show ¬ zw 1 = 0 by decide), if_pos (show zw 1 = zw 1 from rfl), R.1, zw_id (show -2147483648 ≤ (nl : Int) ∧ (nl : Int) < 2147483648 by omega), show zw 4 = 4 by decide]
    simp only [if_neg (show ¬ zw 1 = zw 2 by decide)]
  have fb := lwR_F (n := n) (b := b)
  have n240 := T.1
  have zu : zw (lwR n b).1 = (lwR n b).1 := zw_id (by omega)
  rw [z0]
  by_cases c4 : nl < 4
  · obtain ⟨g1, r1, r2, r3⟩ := readLM T hN (x := nl) (by omega) H
    have R1 := RMl_L V (Nat.le_refl nl) r2 R
    refine ⟨fun hc => ?_, fun hc => ?_⟩
    · rw [if_neg (by omega), r1, z2_some, zu, zw_m1, if_pos hc.2]
      obtain ⟨c1, c2⟩ := r3 hc.2
      have e1 : zs g1 14 2 0 14 13 = (nl : Int) := by rw [zs_ne (by decide)]; exact R1.1
      simp only [zlet_v]
      rw [e1, zs_at]
      obtain ⟨g2, eg2⟩ : ∃ g2, g2 = zs (zs g1 14 2 0) 14 13 ((nl : Int) + 1) := ⟨_, rfl⟩
      rw [← eg2]
      have n2 : ∀ b, b ≠ 14 → g2 b = g1 b := fun b hb => by rw [eg2, zs_row_ne hb, zs_row_ne hb]
      have kp : ∀ (i : Nat) (cs : List rCl), lawMo i cs 0 0 g1 → lawMo i cs 0 0 g2 := fun i cs h => lawMo_keep cs 0 0 (fun j _ _ => ⟨by rw [n2 50 (by decide)], by rw [n2 51 (by decide)]⟩) (fun j _ _ => ⟨by rw [n2 54 (by decide)], by rw [n2 55 (by decide)], by rw [n2 56 (by decide)]⟩) h
      refine ⟨g2, by rw [show ((nl : Int) + 1) - 1 = (nl : Int) by omega], FR_tr r2.1 (fun b hb => n2 b (fun e => hb (by rw [e]; decide))), fun q hq => ?_, ⟨by rw [eg2, zs_ne (by decide), zs_at]; rfl, fun i hi => absurd hi (by omega)⟩, by rw [eg2, zs_at]; rfl, fun i hi => ?_⟩
      · rw [eg2, zs_ne (fun e => hq (by rw [e]; decide)), zs_ne (fun e => hq (by rw [e]; decide))]
        exact FS_up r2.2.1 (J' := [2, 3, 4, 5, 13, 14]) (by decide) q hq
      · unfold lw1
        by_cases e : i = nl
        · subst e
          rw [if_pos rfl, n2 53 (by decide)]
          exact ⟨c1, kp _ _ c2⟩
        · obtain ⟨o1, o2⟩ := R1.2 i (by omega)
          rw [if_neg e, n2 53 (by decide)]
          exact ⟨o1, kp _ _ o2⟩
    · rw [if_neg (by omega), r1, z2_some, zu, zw_m1, if_neg (fun e => hc ⟨c4, e⟩)]
      exact ⟨g1, rfl, r2.1, r2.2.1, R1⟩
  · refine ⟨fun hc => absurd hc.1 c4, fun hc => ?_⟩
    rw [if_pos (by omega)]
    exact ⟨g, rfl, FR_rf, FS_rf, R⟩
/-- what the rule that holds grants -/
def L7 (a b c d e f g : Nat) : Nat → Int := fun j => (([a, b, c, d, e, f, g] : List Nat).getD j 0 : Nat)
def grL (hold : Int) (lw : Nat → List rCl) : hGr := fun a b c d e f g => if hold = -1 then true else decide (0 < lawV (L7 a b c d e f g) (lw hold.toNat))
theorem lawV_b {L : Nat → Int} (hL : LB L) (cs : List rCl) (hc : ∀ c, c ∈ cs → OKc c) : -1000000 ≤ lawV L cs ∧ lawV L cs ≤ 1000000 := by
  induction cs with
  | nil => exact ⟨(show (-1000000 : Int) ≤ 0 by decide), (show (0 : Int) ≤ 1000000 by decide)⟩
  | cons c cs ih =>
    have i := ih (fun d hd => hc d (List.mem_cons_of_mem _ hd))
    have o := (hc c (List.mem_cons_self ..)).2.1.2.2.1 L hL
    unfold lawV
    split
    · exact i
    · exact o
theorem L7_at (l : Nat → Nat) : ∀ j, j < 7 → L7 (l 0) (l 1) (l 2) (l 3) (l 4) (l 5) (l 6) j = (l j : Int) := by
  intro j hj
  have : j = 0 ∨ j = 1 ∨ j = 2 ∨ j = 3 ∨ j = 4 ∨ j = 5 ∨ j = 6 := by omega
  rcases this with rfl | rfl | rfl | rfl | rfl | rfl | rfl <;> rfl
theorem GX_of {nl : Nat} {lw : Nat → List rCl} {hold : Int} (V : RVl nl lw) (hh : -1 ≤ hold ∧ hold < nl) {N lr : Nat} (hN : 300 ≤ N) (hlr : lr = 32 ∨ lr = 36) {h : zH} (R : RXl nl lw h) (h1 : h 5 1 = hold) : GX N lr (grL hold lw) h := by
  have hV := V.1
  unfold GX
  rw [h1, zw_id (show -2147483648 ≤ hold ∧ hold < 2147483648 by omega)]
  by_cases c : hold = -1
  · left
    exact ⟨c, fun a b c' d e f g => if_pos c⟩
  · right
    refine ⟨c, fun h' l e5 e24 e25 el => ?_⟩
    obtain ⟨ρ, eρ⟩ : ∃ ρ : Nat, hold = (ρ : Int) := ⟨hold.toNat, by omega⟩
    have hρ : ρ < nl := by omega
    obtain ⟨v1, v2, _⟩ := V.2 ρ hρ
    obtain ⟨o1, o2⟩ := R.2 ρ hρ
    have hL : LB (L7 (l 0) (l 1) (l 2) (l 3) (l 4) (l 5) (l 6)) := fun j hj => by
      rw [L7_at l j hj]
      have := (el j hj).2
      omega
    obtain ⟨h'', w1, w2, w3⟩ := worthX (N := N) hN hlr hL (show ρ < 4 by omega) v1 v2 (h := h') (by rw [e5 1 (by decide), h1]; exact eρ) (by rw [e25]; exact o1) (fun j hj => by rw [L7_at l j hj]; exact (el j hj).1) (by rw [e24]; exact o2)
    have lb := lawV_b hL (lw ρ) v1
    refine ⟨_, h'', w1, ?_, fun b b5 b26 => w2 b (fun e => by rcases List.mem_cons.mp e with e | e; exact b5 e; exact b26 (List.mem_singleton.mp e)), fun j hj => w3 j (fun e => hj (List.mem_singleton.mp e))⟩
    unfold grL
    rw [if_neg c, zw_id (show -2147483648 ≤ lawV (L7 (l 0) (l 1) (l 2) (l 3) (l 4) (l 5) (l 6)) (lw ρ) ∧ lawV (L7 (l 0) (l 1) (l 2) (l 3) (l 4) (l 5) (l 6)) (lw ρ) < 2147483648 by omega), eρ, Int.toNat_natCast, decide_eq_true_iff]
theorem GM_of {nl : Nat} {lw : Nat → List rCl} {hold : Int} (V : RVl nl lw) (hh : -1 ≤ hold ∧ hold < nl) {N : Nat} (hN : 1000 ≤ N) {g : zH} (R : RMl nl lw g) (h1 : g 14 35 = hold) : GM N (grL hold lw) g := by
  have hV := V.1
  unfold GM
  rw [h1, zw_id (show -2147483648 ≤ hold ∧ hold < 2147483648 by omega)]
  by_cases c : hold = -1
  · left
    exact ⟨c, fun a b c' d e f g => if_pos c⟩
  · right
    refine ⟨c, fun g' l e50 e51 e52 e53 e54 e55 e56 el => ?_⟩
    obtain ⟨ρ, eρ⟩ : ∃ ρ : Nat, hold = (ρ : Int) := ⟨hold.toNat, by omega⟩
    have hρ : ρ < nl := by omega
    obtain ⟨v1, v2, v3, v4⟩ := V.2 ρ hρ
    obtain ⟨o1, o2⟩ := R.2 ρ hρ
    have hL : LB (L7 (l 0) (l 1) (l 2) (l 3) (l 4) (l 5) (l 6)) := fun j hj => by
      rw [L7_at l j hj]
      have := (el j hj).2
      omega
    obtain ⟨g'', w1, w2⟩ := worthM (N := N) hN hL (show ρ < 5 by omega) v1 (g := g') (fun j hj => by rw [L7_at l j hj]; exact (el j hj).1) (by rw [e53]; exact o1) (by omega) (by omega) (lawMo_keep _ 0 0 (fun j _ _ => ⟨by rw [e50], by rw [e51]⟩) (fun j _ _ => ⟨by rw [e54], by rw [e55], by rw [e56]⟩) o2)
    have lb := lawV_b hL (lw ρ) v1
    rw [eρ]
    refine ⟨_, g'', w1, ?_, fun b hb => w2 b (fun e => hb (List.mem_singleton.mp e))⟩
    unfold grL
    rw [if_neg (by omega), zw_id (show -2147483648 ≤ lawV (L7 (l 0) (l 1) (l 2) (l 3) (l 4) (l 5) (l 6)) (lw ρ) ∧ lawV (L7 (l 0) (l 1) (l 2) (l 3) (l 4) (l 5) (l 6)) (lw ρ) < 2147483648 by omega), Int.toNat_natCast, decide_eq_true_iff]
