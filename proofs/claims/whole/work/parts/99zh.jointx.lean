/-! the class's machine: a joint -/
theorem zand01 : ∀ a : Bool, zand (bI a) 1 = bI a ∧ zand (bI a) 0 = 0 ∧ zor (bI a) 0 = bI a ∧ zor (bI a) 1 = 1 := by decide +kernel
/-- the last of a joint's flags -/
theorem c104X {par br : Int} {wa mu cp cl cn as' : Bool} {h : zH} {s : Int} (sw : zw s = s) (en cpn : Bool) (H : FXr par br wa mu cp cl cn as' h) : ∃ h', fX4_join_c104 s (bI en) (bI cpn) h = some h' ∧ FR [4] h h' ∧ FS 4 [7, 8, 9, 10] h h' ∧ FXr par br true (decide (s = 38 ∨ s = 124)) cpn (cl && !en) cn as' h' := by
  obtain ⟨⟨a1, a2⟩, ⟨a3, a4, a5⟩, a6, a7, a8⟩ := H
  obtain ⟨z1, z2, _⟩ := zand01 cl
  unfold fX4_join_c104
  rw [if_pos (bI01 cpn), zlet_v]
  obtain ⟨h2, eh2⟩ : ∃ h2, h2 = zs h 4 9 (bI cpn) := ⟨_, rfl⟩
  rw [← eh2]
  have c10 : h2 4 10 = bI cl := by rw [eh2, zs_ne (by decide)]; exact a6
  rw [c10, z1, z2, zwB, sw, show zw 38 = 38 by decide, show zw 124 = 124 by decide]
  have fin : ∀ (v : Bool) (w : Bool), v = (cl && !en) → w = decide (s = 38 ∨ s = 124) → FR [4] h (zs (zs (zs h2 4 10 (bI v)) 4 7 1) 4 8 (bI w)) ∧ FS 4 [7, 8, 9, 10] h (zs (zs (zs h2 4 10 (bI v)) 4 7 1) 4 8 (bI w)) ∧ FXr par br true (decide (s = 38 ∨ s = 124)) cpn (cl && !en) cn as' (zs (zs (zs h2 4 10 (bI v)) 4 7 1) 4 8 (bI w)) := fun v w hv hw => by
    rw [eh2]
    refine ⟨fun b hb => ?_, fun q hq => ?_, ⟨?_, ?_⟩, ⟨?_, ?_, ?_⟩, ?_, ?_, ?_⟩
    · rw [zs_row_ne (fun e => hb (by rw [e]; decide)), zs_row_ne (fun e => hb (by rw [e]; decide)), zs_row_ne (fun e => hb (by rw [e]; decide)), zs_row_ne (fun e => hb (by rw [e]; decide))]
    · rw [zs_ne (fun e => hq (by rw [e]; decide)), zs_ne (fun e => hq (by rw [e]; decide)), zs_ne (fun e => hq (by rw [e]; decide)), zs_ne (fun e => hq (by rw [e]; decide))]
    · rw [zs_ne (by decide), zs_ne (by decide), zs_ne (by decide), zs_ne (by decide)]; exact a1
    · rw [zs_ne (by decide), zs_ne (by decide), zs_ne (by decide), zs_ne (by decide)]; exact a2
    · rw [zs_ne (by decide), zs_at]; rfl
    · rw [zs_at, hw]
    · rw [zs_ne (by decide), zs_ne (by decide), zs_ne (by decide), zs_at]
    · rw [zs_ne (by decide), zs_ne (by decide), zs_at, hv]
    · rw [zs_ne (by decide), zs_ne (by decide), zs_ne (by decide), zs_ne (by decide)]; exact a7
    · rw [zs_ne (by decide), zs_ne (by decide), zs_ne (by decide), zs_ne (by decide)]; exact a8
  cases en with
  | false =>
    rw [if_pos (show bI false = 0 from rfl), if_pos (bI01 cl)]
    simp only [zlet_v]
    by_cases c1 : s = 38
    · rw [if_pos c1]
      exact ⟨_, rfl, fin cl true (by simp) (by simp [c1])⟩
    · rw [if_neg c1]
      by_cases c2 : s = 124
      · rw [if_pos c2]
        exact ⟨_, rfl, fin cl true (by simp) (by simp [c2])⟩
      · rw [if_neg c2]
        exact ⟨_, rfl, fin cl false (by simp) (by simp [c1, c2])⟩
  | true =>
    rw [if_neg (show ¬ bI true = 0 by decide), if_pos (Or.inl rfl)]
    simp only [zlet_v]
    by_cases c1 : s = 38
    · rw [if_pos c1]
      exact ⟨_, rfl, fin false true (by simp) (by simp [c1])⟩
    · rw [if_neg c1]
      by_cases c2 : s = 124
      · rw [if_pos c2]
        exact ⟨_, rfl, fin false true (by simp) (by simp [c2])⟩
      · rw [if_neg c2]
        exact ⟨_, rfl, fin false false (by simp) (by simp [c1, c2])⟩
/-- what a joint does behind the reducing: it emits or pushes -/
theorem c47X {C S : List Int} {d par br : Int} {wa mu cp cl cn as' : Bool} {h : zH} {s : Int} (sw : zw s = s) (hC : C.length ≤ 240) (hS : S.length ≤ 48) (cm en : Bool) (R : RXr C S d h) (H : FXr par br wa mu cp cl cn as' h) : ∃ h', fX4_join_c47 s (bI cm) (bI en) h = some h' ∧ FR [4, 22, 23] h h' ∧ RXr (if s = 63 then mEm C (-s) else C) (if s = 63 then S else mPu S s) d h' ∧ FXr par br true (decide (s = 38 ∨ s = 124)) (cm || cp && !en) (cl && !en) (cn || cm) (if s = 63 then true else as') h' := by
  obtain ⟨⟨c1, c2⟩, ⟨c3, c4⟩, c5⟩ := R
  obtain ⟨⟨a1, a2⟩, ⟨a3, a4, a5⟩, a6, a7, a8⟩ := H
  -- behind the conditional flag
  have fin : ∀ (g : zH) (C' S' : List Int) (as2 : Bool), FR [4, 22, 23] h g → RXr C' S' d g → FXr par br wa mu cp cl (cn || cm) as2 g → ∃ h', (if zw (bI cm) = 0 then (if zw (g 4 9) = 0 then fX4_join_c104 s (bI en) 0 g else if zw (bI en) = 0 then fX4_join_c104 s (bI en) 1 g else fX4_join_c104 s (bI en) 0 g) else fX4_join_c104 s (bI en) 1 g) = some h' ∧ FR [4, 22, 23] h h' ∧ RXr C' S' d h' ∧ FXr par br true (decide (s = 38 ∨ s = 124)) (cm || cp && !en) (cl && !en) (cn || cm) as2 h' := fun g C' S' as2 F R2 G2 => by
    obtain ⟨g0, x1, x2, x3, x4⟩ := c104X sw en false G2
    obtain ⟨g1, y1, y2, y3, y4⟩ := c104X sw en true G2
    have x1 : fX4_join_c104 s (bI en) 0 g = some g0 := x1
    have y1 : fX4_join_c104 s (bI en) 1 g = some g1 := y1
    have r0 : RXr C' S' d g0 := RXr_to R2 (FR_up x2 (by decide)) (x3 1 (by decide)) (x3 3 (by decide)) (x3 4 (by decide))
    have r1 : RXr C' S' d g1 := RXr_to R2 (FR_up y2 (by decide)) (y3 1 (by decide)) (y3 3 (by decide)) (y3 4 (by decide))
    rw [G2.2.1.2.2, zwB, zwB, zwB, x1, y1]
    cases cm with
    | true =>
      rw [if_neg (show ¬ bI true = 0 by decide)]
      exact ⟨g1, rfl, FR_tr F (FR_up y2 (by decide)), r1, y4⟩
    | false =>
      rw [if_pos (show bI false = 0 from rfl)]
      cases cp with
      | false =>
        rw [if_pos (show bI false = 0 from rfl)]
        exact ⟨g0, rfl, FR_tr F (FR_up x2 (by decide)), r0, x4⟩
      | true =>
        rw [if_neg (show ¬ bI true = 0 by decide)]
        cases en with
        | false =>
          rw [if_pos (show bI false = 0 from rfl)]
          exact ⟨g1, rfl, FR_tr F (FR_up y2 (by decide)), r1, y4⟩
        | true =>
          rw [if_neg (show ¬ bI true = 0 by decide)]
          exact ⟨g0, rfl, FR_tr F (FR_up x2 (by decide)), r0, x4⟩
  have hor : ∀ g : zH, g 4 11 = bI cn → zor (g 4 11) (bI cm) = bI (cn || cm) := fun g hg => by
    obtain ⟨_, _, w1, w2⟩ := zand01 cn
    rw [hg]
    cases cm with
    | false => rw [Bool.or_false]; exact w1
    | true => rw [Bool.or_true]; exact w2
  unfold fX4_join_c47
  rw [sw, show zw 63 = 63 by decide]
  by_cases c63 : s = 63
  · rw [if_pos c63, if_pos c63, if_pos c63, if_pos c63]
    obtain ⟨h1, e1, e2, e3, e4, e5⟩ := emitX (v := -s) hC c1 c2
    rw [e1, zlet_v, zlet_v]
    obtain ⟨h2, eh2⟩ : ∃ h2, h2 = zs h1 4 12 1 := ⟨_, rfl⟩
    rw [← eh2]
    have o2 : ∀ j, j ≠ 1 → j ≠ 12 → h2 4 j = h 4 j := fun j x y => by rw [eh2, zs_ne y, e3 j (fun e => x (List.mem_singleton.mp e))]
    rw [hor h2 (by rw [o2 11 (by decide) (by decide)]; exact a7), if_pos (bI01 _), zlet_v]
    obtain ⟨h3, eh3⟩ : ∃ h3, h3 = zs h2 4 11 (bI (cn || cm)) := ⟨_, rfl⟩
    rw [← eh3]
    have o3 : ∀ j, j ≠ 1 → j ≠ 12 → j ≠ 11 → h3 4 j = h 4 j := fun j x y z => by rw [eh3, zs_ne z, o2 j x y]
    refine fin h3 _ _ true ?_ ⟨⟨?_, ?_⟩, ⟨?_, ?_⟩, ?_⟩ ⟨⟨?_, ?_⟩, ⟨?_, ?_, ?_⟩, ?_, ?_, ?_⟩
    · rw [eh3, eh2]
      exact FR_tr (FR_up e2 (by decide)) (fun b hb => by rw [zs_row_ne (fun e => hb (by rw [e]; decide)), zs_row_ne (fun e => hb (by rw [e]; decide))])
    · rw [eh3, zs_ne (by decide), eh2, zs_ne (by decide)]; exact e4
    · rw [eh3, zs_row_ne (by decide), eh2, zs_row_ne (by decide)]; exact e5
    · rw [o3 3 (by decide) (by decide) (by decide)]; exact c3
    · rw [eh3, zs_row_ne (by decide), eh2, zs_row_ne (by decide), e2 23 (by decide)]; exact c4
    · rw [o3 4 (by decide) (by decide) (by decide)]; exact c5
    · rw [o3 5 (by decide) (by decide) (by decide)]; exact a1
    · rw [o3 6 (by decide) (by decide) (by decide)]; exact a2
    · rw [o3 7 (by decide) (by decide) (by decide)]; exact a3
    · rw [o3 8 (by decide) (by decide) (by decide)]; exact a4
    · rw [o3 9 (by decide) (by decide) (by decide)]; exact a5
    · rw [o3 10 (by decide) (by decide) (by decide)]; exact a6
    · rw [eh3, zs_at]
    · rw [eh3, zs_ne (by decide), eh2, zs_at]; rfl
  · rw [if_neg c63, if_neg c63, if_neg c63, if_neg c63]
    obtain ⟨h1, e1, e2, e3, e4, e5⟩ := pushX (v := s) hS c3 c4
    rw [e1, zlet_v]
    have o1 : ∀ j, j ≠ 3 → h1 4 j = h 4 j := fun j x => e3 j (fun e => x (List.mem_singleton.mp e))
    rw [hor h1 (by rw [o1 11 (by decide)]; exact a7), if_pos (bI01 _), zlet_v]
    obtain ⟨h3, eh3⟩ : ∃ h3, h3 = zs h1 4 11 (bI (cn || cm)) := ⟨_, rfl⟩
    rw [← eh3]
    have o3 : ∀ j, j ≠ 3 → j ≠ 11 → h3 4 j = h 4 j := fun j x z => by rw [eh3, zs_ne z, o1 j x]
    refine fin h3 _ _ as' ?_ ⟨⟨?_, ?_⟩, ⟨?_, ?_⟩, ?_⟩ ⟨⟨?_, ?_⟩, ⟨?_, ?_, ?_⟩, ?_, ?_, ?_⟩
    · rw [eh3]
      exact FR_tr (FR_up e2 (by decide)) (fun b hb => by rw [zs_row_ne (fun e => hb (by rw [e]; decide))])
    · rw [o3 1 (by decide) (by decide)]; exact c1
    · rw [eh3, zs_row_ne (by decide), e2 22 (by decide)]; exact c2
    · rw [eh3, zs_ne (by decide)]; exact e4
    · rw [eh3, zs_row_ne (by decide)]; exact e5
    · rw [o3 4 (by decide) (by decide)]; exact c5
    · rw [o3 5 (by decide) (by decide)]; exact a1
    · rw [o3 6 (by decide) (by decide)]; exact a2
    · rw [o3 7 (by decide) (by decide)]; exact a3
    · rw [o3 8 (by decide) (by decide)]; exact a4
    · rw [o3 9 (by decide) (by decide)]; exact a5
    · rw [o3 10 (by decide) (by decide)]; exact a6
    · rw [eh3, zs_at]
    · rw [o3 12 (by decide) (by decide)]; exact a8
/-- a joint's sign joins -/
theorem jnX {C S : List Int} {d par br : Int} {wa mu cp cl cn as' : Bool} {h : zH} {s : Int} (sw : zw s = s) (hC : C.length ≤ 240) (hS : S.length ≤ 48) (R : RXr C S d h) (H : FXr par br wa mu cp cl cn as' h) : ∃ h', fX4_join s h = some h' ∧ FR [4, 22, 23] h h' ∧ RXr (if s = 63 then mEm C (-63) else C) (if s = 63 then S else mPu S s) d h' ∧ FXr par br true (decide (s = 38 ∨ s = 124)) (if s = 63 then false else if isS s then true else if s = 38 ∨ s = 124 then false else cp) (if s = 63 ∨ s = 38 ∨ s = 124 then false else cl) (if isS s then true else cn) (if s = 63 then true else as') h' := by
  have go : ∀ cm en : Bool, fX4_join s h = fX4_join_c47 s (bI cm) (bI en) h → (cm || cp && !en) = (if s = 63 then false else if isS s then true else if s = 38 ∨ s = 124 then false else cp) → (cl && !en) = (if s = 63 ∨ s = 38 ∨ s = 124 then false else cl) → (cn || cm) = (if isS s then true else cn) → (∃ h', fX4_join s h = some h' ∧ FR [4, 22, 23] h h' ∧ RXr (if s = 63 then mEm C (-63) else C) (if s = 63 then S else mPu S s) d h' ∧ FXr par br true (decide (s = 38 ∨ s = 124)) (if s = 63 then false else if isS s then true else if s = 38 ∨ s = 124 then false else cp) (if s = 63 ∨ s = 38 ∨ s = 124 then false else cl) (if isS s then true else cn) (if s = 63 then true else as') h') := fun cm en e1 e2 e3 e4 => by
    obtain ⟨h', r1, r2, r3, r4⟩ := c47X sw hC hS cm en R H
    rw [e2, e3, e4] at r4
    have r3' : RXr (if s = 63 then mEm C (-63) else C) (if s = 63 then S else mPu S s) d h' := by
      by_cases c : s = 63
      · rw [if_pos c, if_pos c] at r3 ⊢
        rw [c] at r3; exact r3
      · rw [if_neg c, if_neg c] at r3 ⊢
        exact r3
    exact ⟨h', e1.trans r1, r2, r3', r4⟩
  have ej : fX4_join s h = if s = 61 ∨ s = 60 ∨ s = 62 then fX4_join_c47 s 1 0 h else if s = 38 ∨ s = 124 ∨ s = 63 then fX4_join_c47 s 0 1 h else fX4_join_c47 s 0 0 h := by
    unfold fX4_join fX4_join_c18
    rw [sw, show zw 61 = 61 by decide, show zw 60 = 60 by decide, show zw 62 = 62 by decide, show zw 38 = 38 by decide, show zw 124 = 124 by decide, show zw 63 = 63 by decide]
    by_cases d1 : s = 61
    · rw [if_pos d1, if_neg (show ¬ s = 38 by omega), if_neg (show ¬ s = 124 by omega), if_neg (show ¬ s = 63 by omega), if_pos (Or.inl d1)]
    · rw [if_neg d1]
      by_cases d2 : s = 60
      · rw [if_pos d2, if_neg (show ¬ s = 38 by omega), if_neg (show ¬ s = 124 by omega), if_neg (show ¬ s = 63 by omega), if_pos (Or.inr (Or.inl d2))]
      · rw [if_neg d2]
        by_cases d3 : s = 62
        · rw [if_pos d3, if_neg (show ¬ s = 38 by omega), if_neg (show ¬ s = 124 by omega), if_neg (show ¬ s = 63 by omega), if_pos (Or.inr (Or.inr d3))]
        · rw [if_neg d3, if_neg (show ¬ (s = 61 ∨ s = 60 ∨ s = 62) by omega)]
          by_cases d4 : s = 38
          · rw [if_pos d4, if_pos (by omega)]
          · rw [if_neg d4]
            by_cases d5 : s = 124
            · rw [if_pos d5, if_pos (by omega)]
            · rw [if_neg d5]
              by_cases d6 : s = 63
              · rw [if_pos d6, if_pos (by omega)]
              · rw [if_neg d6, if_neg (by omega)]
  by_cases k1 : isS s
  · have k1' := k1
    unfold isS at k1'
    refine go true false (by rw [ej, if_pos k1]; rfl) ?_ ?_ ?_
    · rw [if_neg (by omega), if_pos k1]; rfl
    · rw [if_neg (by omega)]; simp
    · rw [if_pos k1, Bool.or_true]
  · rw [if_neg k1] at ej
    by_cases k2 : s = 38 ∨ s = 124 ∨ s = 63
    · rw [if_pos k2] at ej
      refine go false true (by rw [ej]; rfl) ?_ ?_ ?_
      · by_cases c : s = 63
        · rw [if_pos c]; simp
        · rw [if_neg c, if_neg k1, if_pos (by omega)]; simp
      · rw [if_pos (by omega)]; simp
      · rw [if_neg k1, Bool.or_false]
    · rw [if_neg k2] at ej
      refine go false false (by rw [ej]; rfl) ?_ ?_ ?_
      · rw [if_neg (by omega), if_neg k1, if_neg (by omega)]; simp
      · rw [if_neg (by omega)]; simp
      · rw [if_neg k1, Bool.or_false]
/-- a bracket or a parenthesis is shut -/
theorem shutX {C S : List Int} {d par br : Int} {wa mu cp cl cn as' : Bool} {h : zH} {s : Int} (hs : s = 41 ∨ s = 93) (hS : S.length ≤ 48) (R : RXr C S d h) (H : FXr par br wa mu cp cl cn as' h) : ∃ h', fX4_shut s h = h' ∧ FR [4] h h' ∧ RXr C S.tail (d - 1) h' ∧ FXr (if s = 93 then par else par - 1) (if s = 93 then br - 1 else br) wa mu cp (if s = 93 then cl else true) cn as' h' := by
  obtain ⟨⟨c1, c2⟩, ⟨c3, c4⟩, c5⟩ := R
  obtain ⟨⟨a1, a2⟩, ⟨a3, a4, a5⟩, a6, a7, a8⟩ := H
  have mx : fJ9_max_7cf53 ((h 4 3) - 1) 0 = (S.tail.length : Int) := by
    unfold fJ9_max_7cf53
    rw [c3, zw_id (show -2147483648 ≤ (S.length : Int) - 1 ∧ (S.length : Int) - 1 < 2147483648 by omega), zw_0]
    cases S with
    | nil => rfl
    | cons t S =>
      rw [List.length_cons, if_neg (by omega)]
      show ((S.length + 1 : Nat) : Int) - 1 = (S.length : Int)
      omega
  have tl : sgm (h 23) 0 S.tail.reverse := by
    cases S with
    | nil => exact c4
    | cons t S =>
      rw [List.reverse_cons] at c4
      exact sgm_l c4
  unfold fX4_shut
  rw [mx, zlet_v, zlet_v]
  obtain ⟨h2, eh2⟩ : ∃ h2, h2 = zs (zs h 4 3 (S.tail.length : Int)) 4 4 ((zs h 4 3 (S.tail.length : Int) 4 4) - 1) := ⟨_, rfl⟩
  rw [← eh2]
  have d2 : h2 4 4 = d - 1 := by rw [eh2, zs_at, zs_ne (by decide), c5]
  have w3 : h2 4 3 = (S.tail.length : Int) := by rw [eh2, zs_ne (by decide), zs_at]
  have o : ∀ j, j ≠ 3 → j ≠ 4 → h2 4 j = h 4 j := fun j x y => by rw [eh2, zs_ne y, zs_ne x]
  have F2 : FR [4] h h2 := by
    rw [eh2]
    exact fun b hb => by rw [zs_row_ne (fun e => hb (by rw [e]; decide)), zs_row_ne (fun e => hb (by rw [e]; decide))]
  rcases hs with rfl | rfl
  · simp only [zlet_v, eq_self, if_true, if_false, show zw 41 = 41 by decide, show zw 93 = 93 by decide, eq_false (show ¬ (41 : Int) = 93 by decide)]
    refine ⟨_, rfl, FR_tr F2 (fun b hb => by rw [zs_row_ne (fun e => hb (by rw [e]; decide)), zs_row_ne (fun e => hb (by rw [e]; decide))]), ⟨⟨?_, ?_⟩, ⟨?_, ?_⟩, ?_⟩, ⟨?_, ?_⟩, ⟨?_, ?_, ?_⟩, ?_, ?_, ?_⟩
    · rw [zs_ne (by decide), zs_ne (by decide), o 1 (by decide) (by decide)]; exact c1
    · rw [zs_row_ne (by decide), zs_row_ne (by decide), F2 22 (by decide)]; exact c2
    · rw [zs_ne (by decide), zs_ne (by decide)]; exact w3
    · rw [zs_row_ne (by decide), zs_row_ne (by decide), F2 23 (by decide)]; exact tl
    · rw [zs_ne (by decide), zs_ne (by decide)]; exact d2
    · rw [zs_ne (by decide), zs_at, o 5 (by decide) (by decide), a1]
    · rw [zs_ne (by decide), zs_ne (by decide), o 6 (by decide) (by decide), a2]
    · rw [zs_ne (by decide), zs_ne (by decide), o 7 (by decide) (by decide)]; exact a3
    · rw [zs_ne (by decide), zs_ne (by decide), o 8 (by decide) (by decide)]; exact a4
    · rw [zs_ne (by decide), zs_ne (by decide), o 9 (by decide) (by decide)]; exact a5
    · rw [zs_at]; rfl
    · rw [zs_ne (by decide), zs_ne (by decide), o 11 (by decide) (by decide)]; exact a7
    · rw [zs_ne (by decide), zs_ne (by decide), o 12 (by decide) (by decide)]; exact a8
  · simp only [zlet_v, eq_self, if_true, if_false]
    refine ⟨_, rfl, FR_tr F2 (fun b hb => by rw [zs_row_ne (fun e => hb (by rw [e]; decide))]), ⟨⟨?_, ?_⟩, ⟨?_, ?_⟩, ?_⟩, ⟨?_, ?_⟩, ⟨?_, ?_, ?_⟩, ?_, ?_, ?_⟩
    · rw [zs_ne (by decide), o 1 (by decide) (by decide)]; exact c1
    · rw [zs_row_ne (by decide), F2 22 (by decide)]; exact c2
    · rw [zs_ne (by decide)]; exact w3
    · rw [zs_row_ne (by decide), F2 23 (by decide)]; exact tl
    · rw [zs_ne (by decide)]; exact d2
    · rw [zs_ne (by decide), o 5 (by decide) (by decide), a1]
    · rw [zs_at, o 6 (by decide) (by decide), a2]
    · rw [zs_ne (by decide), o 7 (by decide) (by decide)]; exact a3
    · rw [zs_ne (by decide), o 8 (by decide) (by decide)]; exact a4
    · rw [zs_ne (by decide), o 9 (by decide) (by decide)]; exact a5
    · rw [zs_ne (by decide), o 10 (by decide) (by decide)]; exact a6
    · rw [zs_ne (by decide), o 11 (by decide) (by decide)]; exact a7
    · rw [zs_ne (by decide), o 12 (by decide) (by decide)]; exact a8
