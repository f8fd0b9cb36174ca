/-! the class's steps in a rule, each as the machine's -/
def FXr (par br : Int) (wa mu cp cl cn as' : Bool) (h : zH) : Prop := (h 4 5 = par ∧ h 4 6 = br) ∧ (h 4 7 = bI wa ∧ h 4 8 = bI mu ∧ h 4 9 = bI cp) ∧ (h 4 10 = bI cl ∧ h 4 11 = bI cn ∧ h 4 12 = bI as')
theorem bIz : bI false = 0 ∧ bI true = 1 := ⟨rfl, rfl⟩
theorem fitX {s par br : Int} {wa mu cp cl cn as' : Bool} {h : zH} (hs : zw s = s) (hb : -1000 ≤ par ∧ par ≤ 1000 ∧ -1000 ≤ br ∧ br ≤ 1000) (H : FXr par br wa mu cp cl cn as' h) : fX4_fits s h = bI (fitB s par br cp cl cn as') := by
  obtain ⟨⟨a1, a2⟩, ⟨a3, a4, a5⟩, a6, a7, a8⟩ := H
  unfold fX4_fits
  rw [hs, a1, a2, a5, a6, a7, a8, zwB, zwB, zwB, zwB, zw_id (show -2147483648 ≤ par ∧ par < 2147483648 by omega), zw_id (show -2147483648 ≤ br ∧ br < 2147483648 by omega)]
  unfold fitB
  by_cases hk : s = -1 ∨ s = 38 ∨ s = 41 ∨ s = 42 ∨ s = 43 ∨ s = 45 ∨ s = 47 ∨ s = 59 ∨ s = 60 ∨ s = 61 ∨ s = 62 ∨ s = 63 ∨ s = 93 ∨ s = 124
  · rcases hk with rfl | rfl | rfl | rfl | rfl | rfl | rfl | rfl | rfl | rfl | rfl | rfl | rfl | rfl
    · rw [if_pos rfl, if_pos (show (-1 : Int) = -1 ∨ (-1 : Int) = 59 by decide)]
      cases as' <;> cases cn <;> (by_cases hb : br = 0) <;> simp [hb, bI]
    · rw [if_neg (show ¬ (38 : Int) = -1 by decide), if_pos rfl, if_neg (show ¬ ((38 : Int) = -1 ∨ (38 : Int) = 59) by decide), if_pos (show (38 : Int) = 38 ∨ (38 : Int) = 124 by decide)]
      cases cp <;> (by_cases hb : br = 0) <;> simp [hb, bI]
    · rw [if_neg (show ¬ (41 : Int) = -1 by decide), if_neg (show ¬ (41 : Int) = 38 by decide), if_pos rfl, if_neg (show ¬ ((41 : Int) = -1 ∨ (41 : Int) = 59) by decide), if_neg (show ¬ ((41 : Int) = 38 ∨ (41 : Int) = 124) by decide), if_pos (show (41 : Int) = 41 by decide)]
      cases cp <;> (by_cases hb : br = 0) <;> (by_cases hp : par ≤ 0) <;> simp [hb, hp, bI] <;> omega
    · rw [if_neg (show ¬ (42 : Int) = -1 by decide), if_neg (show ¬ (42 : Int) = 38 by decide), if_neg (show ¬ (42 : Int) = 41 by decide), if_pos rfl, if_neg (show ¬ ((42 : Int) = -1 ∨ (42 : Int) = 59) by decide), if_neg (show ¬ ((42 : Int) = 38 ∨ (42 : Int) = 124) by decide), if_neg (show ¬ ((42 : Int) = 41) by decide), if_pos (show (42 : Int) = 42 ∨ (42 : Int) = 43 ∨ (42 : Int) = 45 ∨ (42 : Int) = 47 by decide)]
      cases cl <;> simp [bI]
    · rw [if_neg (show ¬ (43 : Int) = -1 by decide), if_neg (show ¬ (43 : Int) = 38 by decide), if_neg (show ¬ (43 : Int) = 41 by decide), if_neg (show ¬ (43 : Int) = 42 by decide), if_pos rfl, if_neg (show ¬ ((43 : Int) = -1 ∨ (43 : Int) = 59) by decide), if_neg (show ¬ ((43 : Int) = 38 ∨ (43 : Int) = 124) by decide), if_neg (show ¬ ((43 : Int) = 41) by decide), if_pos (show (43 : Int) = 42 ∨ (43 : Int) = 43 ∨ (43 : Int) = 45 ∨ (43 : Int) = 47 by decide)]
      cases cl <;> simp [bI]
    · rw [if_neg (show ¬ (45 : Int) = -1 by decide), if_neg (show ¬ (45 : Int) = 38 by decide), if_neg (show ¬ (45 : Int) = 41 by decide), if_neg (show ¬ (45 : Int) = 42 by decide), if_neg (show ¬ (45 : Int) = 43 by decide), if_pos rfl, if_neg (show ¬ ((45 : Int) = -1 ∨ (45 : Int) = 59) by decide), if_neg (show ¬ ((45 : Int) = 38 ∨ (45 : Int) = 124) by decide), if_neg (show ¬ ((45 : Int) = 41) by decide), if_pos (show (45 : Int) = 42 ∨ (45 : Int) = 43 ∨ (45 : Int) = 45 ∨ (45 : Int) = 47 by decide)]
      cases cl <;> simp [bI]
    · rw [if_neg (show ¬ (47 : Int) = -1 by decide), if_neg (show ¬ (47 : Int) = 38 by decide), if_neg (show ¬ (47 : Int) = 41 by decide), if_neg (show ¬ (47 : Int) = 42 by decide), if_neg (show ¬ (47 : Int) = 43 by decide), if_neg (show ¬ (47 : Int) = 45 by decide), if_pos rfl, if_neg (show ¬ ((47 : Int) = -1 ∨ (47 : Int) = 59) by decide), if_neg (show ¬ ((47 : Int) = 38 ∨ (47 : Int) = 124) by decide), if_neg (show ¬ ((47 : Int) = 41) by decide), if_pos (show (47 : Int) = 42 ∨ (47 : Int) = 43 ∨ (47 : Int) = 45 ∨ (47 : Int) = 47 by decide)]
      cases cl <;> simp [bI]
    · rw [if_neg (show ¬ (59 : Int) = -1 by decide), if_neg (show ¬ (59 : Int) = 38 by decide), if_neg (show ¬ (59 : Int) = 41 by decide), if_neg (show ¬ (59 : Int) = 42 by decide), if_neg (show ¬ (59 : Int) = 43 by decide), if_neg (show ¬ (59 : Int) = 45 by decide), if_neg (show ¬ (59 : Int) = 47 by decide), if_pos rfl, if_pos (show (59 : Int) = -1 ∨ (59 : Int) = 59 by decide)]
      cases as' <;> cases cn <;> (by_cases hb : br = 0) <;> simp [hb, bI]
    · rw [if_neg (show ¬ (60 : Int) = -1 by decide), if_neg (show ¬ (60 : Int) = 38 by decide), if_neg (show ¬ (60 : Int) = 41 by decide), if_neg (show ¬ (60 : Int) = 42 by decide), if_neg (show ¬ (60 : Int) = 43 by decide), if_neg (show ¬ (60 : Int) = 45 by decide), if_neg (show ¬ (60 : Int) = 47 by decide), if_neg (show ¬ (60 : Int) = 59 by decide), if_pos rfl, if_neg (show ¬ ((60 : Int) = -1 ∨ (60 : Int) = 59) by decide), if_neg (show ¬ ((60 : Int) = 38 ∨ (60 : Int) = 124) by decide), if_neg (show ¬ ((60 : Int) = 41) by decide), if_neg (show ¬ ((60 : Int) = 42 ∨ (60 : Int) = 43 ∨ (60 : Int) = 45 ∨ (60 : Int) = 47) by decide), if_pos (show isS (60 : Int) by decide)]
      cases as' <;> cases cp <;> (by_cases hb : br = 0) <;> simp [hb, bI]
    · rw [if_neg (show ¬ (61 : Int) = -1 by decide), if_neg (show ¬ (61 : Int) = 38 by decide), if_neg (show ¬ (61 : Int) = 41 by decide), if_neg (show ¬ (61 : Int) = 42 by decide), if_neg (show ¬ (61 : Int) = 43 by decide), if_neg (show ¬ (61 : Int) = 45 by decide), if_neg (show ¬ (61 : Int) = 47 by decide), if_neg (show ¬ (61 : Int) = 59 by decide), if_neg (show ¬ (61 : Int) = 60 by decide), if_pos rfl, if_neg (show ¬ ((61 : Int) = -1 ∨ (61 : Int) = 59) by decide), if_neg (show ¬ ((61 : Int) = 38 ∨ (61 : Int) = 124) by decide), if_neg (show ¬ ((61 : Int) = 41) by decide), if_neg (show ¬ ((61 : Int) = 42 ∨ (61 : Int) = 43 ∨ (61 : Int) = 45 ∨ (61 : Int) = 47) by decide), if_pos (show isS (61 : Int) by decide)]
      cases as' <;> cases cp <;> (by_cases hb : br = 0) <;> simp [hb, bI]
    · rw [if_neg (show ¬ (62 : Int) = -1 by decide), if_neg (show ¬ (62 : Int) = 38 by decide), if_neg (show ¬ (62 : Int) = 41 by decide), if_neg (show ¬ (62 : Int) = 42 by decide), if_neg (show ¬ (62 : Int) = 43 by decide), if_neg (show ¬ (62 : Int) = 45 by decide), if_neg (show ¬ (62 : Int) = 47 by decide), if_neg (show ¬ (62 : Int) = 59 by decide), if_neg (show ¬ (62 : Int) = 60 by decide), if_neg (show ¬ (62 : Int) = 61 by decide), if_pos rfl, if_neg (show ¬ ((62 : Int) = -1 ∨ (62 : Int) = 59) by decide), if_neg (show ¬ ((62 : Int) = 38 ∨ (62 : Int) = 124) by decide), if_neg (show ¬ ((62 : Int) = 41) by decide), if_neg (show ¬ ((62 : Int) = 42 ∨ (62 : Int) = 43 ∨ (62 : Int) = 45 ∨ (62 : Int) = 47) by decide), if_pos (show isS (62 : Int) by decide)]
      cases as' <;> cases cp <;> (by_cases hb : br = 0) <;> simp [hb, bI]
    · rw [if_neg (show ¬ (63 : Int) = -1 by decide), if_neg (show ¬ (63 : Int) = 38 by decide), if_neg (show ¬ (63 : Int) = 41 by decide), if_neg (show ¬ (63 : Int) = 42 by decide), if_neg (show ¬ (63 : Int) = 43 by decide), if_neg (show ¬ (63 : Int) = 45 by decide), if_neg (show ¬ (63 : Int) = 47 by decide), if_neg (show ¬ (63 : Int) = 59 by decide), if_neg (show ¬ (63 : Int) = 60 by decide), if_neg (show ¬ (63 : Int) = 61 by decide), if_neg (show ¬ (63 : Int) = 62 by decide), if_pos rfl, if_neg (show ¬ ((63 : Int) = -1 ∨ (63 : Int) = 59) by decide), if_neg (show ¬ ((63 : Int) = 38 ∨ (63 : Int) = 124) by decide), if_neg (show ¬ ((63 : Int) = 41) by decide), if_neg (show ¬ ((63 : Int) = 42 ∨ (63 : Int) = 43 ∨ (63 : Int) = 45 ∨ (63 : Int) = 47) by decide), if_neg (show ¬ (isS (63 : Int)) by decide), if_pos (show (63 : Int) = 63 by decide)]
      cases cp <;> (by_cases hb : br = 0) <;> (by_cases hp : par = 0) <;> simp [hb, hp, bI]
    · rw [if_neg (show ¬ (93 : Int) = -1 by decide), if_neg (show ¬ (93 : Int) = 38 by decide), if_neg (show ¬ (93 : Int) = 41 by decide), if_neg (show ¬ (93 : Int) = 42 by decide), if_neg (show ¬ (93 : Int) = 43 by decide), if_neg (show ¬ (93 : Int) = 45 by decide), if_neg (show ¬ (93 : Int) = 47 by decide), if_neg (show ¬ (93 : Int) = 59 by decide), if_neg (show ¬ (93 : Int) = 60 by decide), if_neg (show ¬ (93 : Int) = 61 by decide), if_neg (show ¬ (93 : Int) = 62 by decide), if_neg (show ¬ (93 : Int) = 63 by decide), if_pos rfl, if_neg (show ¬ ((93 : Int) = -1 ∨ (93 : Int) = 59) by decide), if_neg (show ¬ ((93 : Int) = 38 ∨ (93 : Int) = 124) by decide), if_neg (show ¬ ((93 : Int) = 41) by decide), if_neg (show ¬ ((93 : Int) = 42 ∨ (93 : Int) = 43 ∨ (93 : Int) = 45 ∨ (93 : Int) = 47) by decide), if_neg (show ¬ (isS (93 : Int)) by decide), if_neg (show ¬ ((93 : Int) = 63) by decide), if_pos (show (93 : Int) = 93 by decide)]
      (by_cases hb : br ≤ 0) <;> simp [hb, bI] <;> omega
    · rw [if_neg (show ¬ (124 : Int) = -1 by decide), if_neg (show ¬ (124 : Int) = 38 by decide), if_neg (show ¬ (124 : Int) = 41 by decide), if_neg (show ¬ (124 : Int) = 42 by decide), if_neg (show ¬ (124 : Int) = 43 by decide), if_neg (show ¬ (124 : Int) = 45 by decide), if_neg (show ¬ (124 : Int) = 47 by decide), if_neg (show ¬ (124 : Int) = 59 by decide), if_neg (show ¬ (124 : Int) = 60 by decide), if_neg (show ¬ (124 : Int) = 61 by decide), if_neg (show ¬ (124 : Int) = 62 by decide), if_neg (show ¬ (124 : Int) = 63 by decide), if_neg (show ¬ (124 : Int) = 93 by decide), if_pos rfl, if_neg (show ¬ ((124 : Int) = -1 ∨ (124 : Int) = 59) by decide), if_pos (show (124 : Int) = 38 ∨ (124 : Int) = 124 by decide)]
      cases cp <;> (by_cases hb : br = 0) <;> simp [hb, bI]
  · have n : ∀ x : Int, (x = -1 ∨ x = 38 ∨ x = 41 ∨ x = 42 ∨ x = 43 ∨ x = 45 ∨ x = 47 ∨ x = 59 ∨ x = 60 ∨ x = 61 ∨ x = 62 ∨ x = 63 ∨ x = 93 ∨ x = 124) → ¬ s = x := fun x hx e => hk (e ▸ hx)
    rw [if_neg (n (-1) (by decide)), if_neg (n (38) (by decide)), if_neg (n (41) (by decide)), if_neg (n (42) (by decide)), if_neg (n (43) (by decide)), if_neg (n (45) (by decide)), if_neg (n (47) (by decide)), if_neg (n (59) (by decide)), if_neg (n (60) (by decide)), if_neg (n (61) (by decide)), if_neg (n (62) (by decide)), if_neg (n (63) (by decide)), if_neg (n (93) (by decide)), if_neg (n (124) (by decide)), if_neg (by omega), if_neg (by omega), if_neg (by omega), if_neg (by omega), if_neg (show ¬ isS s by unfold isS; omega), if_neg (by omega), if_neg (by omega)]
    rfl
def MXr (p : Nat) (C S : List Int) (d par br : Int) (wa mu cp cl cn as' : Bool) (h : zH) : Prop := (h 1 2 = (p : Int) ∧ h 1 3 = -1) ∧ RXr C S d h ∧ FXr par br wa mu cp cl cn as' h
def MBr (n i p : Nat) (C S : List Int) (d par br : Int) : Prop := p ≤ n ∧ C.length ≤ 240 ∧ SB S ∧ (-(100 * (i : Int)) ≤ d ∧ d ≤ 100 * i) ∧ (-(i : Int) ≤ par ∧ par ≤ i) ∧ (-(i : Int) ≤ br ∧ br ≤ i)
def StX (n : Nat) (b : Nat → Nat) (i k : Nat) (wa : Bool) (R : Int × List Int × Nat) (h0 h : zH) : Prop := ∃ (p : Nat) (C S : List Int) (d par br : Int) (mu cp cl cn as' : Bool), MXr p C S d par br wa mu cp cl cn as' h ∧ MBr n i p C S d par br ∧ FR [1, 4, 22, 23] h0 h ∧ FS 1 [2, 3] h0 h ∧ R = mRun n b k wa p C S d par br mu cp cl cn as'
def EnX (n : Nat) (R : Int × List Int × Nat) (h0 h : zH) : Prop := FR [1, 4, 22, 23] h0 h ∧ FS 1 [2, 3] h0 h ∧ h 1 3 = R.1 ∧ (∃ q : Nat, h 1 2 = (q : Int) ∧ q ≤ n) ∧ (R.1 = -1 → h 1 2 = (R.2.2 : Int) ∧ h 4 1 = (R.2.1.length : Int) ∧ sgm (h 22) 0 R.2.1)
theorem c127X {N : Nat} {h : zH} {f : Int} (hf : h 1 3 = f) (hb : -1 ≤ f ∧ f ≤ 1000) : fX4_readOperand_c127 N h = some (if f = -1 then 1 else 0, h) := by
  unfold fX4_readOperand_c127
  rw [hf, zw_m1, zw_id (show -2147483648 ≤ f ∧ f < 2147483648 by omega)]
  by_cases c : f = -1
  · rw [if_pos c, if_pos c]
  · rw [if_neg c, if_neg c]
theorem RXr_to {C S : List Int} {d : Int} {h h' : zH} (H : RXr C S d h) (F : FR [1, 4] h h') (e1 : h' 4 1 = h 4 1) (e3 : h' 4 3 = h 4 3) (e4 : h' 4 4 = h 4 4) : RXr C S d h' := by
  unfold RXr
  rw [e1, e3, e4, F 22 (by decide), F 23 (by decide)]
  exact H
/-- blaming ends it -/
theorem endX {n : Nat} {q : Nat} {h0 h : zH} (F : FR [1, 4, 22, 23] h0 h) (G : FS 1 [2, 3] h0 h) (e2 : h 1 2 = (q : Int)) (e3 : h 1 3 = -1) (hq : q ≤ n) : fX9_blame (h 1 2) h = zs h 1 3 (q : Int) ∧ EnX n ((q : Int), [], q) h0 (zs h 1 3 (q : Int)) := by
  refine ⟨?_, ?_, ?_, zs_at, ⟨q, ?_, hq⟩, fun hh => absurd (show (q : Int) = -1 from hh) (by omega)⟩
  · rw [blameX e3 (by decide), if_pos rfl, e2]
  · exact FR_tr F (fun b hb => zs_row_ne (fun e => hb (by rw [e]; decide)))
  · exact FS_tr G (fun q hq => zs_ne (fun e => hq (by rw [e]; decide)))
  · rw [zs_ne (by decide)]; exact e2
/-- a bracket, a parenthesis or a not is opened -/
theorem openX {C S : List Int} {d par br : Int} {wa mu cp cl cn as' : Bool} {h : zH} {s : Int} (hs : s = 91 ∨ s = 40 ∨ s = 33) (hS : S.length ≤ 48) (R : RXr C S d h) (G : FXr par br wa mu cp cl cn as' h) : ∃ h', fX4_open s h = h' ∧ FR [4, 23] h h' ∧ RXr C (mPu S s) (d + 1) h' ∧ FXr (par + if s = 40 then 1 else 0) (br + if s = 91 then 1 else 0) wa (if s = 91 then false else mu) cp cl (if s = 91 then cn else true) as' h' := by
  obtain ⟨⟨c1, c2⟩, ⟨c3, c4⟩, c5⟩ := R
  obtain ⟨⟨a1, a2⟩, ⟨a3, a4, a5⟩, a6, a7, a8⟩ := G
  obtain ⟨h1, e1, e2, e3, e4, e5⟩ := pushX (v := s) hS c3 c4
  unfold fX4_open
  rw [e1, zlet_v, zlet_v]
  obtain ⟨h2, eh2⟩ : ∃ h2, h2 = zs h1 4 4 ((h1 4 4) + 1) := ⟨_, rfl⟩
  rw [← eh2]
  have F2 : FR [4, 23] h h2 := by rw [eh2]; exact FR_tr e2 (fun b hb => zs_row_ne (fun e => hb (by rw [e]; decide)))
  have d2 : h2 4 4 = d + 1 := by rw [eh2, zs_at, e3 4 (by decide), c5]
  have w3 : h2 4 3 = ((mPu S s).length : Int) := by rw [eh2, zs_ne (by decide)]; exact e4
  have r23 : sgm (h2 23) 0 (mPu S s).reverse := by rw [eh2, zs_row_ne (by decide)]; exact e5
  have r22 : sgm (h2 22) 0 C := by rw [F2 22 (by decide)]; exact c2
  have o : ∀ j, j ≠ 3 → j ≠ 4 → h2 4 j = h 4 j := fun j x y => by rw [eh2, zs_ne y, e3 j (fun e => x (List.mem_singleton.mp e))]
  have sw : zw s = s := by rcases hs with rfl | rfl | rfl <;> decide
  rw [sw, show zw 91 = 91 by decide, show zw 40 = 40 by decide]
  rcases hs with rfl | rfl | rfl
  · simp only [zlet_v, eq_self, if_true, if_false, eq_false (show ¬ (91 : Int) = 40 by decide)]
    refine ⟨_, rfl, FR_tr F2 (fun b hb => by rw [zs_row_ne (fun e => hb (by rw [e]; decide)), zs_row_ne (fun e => hb (by rw [e]; decide))]), ⟨⟨?_, ?_⟩, ⟨?_, ?_⟩, ?_⟩, ⟨?_, ?_⟩, ⟨?_, ?_, ?_⟩, ?_, ?_, ?_⟩
    · rw [zs_ne (by decide), zs_ne (by decide), o 1 (by decide) (by decide)]; exact c1
    · rw [zs_row_ne (by decide), zs_row_ne (by decide)]; exact r22
    · rw [zs_ne (by decide), zs_ne (by decide)]; exact w3
    · rw [zs_row_ne (by decide), zs_row_ne (by decide)]; exact r23
    · rw [zs_ne (by decide), zs_ne (by decide)]; exact d2
    · rw [zs_ne (by decide), zs_ne (by decide), o 5 (by decide) (by decide), a1]; omega
    · rw [zs_ne (by decide), zs_at, o 6 (by decide) (by decide), a2]
    · rw [zs_ne (by decide), zs_ne (by decide), o 7 (by decide) (by decide)]; exact a3
    · rw [zs_at]; rfl
    · rw [zs_ne (by decide), zs_ne (by decide), o 9 (by decide) (by decide)]; exact a5
    · rw [zs_ne (by decide), zs_ne (by decide), o 10 (by decide) (by decide)]; exact a6
    · rw [zs_ne (by decide), zs_ne (by decide), o 11 (by decide) (by decide)]; exact a7
    · rw [zs_ne (by decide), zs_ne (by decide), o 12 (by decide) (by decide)]; exact a8
  · simp only [zlet_v, eq_self, if_true, if_false, eq_false (show ¬ (40 : Int) = 91 by decide)]
    refine ⟨_, rfl, FR_tr F2 (fun b hb => by rw [zs_row_ne (fun e => hb (by rw [e]; decide)), zs_row_ne (fun e => hb (by rw [e]; decide))]), ⟨⟨?_, ?_⟩, ⟨?_, ?_⟩, ?_⟩, ⟨?_, ?_⟩, ⟨?_, ?_, ?_⟩, ?_, ?_, ?_⟩
    · rw [zs_ne (by decide), zs_ne (by decide), o 1 (by decide) (by decide)]; exact c1
    · rw [zs_row_ne (by decide), zs_row_ne (by decide)]; exact r22
    · rw [zs_ne (by decide), zs_ne (by decide)]; exact w3
    · rw [zs_row_ne (by decide), zs_row_ne (by decide)]; exact r23
    · rw [zs_ne (by decide), zs_ne (by decide)]; exact d2
    · rw [zs_at, zs_ne (by decide), o 5 (by decide) (by decide), a1]
    · rw [zs_ne (by decide), zs_ne (by decide), o 6 (by decide) (by decide), a2]; omega
    · rw [zs_ne (by decide), zs_ne (by decide), o 7 (by decide) (by decide)]; exact a3
    · rw [zs_ne (by decide), zs_ne (by decide), o 8 (by decide) (by decide)]; exact a4
    · rw [zs_ne (by decide), zs_ne (by decide), o 9 (by decide) (by decide)]; exact a5
    · rw [zs_ne (by decide), zs_ne (by decide), o 10 (by decide) (by decide)]; exact a6
    · rw [zs_ne (by decide), zs_at]; rfl
    · rw [zs_ne (by decide), zs_ne (by decide), o 12 (by decide) (by decide)]; exact a8
  · simp only [zlet_v, eq_self, if_true, if_false, eq_false (show ¬ (33 : Int) = 91 by decide), eq_false (show ¬ (33 : Int) = 40 by decide)]
    refine ⟨_, rfl, FR_tr F2 (fun b hb => by rw [zs_row_ne (fun e => hb (by rw [e]; decide))]), ⟨⟨?_, ?_⟩, ⟨?_, ?_⟩, ?_⟩, ⟨?_, ?_⟩, ⟨?_, ?_, ?_⟩, ?_, ?_, ?_⟩
    · rw [zs_ne (by decide), o 1 (by decide) (by decide)]; exact c1
    · rw [zs_row_ne (by decide)]; exact r22
    · rw [zs_ne (by decide)]; exact w3
    · rw [zs_row_ne (by decide)]; exact r23
    · rw [zs_ne (by decide)]; exact d2
    · rw [zs_ne (by decide), o 5 (by decide) (by decide), a1]; omega
    · rw [zs_ne (by decide), o 6 (by decide) (by decide), a2]; omega
    · rw [zs_ne (by decide), o 7 (by decide) (by decide)]; exact a3
    · rw [zs_ne (by decide), o 8 (by decide) (by decide)]; exact a4
    · rw [zs_ne (by decide), o 9 (by decide) (by decide)]; exact a5
    · rw [zs_ne (by decide), o 10 (by decide) (by decide)]; exact a6
    · rw [zs_at]; rfl
    · rw [zs_ne (by decide), o 12 (by decide) (by decide)]; exact a8
