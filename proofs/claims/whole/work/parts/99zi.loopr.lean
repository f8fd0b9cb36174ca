/-! the class's machine: a whole joint, the loop of a clause -/
theorem jrkX (s : Int) : fJ9_max_7cf53 (fX4_rank s) 1 = jrk s := by
  have rb := rk_b s
  unfold fJ9_max_7cf53 jrk
  have e : zw (fX4_rank s) = rk s := zw_id (show -2147483648 ≤ rk s ∧ rk s < 2147483648 by omega)
  rw [e, show zw 1 = 1 by decide]
  rfl
theorem jntX {n : Nat} {b : Nat → Nat} (T : TV n b) {N : Nat} (hN : 300 ≤ N) {i k : Nat} (hi : i < 300) {R : Int × List Int × Nat} {h0 h : zH} (H0 : TX n b h0) (H : StX n b i (k + 1) false R h0 h) : ∃ g h1, fX4_readJoint N h = some (g, h1) ∧ ((g = 0 ∧ EnX n R h0 h1) ∨ (g = 1 ∧ ∃ wa, StX n b (i + 1) k wa R h0 h1)) := by
  obtain ⟨p, C, S, d, par, br, mu, cp, cl, cn, as', ⟨⟨m1', m2'⟩, mR, mF⟩, ⟨b1, b2, b3, b4, b5, b6⟩, F, G, eR⟩ := H
  have n240 := T.1
  have TH := TX_to H0 (G 1 (by decide)) (F 15 (by decide))
  obtain ⟨h1, e1, e2, e3, e4⟩ := nextX T hN TH b1 m1' m2' (by decide)
  rw [if_pos rfl] at e1
  have sk := skp_b (b := b) b1
  obtain ⟨s, es⟩ : ∃ s, s = sg n b (skp n b p) := ⟨_, rfl⟩
  have sw : zw s = s := by rw [es]; exact sg_w T
  have sb := sg_b (p := skp n b p) T
  rw [← es] at sb
  have F1 : FR [1, 4, 22, 23] h0 h1 := FR_tr F (FR_up e2 (by decide))
  have G1 : FS 1 [2, 3] h0 h1 := FS_tr G (FS_up e3 (by decide))
  have f1 : h1 1 3 = -1 := by rw [e3 3 (by decide)]; exact m2'
  have mR1 : RXr C S d h1 := RXr_to mR (FR_up e2 (by decide)) (by rw [e2 4 (by decide)]) (by rw [e2 4 (by decide)]) (by rw [e2 4 (by decide)])
  have mF1 : FXr par br false mu cp cl cn as' h1 := by unfold FXr at mF ⊢; rw [e2 4 (by decide)]; exact mF
  obtain ⟨end1, end2⟩ := endX (n := n) F1 G1 e4 f1 sk.2.1
  unfold fX4_readJoint
  rw [e1, z2_some, f1, if_pos rfl, ← es, fitX sw (by omega) mF1, zwB]
  have unf := eR
  unfold mRun at unf
  rw [← es] at unf
  by_cases cf : fitB s par br cp cl cn as' = true
  · rw [cf, if_neg (show ¬ bI true = 0 by decide), jrkX]
    rw [cf, if_pos rfl] at unf
    have jb := jrk_b s
    obtain ⟨h2, r1, r2, r3, r4⟩ := reduceX (r := jrk s) hN (by omega) b3 b2 mR1
    rw [r1, zb_some]
    obtain ⟨q1, q2, q3, q4⟩ := mRed_b (r := jrk s) S C d b3 b2
    obtain ⟨M, eM⟩ : ∃ M, M = mRed (jrk s) S C d := ⟨_, rfl⟩
    rw [← eM] at unf r4 q1 q2 q3 q4
    have x1 : h2 1 = h1 1 := r2 1 (by decide)
    have F2 : FR [1, 4, 22, 23] h0 h2 := FR_tr F1 (FR_up r2 (by decide))
    have G2 : FS 1 [2, 3] h0 h2 := FS_tr G1 (fun q _ => by rw [x1])
    have f2 : h2 1 3 = -1 := by rw [x1]; exact f1
    have p2 : h2 1 2 = (skp n b p : Int) := by rw [x1]; exact e4
    have mF2 : FXr par br false mu cp cl cn as' h2 := by
      obtain ⟨⟨a1, a2⟩, ⟨a3, a4, a5⟩, a6, a7, a8⟩ := mF1
      refine ⟨⟨?_, ?_⟩, ⟨?_, ?_, ?_⟩, ?_, ?_, ?_⟩
      · rw [r3 5 (by decide)]; exact a1
      · rw [r3 6 (by decide)]; exact a2
      · rw [r3 7 (by decide)]; exact a3
      · rw [r3 8 (by decide)]; exact a4
      · rw [r3 9 (by decide)]; exact a5
      · rw [r3 10 (by decide)]; exact a6
      · rw [r3 11 (by decide)]; exact a7
      · rw [r3 12 (by decide)]; exact a8
    rw [sw, show zw 59 = 59 by decide, show zw (-1) = -1 by decide, show zw 41 = 41 by decide, show zw 93 = 93 by decide]
    obtain ⟨h8, t1, t2, t3, t4, t5⟩ := emitX (v := -59) q2 r4.1.1 r4.1.2
    have fin : EnX n (-1, mEm M.1 (-59), skp n b p) h0 h8 := by
      have y1 : h8 1 = h2 1 := t2 1 (by decide)
      refine ⟨FR_tr F2 (FR_up t2 (by decide)), FS_tr G2 (fun q _ => by rw [y1]), ?_, ⟨skp n b p, ?_, sk.2.1⟩, fun _ => ⟨?_, t4, t5⟩⟩
      · rw [y1]; exact f2
      · rw [y1]; exact p2
      · rw [y1]; exact p2
    by_cases c59 : s = 59
    · rw [if_pos c59, t1, zlet_v]
      rw [if_pos (Or.inl c59)] at unf
      exact ⟨0, h8, rfl, Or.inl ⟨rfl, by rw [unf]; exact fin⟩⟩
    · rw [if_neg c59]
      by_cases cm1 : s = -1
      · rw [if_pos cm1, t1, zlet_v]
        rw [if_pos (Or.inr cm1)] at unf
        exact ⟨0, h8, rfl, Or.inl ⟨rfl, by rw [unf]; exact fin⟩⟩
      · rw [if_neg cm1, zlet_v, p2]
        rw [if_neg (by omega)] at unf
        have hlt : skp n b p < n := sg_lt (b := b) (by omega)
        obtain ⟨h3, eh3⟩ : ∃ h3, h3 = zs h2 1 2 ((skp n b p : Int) + 1) := ⟨_, rfl⟩
        rw [← eh3]
        have F3 : FR [1] h2 h3 := by rw [eh3]; exact fun b hb => zs_row_ne (fun e => hb (by rw [e]; decide))
        have mR3 : RXr M.1 M.2.1 M.2.2 h3 := RXr_to r4 (FR_up F3 (by decide)) (by rw [F3 4 (by decide)]) (by rw [F3 4 (by decide)]) (by rw [F3 4 (by decide)])
        have mF3 : FXr par br false mu cp cl cn as' h3 := by unfold FXr at mF2 ⊢; rw [F3 4 (by decide)]; exact mF2
        have f3 : h3 1 3 = -1 := by rw [eh3, zs_ne (by decide)]; exact f2
        have p3 : h3 1 2 = ((skp n b p + 1 : Nat) : Int) := by rw [eh3, zs_at]; rfl
        have hS48 := b3.1
        -- it goes on from h4
        have go : ∀ (h4 : zH) (wa : Bool) (C' S' : List Int) (d' par' br' : Int) (mu' cp' cl' cn' as2 : Bool), FR [4, 22, 23] h3 h4 → RXr C' S' d' h4 → FXr par' br' wa mu' cp' cl' cn' as2 h4 → C'.length ≤ 240 → SB S' → (-(100 * ((i + 1 : Nat) : Int)) ≤ d' ∧ d' ≤ 100 * ((i + 1 : Nat) : Int)) → (-((i + 1 : Nat) : Int) ≤ par' ∧ par' ≤ ((i + 1 : Nat) : Int)) → (-((i + 1 : Nat) : Int) ≤ br' ∧ br' ≤ ((i + 1 : Nat) : Int)) → R = mRun n b k wa (skp n b p + 1) C' S' d' par' br' mu' cp' cl' cn' as2 → ∃ g h1', (some (1, h4) : Option (Int × zH)) = some (g, h1') ∧ ((g = 0 ∧ EnX n R h0 h1') ∨ (g = 1 ∧ ∃ wa, StX n b (i + 1) k wa R h0 h1')) := fun h4 wa C' S' d' par' br' mu' cp' cl' cn' as2 F4 R4 X4 l1 l2 l3 l4 l5 eR' => by
          have y1 : h4 1 = h3 1 := F4 1 (by decide)
          exact ⟨1, h4, rfl, Or.inr ⟨rfl, wa, skp n b p + 1, C', S', d', par', br', mu', cp', cl', cn', as2, ⟨⟨by rw [y1]; exact p3, by rw [y1]; exact f3⟩, R4, X4⟩, ⟨by omega, l1, l2, l3, l4, l5⟩, FR_tr F2 (FR_tr (FR_up F3 (by decide)) (FR_up F4 (by decide))), FS_tr G2 (fun q hq => by rw [y1, eh3, zs_ne (fun e => hq (by rw [e]; decide))]), eR'⟩⟩
        have dd : -(100 * ((i + 1 : Nat) : Int)) ≤ M.2.2 - 1 ∧ M.2.2 ≤ 100 * ((i + 1 : Nat) : Int) := by omega
        by_cases c41 : s = 41
        · rw [if_pos c41]
          rw [if_pos c41] at unf
          obtain ⟨h4, u1, u2, u3, u4⟩ := shutX (s := s) (Or.inl c41) q1.1 mR3 mF3
          rw [u1, zlet_v]
          rw [if_neg (show ¬ s = 93 by omega), if_neg (show ¬ s = 93 by omega), if_neg (show ¬ s = 93 by omega)] at u4
          exact go h4 _ _ _ _ _ _ _ _ _ _ _ (FR_up u2 (by decide)) u3 u4 q2 (SB_tl q1) (by omega) (by omega) (by omega) unf
        · rw [if_neg c41]
          rw [if_neg c41] at unf
          by_cases c93 : s = 93
          · rw [if_pos c93]
            rw [if_pos c93] at unf
            obtain ⟨h4, u1, u2, u3, u4⟩ := shutX (s := s) (Or.inr c93) q1.1 mR3 mF3
            rw [u1, zlet_v]
            rw [if_pos c93, if_pos c93, if_pos c93] at u4
            exact go h4 _ _ _ _ _ _ _ _ _ _ _ (FR_up u2 (by decide)) u3 u4 q2 (SB_tl q1) (by omega) (by omega) (by omega) unf
          · rw [if_neg c93]
            rw [if_neg c93] at unf
            obtain ⟨h4, u1, u2, u3, u4⟩ := jnX sw q2 q1.1 mR3 mF3
            rw [u1, zb_some]
            by_cases c63 : s = 63
            · rw [if_pos c63] at unf
              rw [if_pos c63, if_pos c63] at u3
              have n1 : ¬ isS s := by unfold isS; omega
              have d1 : decide (s = 38 ∨ s = 124) = false := decide_eq_false (by omega)
              rw [d1, if_pos c63, if_pos (Or.inl c63), if_neg n1, if_pos c63] at u4
              exact go h4 _ _ _ _ _ _ _ _ _ _ _ u2 u3 u4 (mEm_len q2) q1 (by omega) (by omega) (by omega) unf
            · rw [if_neg c63] at unf
              rw [if_neg c63, if_neg c63] at u3
              by_cases c5 : isS s
              · rw [if_pos c5] at unf
                have c5' := c5
                unfold isS at c5'
                have d1 : decide (s = 38 ∨ s = 124) = false := decide_eq_false (by omega)
                rw [d1, if_neg c63, if_pos c5, if_neg (by omega), if_pos c5, if_neg c63] at u4
                exact go h4 _ _ _ _ _ _ _ _ _ _ _ u2 u3 u4 q2 (SB_pu q1 (by omega)) (by omega) (by omega) (by omega) unf
              · rw [if_neg c5] at unf
                by_cases c2 : s = 38 ∨ s = 124
                · rw [if_pos c2] at unf
                  have d1 : decide (s = 38 ∨ s = 124) = true := decide_eq_true c2
                  rw [d1, if_neg c63, if_neg c5, if_pos c2, if_pos (by omega), if_neg c5, if_neg c63] at u4
                  exact go h4 _ _ _ _ _ _ _ _ _ _ _ u2 u3 u4 q2 (SB_pu q1 (by omega)) (by omega) (by omega) (by omega) unf
                · rw [if_neg c2] at unf
                  have d1 : decide (s = 38 ∨ s = 124) = false := decide_eq_false c2
                  rw [d1, if_neg c63, if_neg c5, if_neg c2, if_neg (by omega), if_neg c5, if_neg c63] at u4
                  exact go h4 _ _ _ _ _ _ _ _ _ _ _ u2 u3 u4 q2 (SB_pu q1 (by omega)) (by omega) (by omega) (by omega) unf
  · have cf' : fitB s par br cp cl cn as' = false := Bool.eq_false_iff.mpr cf
    rw [cf', if_pos (show bI false = 0 from rfl), end1, zlet_v]
    rw [cf', if_neg (show ¬ false = true by decide)] at unf
    exact ⟨0, _, rfl, Or.inl ⟨rfl, by rw [unf]; exact end2⟩⟩
/-- the loop of a clause -/
theorem loopR {n : Nat} {b : Nat → Nat} (T : TV n b) {N : Nat} (hN : 300 ≤ N) {R : Int × List Int × Nat} {h0 : zH} (H0 : TX n b h0) (k : Nat) : ∀ (i F : Nat) (wa : Bool) (h : zH), i + k = 240 → k < F → StX n b i k wa R h0 h → ∃ h', fX4_readClause_c92 N F 1 (i : Int) h = some h' ∧ EnX n R h0 h' := by
  induction k with
  | zero =>
    intro i F wa h hi hF H
    obtain ⟨F, rfl⟩ : ∃ F', F = F' + 1 := ⟨F - 1, by omega⟩
    obtain ⟨p, C, S, d, par, br, mu, cp, cl, cn, as', ⟨⟨m1', m2'⟩, mR, mF⟩, ⟨b1, b2, b3, b4, b5, b6⟩, FF, G, eR⟩ := H
    have eR : R = (-1, C, p) := eR
    refine ⟨h, ?_, FF, G, by rw [eR]; exact m2', ⟨p, m1', b1⟩, fun _ => by rw [eR]; exact ⟨m1', mR.1.1, mR.1.2⟩⟩
    show fX4_readClause_c92b N (fX4_readClause_c92 N F) 1 (i : Int) h = _
    unfold fX4_readClause_c92b
    rw [if_pos (by rw [show zw 240 = 240 by decide, zw_id (show -2147483648 ≤ (i : Int) ∧ (i : Int) < 2147483648 by omega)]; omega)]
  | succ k ih =>
    intro i F wa h hi hF H
    obtain ⟨F, rfl⟩ : ∃ F', F = F' + 1 := ⟨F - 1, by omega⟩
    show ∃ h', fX4_readClause_c92b N (fX4_readClause_c92 N F) 1 (i : Int) h = _ ∧ _
    unfold fX4_readClause_c92b
    rw [show zw 240 = 240 by decide, zw_id (show -2147483648 ≤ (i : Int) ∧ (i : Int) < 2147483648 by omega), if_neg (by omega), if_neg (show ¬ zw 1 = 0 by decide)]
    have hw : h 4 7 = bI wa := by
      obtain ⟨p, C, S, d, par, br, mu, cp, cl, cn, as', ⟨_, _, mF⟩, _⟩ := H
      exact mF.2.1.1
    -- what an end does
    have stop : ∀ h1, EnX n R h0 h1 → ∃ h', fX4_readClause_c92 N F 0 ((i : Int) + 1) h1 = some h' ∧ EnX n R h0 h' := fun h1 E => by
      obtain ⟨F, rfl⟩ : ∃ F', F = F' + 1 := ⟨F - 1, by omega⟩
      refine ⟨h1, ?_, E⟩
      show fX4_readClause_c92b N (fX4_readClause_c92 N F) 0 _ h1 = _
      unfold fX4_readClause_c92b
      rw [if_pos zw_0]
      split <;> rfl
    rw [hw, zwB]
    cases wa with
    | false =>
      rw [if_pos (show bI false = 0 from rfl)]
      obtain ⟨g, h1, r1, r2⟩ := jntX T hN (by omega) H0 H
      rw [r1, z2_some]
      rcases r2 with ⟨rfl, E⟩ | ⟨rfl, wa', H'⟩
      · exact stop h1 E
      · exact ih (i + 1) F wa' h1 (by omega) (by omega) H'
    | true =>
      rw [if_neg (show ¬ bI true = 0 by decide)]
      obtain ⟨g, h1, r1, r2⟩ := opdX T hN (by omega) H0 H
      rw [r1, z2_some]
      rcases r2 with ⟨rfl, E⟩ | ⟨rfl, wa', H'⟩
      · exact stop h1 E
      · exact ih (i + 1) F wa' h1 (by omega) (by omega) H'
