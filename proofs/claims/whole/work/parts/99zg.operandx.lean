/-! the class's machine: an operand, a joint -/
theorem opdX {n : Nat} {b : Nat → Nat} (T : TV n b) {N : Nat} (hN : 300 ≤ N) {i k : Nat} (hi : i < 300) {R : Int × List Int × Nat} {h0 h : zH} (H0 : TX n b h0) (H : StX n b i (k + 1) true R h0 h) : ∃ g h1, fX4_readOperand N h = some (g, h1) ∧ ((g = 0 ∧ EnX n R h0 h1) ∨ (g = 1 ∧ ∃ wa, StX n b (i + 1) k wa R h0 h1)) := by
  obtain ⟨p, C, S, d, par, br, mu, cp, cl, cn, as', ⟨⟨m1', m2'⟩, mR, mF⟩, ⟨b1, b2, b3, b4, b5, b6⟩, F, G, eR⟩ := H
  have n240 := T.1
  have TH := TX_to H0 (G 1 (by decide)) (F 15 (by decide))
  obtain ⟨h1, e1, e2, e3, e4⟩ := nextX T hN TH b1 m1' m2' (by decide)
  rw [if_pos rfl] at e1
  have sk := skp_b (b := b) b1
  have sw := sg_w (p := skp n b p) T
  have F1 : FR [1, 4, 22, 23] h0 h1 := FR_tr F (FR_up e2 (by decide))
  have G1 : FS 1 [2, 3] h0 h1 := FS_tr G (FS_up e3 (by decide))
  have f1 : h1 1 3 = -1 := by rw [e3 3 (by decide)]; exact m2'
  have mR1 : RXr C S d h1 := RXr_to mR (FR_up e2 (by decide)) (by rw [e2 4 (by decide)]) (by rw [e2 4 (by decide)]) (by rw [e2 4 (by decide)])
  have mF1 : FXr par br true mu cp cl cn as' h1 := by unfold FXr at mF ⊢; rw [e2 4 (by decide)]; exact mF
  obtain ⟨end1, end2⟩ := endX (n := n) F1 G1 e4 f1 sk.2.1
  -- blame: the end
  have bad : ∀ R' : Int × List Int × Nat, R' = ((skp n b p : Int), [], skp n b p) → ∃ g h1', fX4_readOperand_c127 N (zs h1 1 3 (skp n b p : Int)) = some (g, h1') ∧ ((g = 0 ∧ EnX n R' h0 h1') ∨ (g = 1 ∧ ∃ wa, StX n b (i + 1) k wa R' h0 h1')) := fun R' eR' => by
    rw [c127X (f := (skp n b p : Int)) zs_at (by omega), if_neg (by omega), eR']
    exact ⟨0, _, rfl, Or.inl ⟨rfl, end2⟩⟩
  unfold fX4_readOperand
  rw [e1, z2_some, ltrX (by omega) sw, zb_some, isDX sw]
  by_cases c0 : dgp n b (skp n b p)
  · rw [if_pos c0, if_neg (show ¬ zw 1 = 0 by decide)]
    obtain ⟨h2, r1, r2, r3, r4, r5⟩ := num4X T hN (TX_to H0 (G1 1 (by decide)) (F1 15 (by decide))) sk.2.1 e4 f1 (by rw [skp_i b1]; exact c0)
    rw [skp_i b1] at r1 r4 r5
    obtain ⟨d1, d2, d3, d4⟩ := dg4_b c0
    rw [r1, z2_some]
    have mR2 : RXr C S d h2 := RXr_to mR1 (FR_up r2 (by decide)) (by rw [r2 4 (by decide)]) (by rw [r2 4 (by decide)]) (by rw [r2 4 (by decide)])
    obtain ⟨h3, s1, s2, s3, s4, s5⟩ := emitX (v := (dg4 n b (skp n b p)).2) b2 mR2.1.1 mR2.1.2
    rw [s1, zlet_v, zlet_v]
    obtain ⟨h4, eh4⟩ : ∃ h4, h4 = zs h3 4 7 0 := ⟨_, rfl⟩
    rw [← eh4]
    have F4 : FR [1, 4, 22] h1 h4 := by
      rw [eh4]
      exact FR_tr (FR_up r2 (by decide)) (FR_tr (FR_up s2 (by decide)) (fun b hb => zs_row_ne (fun e => hb (by rw [e]; decide))))
    have x1 : h4 1 = h2 1 := by rw [eh4, zs_row_ne (by decide), s2 1 (by decide)]
    have f4 : h4 1 3 = if dgp n b (dg4 n b (skp n b p)).1 then ((dg4 n b (skp n b p)).1 : Int) else -1 := by rw [x1]; exact r5
    have p4 : h4 1 2 = ((dg4 n b (skp n b p)).1 : Int) := by rw [x1]; exact r4
    have o4 : ∀ j, j ≠ 1 → j ≠ 7 → h4 4 j = h1 4 j := fun j x y => by rw [eh4, zs_ne y, s3 j (fun e => x (List.mem_singleton.mp e)), r2 4 (by decide)]
    rw [c127X f4 (by split <;> omega)]
    have FF : FR [1, 4, 22, 23] h0 h4 := FR_tr F1 (FR_up F4 (by decide))
    have GG : FS 1 [2, 3] h0 h4 := FS_tr G1 (fun q hq => by rw [x1]; exact r3 q hq)
    by_cases c : dgp n b (dg4 n b (skp n b p)).1
    · rw [if_pos c, if_neg (by omega)]
      rw [if_pos c] at f4
      refine ⟨0, h4, rfl, Or.inl ⟨rfl, ?_⟩⟩
      have eR' : R = (((dg4 n b (skp n b p)).1 : Int), [], (dg4 n b (skp n b p)).1) := by
        rw [eR]
        unfold mRun
        rw [if_pos c0, if_pos c]
      rw [eR']
      exact ⟨FF, GG, f4, ⟨_, p4, d2⟩, fun hh => absurd (show ((dg4 n b (skp n b p)).1 : Int) = -1 from hh) (by omega)⟩
    · rw [if_neg c, if_pos rfl]
      rw [if_neg c] at f4
      refine ⟨1, h4, rfl, Or.inr ⟨rfl, false, (dg4 n b (skp n b p)).1, mEm C (dg4 n b (skp n b p)).2, S, d, par, br, mu, cp, cl, cn, as', ⟨⟨p4, f4⟩, ⟨⟨?_, ?_⟩, ⟨?_, ?_⟩, ?_⟩, ⟨?_, ?_⟩, ⟨?_, ?_, ?_⟩, ?_, ?_, ?_⟩, ⟨d2, mEm_len b2, b3, by omega, by omega, by omega⟩, FF, GG, ?_⟩⟩
      · rw [eh4, zs_ne (by decide)]; exact s4
      · rw [eh4, zs_row_ne (by decide)]; exact s5
      · rw [o4 3 (by decide) (by decide)]; exact mR1.2.1.1
      · rw [F4 23 (by decide)]; exact mR1.2.1.2
      · rw [o4 4 (by decide) (by decide)]; exact mR1.2.2
      · rw [o4 5 (by decide) (by decide)]; exact mF1.1.1
      · rw [o4 6 (by decide) (by decide)]; exact mF1.1.2
      · rw [eh4, zs_at]; rfl
      · rw [o4 8 (by decide) (by decide)]; exact mF1.2.1.2.1
      · rw [o4 9 (by decide) (by decide)]; exact mF1.2.1.2.2
      · rw [o4 10 (by decide) (by decide)]; exact mF1.2.2.1
      · rw [o4 11 (by decide) (by decide)]; exact mF1.2.2.2.1
      · rw [o4 12 (by decide) (by decide)]; exact mF1.2.2.2.2
      · rw [eR]
        conv => lhs; unfold mRun
        rw [if_pos c0, if_neg c]
  · rw [if_neg c0, if_pos zw_0]
    have lb := ltr_b (sg n b (skp n b p))
    rw [zw_id (show -2147483648 ≤ ltr (sg n b (skp n b p)) ∧ ltr (sg n b (skp n b p)) < 2147483648 by omega)]
    by_cases c1 : ltr (sg n b (skp n b p)) = -1
    · rw [if_pos (by omega), mR1.2.2, show zw 6 = 6 by decide, zw_id (show -2147483648 ≤ d ∧ d < 2147483648 by omega), sw, show zw 91 = 91 by decide, show zw 40 = 40 by decide, show zw 33 = 33 by decide, mF1.2.1.2.1, zwB, end1, e4]
      have unf : R = if d < 6 then (if sg n b (skp n b p) = 91 then mRun n b k true (skp n b p + 1) C (mPu S 91) (d + 1) par (br + 1) false cp cl cn as' else if mu = true ∧ sg n b (skp n b p) = 40 then mRun n b k true (skp n b p + 1) C (mPu S 40) (d + 1) (par + 1) br mu cp cl true as' else if mu = true ∧ sg n b (skp n b p) = 33 then mRun n b k true (skp n b p + 1) C (mPu S 33) (d + 1) par br mu cp cl true as' else ((skp n b p : Int), [], skp n b p)) else ((skp n b p : Int), [], skp n b p) := by
        rw [eR]
        conv => lhs; unfold mRun
        rw [if_neg c0, if_pos c1]
      -- one is opened
      have opn : ∀ (s : Int) (R' : Int × List Int × Nat), (s = 91 ∨ s = 40 ∨ s = 33) → sg n b (skp n b p) = s → R' = mRun n b k true (skp n b p + 1) C (mPu S s) (d + 1) (par + if s = 40 then 1 else 0) (br + if s = 91 then 1 else 0) (if s = 91 then false else mu) cp cl (if s = 91 then cn else true) as' → ∃ g h1', (zlet (zs h1 1 2 ((skp n b p : Int) + 1)) fun h9 => zlet (fX4_open s h9) fun h10 => fX4_readOperand_c127 N h10) = some (g, h1') ∧ ((g = 0 ∧ EnX n R' h0 h1') ∨ (g = 1 ∧ ∃ wa, StX n b (i + 1) k wa R' h0 h1')) := fun s R' hs es eR' => by
        have hlt : skp n b p < n := sg_lt (b := b) (by rcases hs with h | h | h <;> omega)
        rw [zlet_v]
        obtain ⟨h2, eh2⟩ : ∃ h2, h2 = zs h1 1 2 ((skp n b p : Int) + 1) := ⟨_, rfl⟩
        rw [← eh2]
        have F2 : FR [1] h1 h2 := by rw [eh2]; exact fun b hb => zs_row_ne (fun e => hb (by rw [e]; decide))
        have mR2 : RXr C S d h2 := RXr_to mR1 (FR_up F2 (by decide)) (by rw [F2 4 (by decide)]) (by rw [F2 4 (by decide)]) (by rw [F2 4 (by decide)])
        have mF2 : FXr par br true mu cp cl cn as' h2 := by unfold FXr at mF1 ⊢; rw [F2 4 (by decide)]; exact mF1
        obtain ⟨h3, o1, o2, o3, o4⟩ := openX hs b3.1 mR2 mF2
        rw [o1, zlet_v]
        have x1 : h3 1 = h2 1 := o2 1 (by decide)
        have f3 : h3 1 3 = -1 := by rw [x1, eh2, zs_ne (by decide)]; exact f1
        have p3 : h3 1 2 = ((skp n b p + 1 : Nat) : Int) := by rw [x1, eh2, zs_at]; rfl
        rw [c127X f3 (by decide), if_pos rfl]
        refine ⟨1, h3, rfl, Or.inr ⟨rfl, true, skp n b p + 1, C, mPu S s, d + 1, par + (if s = 40 then 1 else 0), br + (if s = 91 then 1 else 0), (if s = 91 then false else mu), cp, cl, (if s = 91 then cn else true), as', ⟨⟨p3, f3⟩, o3, o4⟩, ⟨by omega, b2, SB_pu b3 (by omega), by omega, by split <;> omega, by split <;> omega⟩, FR_tr F1 (FR_tr (FR_up F2 (by decide)) (FR_up o2 (by decide))), FS_tr G1 (fun q hq => by rw [x1, eh2, zs_ne (fun e => hq (by rw [e]; decide))]), eR'⟩⟩
      by_cases cd : d < 6
      · rw [if_neg (show ¬ (6 : Int) ≤ d by omega)]
        rw [if_pos cd] at unf
        by_cases c91 : sg n b (skp n b p) = 91
        · rw [if_pos c91, c91]
          rw [if_pos c91] at unf
          exact opn 91 R (Or.inl rfl) c91 (by rw [unf, if_neg (show ¬ (91 : Int) = 40 by decide), if_pos rfl, if_pos rfl, if_pos rfl, Int.add_zero])
        · rw [if_neg c91]
          rw [if_neg c91] at unf
          cases mu with
          | false =>
            rw [if_pos (show bI false = 0 from rfl)]
            rw [if_neg (by rintro ⟨h, -⟩; cases h), if_neg (by rintro ⟨h, -⟩; cases h)] at unf
            exact bad R unf
          | true =>
            rw [if_neg (show ¬ bI true = 0 by decide)]
            by_cases c40 : sg n b (skp n b p) = 40
            · rw [if_pos c40, c40]
              rw [if_pos ⟨rfl, c40⟩] at unf
              exact opn 40 R (Or.inr (Or.inl rfl)) c40 (by rw [unf, if_pos rfl, if_neg (show ¬ (40 : Int) = 91 by decide), if_neg (show ¬ (40 : Int) = 91 by decide), if_neg (show ¬ (40 : Int) = 91 by decide), Int.add_zero])
            · rw [if_neg c40]
              rw [if_neg (fun h => c40 h.2)] at unf
              by_cases c33 : sg n b (skp n b p) = 33
              · rw [if_pos c33, c33]
                rw [if_pos ⟨rfl, c33⟩] at unf
                exact opn 33 R (Or.inr (Or.inr rfl)) c33 (by rw [unf, if_neg (show ¬ (33 : Int) = 40 by decide), if_neg (show ¬ (33 : Int) = 91 by decide), if_neg (show ¬ (33 : Int) = 91 by decide), if_neg (show ¬ (33 : Int) = 91 by decide), Int.add_zero, Int.add_zero])
              · rw [if_neg c33]
                rw [if_neg (fun h => c33 h.2)] at unf
                exact bad R unf
      · rw [if_pos (show (6 : Int) ≤ d by omega)]
        rw [if_neg cd] at unf
        exact bad R unf
    · rw [if_neg (by omega), zlet_v]
      have hlt : skp n b p < n := sg_lt (b := b) (ltr_0 c1)
      obtain ⟨h2, eh2⟩ : ∃ h2, h2 = zs h1 1 2 ((h1 1 2) + 1) := ⟨_, rfl⟩
      rw [← eh2]
      have F2 : FR [1] h1 h2 := by rw [eh2]; exact fun b hb => zs_row_ne (fun e => hb (by rw [e]; decide))
      have mR2 : RXr C S d h2 := RXr_to mR1 (FR_up F2 (by decide)) (by rw [F2 4 (by decide)]) (by rw [F2 4 (by decide)]) (by rw [F2 4 (by decide)])
      obtain ⟨h3, s1, s2, s3, s4, s5⟩ := emitX (v := 10000 + ltr (sg n b (skp n b p))) b2 mR2.1.1 mR2.1.2
      rw [s1, zlet_v, zlet_v]
      obtain ⟨h4, eh4⟩ : ∃ h4, h4 = zs h3 4 7 0 := ⟨_, rfl⟩
      rw [← eh4]
      have x1 : h4 1 = h2 1 := by rw [eh4, zs_row_ne (by decide), s2 1 (by decide)]
      have f4 : h4 1 3 = -1 := by rw [x1, eh2, zs_ne (by decide)]; exact f1
      have p4 : h4 1 2 = ((skp n b p + 1 : Nat) : Int) := by rw [x1, eh2, zs_at, e4]; rfl
      have o4 : ∀ j, j ≠ 1 → j ≠ 7 → h4 4 j = h1 4 j := fun j x y => by rw [eh4, zs_ne y, s3 j (fun e => x (List.mem_singleton.mp e)), F2 4 (by decide)]
      have F4 : FR [1, 4, 22] h1 h4 := by
        rw [eh4]
        exact FR_tr (FR_up F2 (by decide)) (FR_tr (FR_up s2 (by decide)) (fun b hb => zs_row_ne (fun e => hb (by rw [e]; decide))))
      rw [c127X f4 (by decide), if_pos rfl]
      refine ⟨1, h4, rfl, Or.inr ⟨rfl, false, skp n b p + 1, mEm C (10000 + ltr (sg n b (skp n b p))), S, d, par, br, mu, cp, cl, cn, as', ⟨⟨p4, f4⟩, ⟨⟨?_, ?_⟩, ⟨?_, ?_⟩, ?_⟩, ⟨?_, ?_⟩, ⟨?_, ?_, ?_⟩, ?_, ?_, ?_⟩, ⟨by omega, mEm_len b2, b3, by omega, by omega, by omega⟩, FR_tr F1 (FR_up F4 (by decide)), FS_tr G1 (fun q hq => by rw [x1, eh2, zs_ne (fun e => hq (by rw [e]; decide))]), ?_⟩⟩
      · rw [eh4, zs_ne (by decide)]; exact s4
      · rw [eh4, zs_row_ne (by decide)]; exact s5
      · rw [o4 3 (by decide) (by decide)]; exact mR1.2.1.1
      · rw [F4 23 (by decide)]; exact mR1.2.1.2
      · rw [o4 4 (by decide) (by decide)]; exact mR1.2.2
      · rw [o4 5 (by decide) (by decide)]; exact mF1.1.1
      · rw [o4 6 (by decide) (by decide)]; exact mF1.1.2
      · rw [eh4, zs_at]; rfl
      · rw [o4 8 (by decide) (by decide)]; exact mF1.2.1.2.1
      · rw [o4 9 (by decide) (by decide)]; exact mF1.2.1.2.2
      · rw [o4 10 (by decide) (by decide)]; exact mF1.2.2.1
      · rw [o4 11 (by decide) (by decide)]; exact mF1.2.2.2.1
      · rw [o4 12 (by decide) (by decide)]; exact mF1.2.2.2.2
      · rw [eR]
        conv => lhs; unfold mRun
        rw [if_neg c0, if_neg c1]
