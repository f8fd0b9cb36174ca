/-! the class reads a rule -/
theorem takX {n : Nat} {b : Nat → Nat} (T : TV n b) {N : Nat} (hN : 300 ≤ N) {h : zH} (H : TX n b h) {p : Nat} (hp : p ≤ n) (hpl : h 1 2 = (p : Int)) {f : Int} (hf : h 1 3 = f) (hfb : -1 ≤ f ∧ f ≤ 1000) {c : Int} (hc : zw c = c) (hc1 : c ≠ -1) : ∃ h', fX9_take N c h = some (if f = -1 ∧ sg n b (skp n b p) = c then 1 else 0, h') ∧ FR [1] h h' ∧ FS 1 [2] h h' ∧ h' 1 2 = if f = -1 ∧ sg n b (skp n b p) = c then ((skp n b p + 1 : Nat) : Int) else (skp n b p : Int) := by
  obtain ⟨h1, e1, e2, e3, e4⟩ := nextX T hN H hp hpl hf hfb
  unfold fX9_take
  rw [e1, z2_some, hc]
  by_cases c0 : f = -1
  · rw [if_pos c0, sg_w T]
    by_cases c1 : sg n b (skp n b p) = c
    · rw [if_pos c1, zlet_v, if_pos ⟨c0, c1⟩, if_pos ⟨c0, c1⟩, e4]
      exact ⟨_, rfl, FR_tr e2 (fun b hb => zs_row_ne (fun e => hb (by rw [e]; decide))), FS_tr e3 (fun q hq => zs_ne (fun e => hq (by rw [e]; decide))), by rw [zs_at]; rfl⟩
    · rw [if_neg c1, if_neg (fun h => c1 h.2), if_neg (fun h => c1 h.2)]
      exact ⟨h1, rfl, e2, e3, e4⟩
  · rw [if_neg c0, zw_m1, if_neg (fun h => hc1 h.symm), if_neg (fun h => c0 h.1), if_neg (fun h => c0 h.1)]
    exact ⟨h1, rfl, e2, e3, e4⟩
/-- behind a clause that began at p -/
def CAx (n : Nat) (b : Nat → Nat) (p : Nat) (C : List Int) (h0 h : zH) : Prop := FR [1, 4, 22, 23] h0 h ∧ FS 1 [2, 3] h0 h ∧ (∃ q : Nat, h 1 2 = (q : Int) ∧ q ≤ n) ∧ ((clP n b p).2.1 ≠ -1 → h 1 3 = (clP n b p).2.1) ∧ ((clP n b p).2.1 = -1 → (sg n b (skp n b (clP n b p).1) = 59 ∨ sg n b (skp n b (clP n b p).1) = -1 → h 1 3 = -1 ∧ h 1 2 = (skp n b (clP n b p).1 : Int) ∧ h 4 1 = ((C ++ clsX (clP n b p).2.2).length : Int) ∧ sgm (h 22) 0 (C ++ clsX (clP n b p).2.2)) ∧ (¬ (sg n b (skp n b (clP n b p).1) = 59 ∨ sg n b (skp n b (clP n b p).1) = -1) → h 1 3 = (skp n b (clP n b p).1 : Int)))
theorem clauRX {n : Nat} {b : Nat → Nat} (T : TV n b) {N : Nat} (hN : 300 ≤ N) {h0 h : zH} (H0 : TX n b h0) (F : FR [1, 4, 22, 23] h0 h) (G : FS 1 [2, 3] h0 h) {p : Nat} {C : List Int} (hp : p ≤ n) (hC : C.length ≤ p) (hpl : h 1 2 = (p : Int)) (hf : h 1 3 = -1) (c1 : h 4 1 = (C.length : Int)) (c2 : sgm (h 22) 0 C) : ∃ h', fX4_readClause N h = some h' ∧ CAx n b p C h0 h' := by
  have n240 := T.1
  have sk := skp_b (b := b) hp
  unfold fX4_readClause
  simp only [zlet_v]
  obtain ⟨g, eg⟩ : ∃ g, g = zs (zs (zs (zs (zs (zs (zs (zs (zs (zs h 4 3 0) 4 4 0) 4 5 0) 4 6 0) 4 7 1) 4 8 1) 4 9 0) 4 10 0) 4 11 0) 4 12 0 := ⟨_, rfl⟩
  rw [← eg]
  have Fg : FR [4] h g := fun b hb => by
    rw [eg]
    repeat rw [zs_row_ne (fun e => hb (by rw [e]; decide))]
  have g1 : g 4 1 = (C.length : Int) := by
    rw [eg]
    repeat rw [zs_ne (by decide)]
    exact c1
  have gR : RXr C [] 0 g := by
    refine ⟨⟨g1, by rw [Fg 22 (by decide)]; exact c2⟩, ⟨?_, fun j hj => absurd (show j < 0 from hj) (by omega)⟩, ?_⟩
    · rw [eg]
      repeat rw [zs_ne (by decide)]
      rw [zs_at]; rfl
    · rw [eg]
      repeat rw [zs_ne (by decide)]
      rw [zs_at]
  have gF : FXr 0 0 true true false false false false g := by
    refine ⟨⟨?_, ?_⟩, ⟨?_, ?_, ?_⟩, ?_, ?_, ?_⟩
    all_goals rw [eg]
    all_goals (repeat rw [zs_ne (by decide)])
    all_goals (rw [zs_at]; try rfl)
  have FG : FR [1, 4, 22, 23] h0 g := FR_tr F (FR_up Fg (by decide))
  have GG : FS 1 [2, 3] h0 g := FS_tr G (fun q _ => by rw [Fg 1 (by decide)])
  have gp : g 1 2 = (p : Int) := by rw [Fg 1 (by decide)]; exact hpl
  have gf : g 1 3 = -1 := by rw [Fg 1 (by decide)]; exact hf
  -- a sign is missing
  have bad : ∀ (h2 : zH) (q : Nat), FR [1] g h2 → FS 1 [2] g h2 → h2 1 2 = (q : Int) → q ≤ n → clP n b p = (q, (q : Int), dC) → ∃ h', (if zw (fX9_blame (h2 1 2) h2 1 3) = zw (-1) then fX4_readClause_c92 N N 1 0 (fX9_blame (h2 1 2) h2) else fX4_readClause_c92 N N 0 0 (fX9_blame (h2 1 2) h2)) = some h' ∧ CAx n b p C h0 h' := fun h2 q F2 G2 e2 hq ec => by
    have f2 : h2 1 3 = -1 := by rw [G2 3 (by decide)]; exact gf
    obtain ⟨K, rfl⟩ : ∃ K, N = K + 1 := ⟨N - 1, by omega⟩
    rw [blameX f2 (by decide), if_pos rfl, e2, zs_at, zw_m1, zw_id (show -2147483648 ≤ (q : Int) ∧ (q : Int) < 2147483648 by omega), if_neg (by omega)]
    refine ⟨zs h2 1 3 (q : Int), ?_, FR_tr FG (FR_tr (FR_up F2 (by decide)) (fun b hb => zs_row_ne (fun e => hb (by rw [e]; decide)))), FS_tr GG (FS_tr (FS_up G2 (by decide)) (fun q hq => zs_ne (fun e => hq (by rw [e]; decide)))), ⟨q, by rw [zs_ne (by decide)]; exact e2, hq⟩, fun _ => by rw [zs_at, ec], fun hh => ?_⟩
    · show fX4_readClause_c92b (K + 1) (fX4_readClause_c92 (K + 1) K) 0 0 (zs h2 1 3 (q : Int)) = _
      unfold fX4_readClause_c92b
      rw [if_neg (by decide), if_pos zw_0]
    · rw [ec] at hh
      have hh : (q : Int) = -1 := hh
      omega
  obtain ⟨h1, t1, t2, t3, t4⟩ := takX T hN (TX_to H0 (GG 1 (by decide)) (FG 15 (by decide))) hp gp gf (by decide) (show zw 121 = 121 by decide) (by decide)
  by_cases c121 : sg n b (skp n b p) = 121
  · have hlt : skp n b p < n := sg_lt (b := b) (by rw [c121]; decide)
    rw [if_pos ⟨rfl, c121⟩] at t1 t4
    rw [t1, z2_some, if_neg (show ¬ zw 1 = 0 by decide)]
    have sk2 := skp_b (b := b) (show skp n b p + 1 ≤ n by omega)
    have F1 : FR [1, 4, 22, 23] h0 h1 := FR_tr FG (FR_up t2 (by decide))
    have G1 : FS 1 [2, 3] h0 h1 := FS_tr GG (FS_up t3 (by decide))
    have f1 : h1 1 3 = -1 := by rw [t3 3 (by decide)]; exact gf
    obtain ⟨h2, u1, u2, u3, u4⟩ := takX T hN (TX_to H0 (G1 1 (by decide)) (F1 15 (by decide))) (show skp n b p + 1 ≤ n by omega) t4 f1 (by decide) (show zw 58 = 58 by decide) (by decide)
    have F2 : FR [1] g h2 := FR_tr t2 u2
    have G2 : FS 1 [2] g h2 := FS_tr t3 u3
    by_cases c58 : sg n b (skp n b (skp n b p + 1)) = 58
    · have hlt2 : skp n b (skp n b p + 1) < n := sg_lt (b := b) (by rw [c58]; decide)
      rw [if_pos ⟨rfl, c58⟩] at u1 u4
      rw [u1, z2_some, if_neg (show ¬ zw 1 = 0 by decide)]
      have f2 : h2 1 3 = -1 := by rw [G2 3 (by decide)]; exact gf
      rw [f2, if_pos rfl]
      obtain ⟨q, eq⟩ : ∃ q, q = skp n b (skp n b p + 1) + 1 := ⟨_, rfl⟩
      have ec : clP n b p = cQ n b (cT n b q) := by
        unfold clP
        rw [if_pos c121, if_pos c58, eq]
      have S2 : StX n b 0 240 true (mRun n b 240 true q C [] 0 0 0 true false false false false) h0 h2 := ⟨q, C, [], 0, 0, 0, true, false, false, false, false, ⟨⟨by rw [u4, eq], f2⟩, RXr_to gR (FR_up F2 (by decide)) (by rw [F2 4 (by decide)]) (by rw [F2 4 (by decide)]) (by rw [F2 4 (by decide)]), by unfold FXr at gF ⊢; rw [F2 4 (by decide)]; exact gF⟩, ⟨by omega, by omega, ⟨by decide, fun t ht => absurd ht List.not_mem_nil⟩, by decide, by decide, by decide⟩, FR_tr FG (FR_up F2 (by decide)), FS_tr GG (FS_up G2 (by decide)), rfl⟩
      obtain ⟨h', r1, r2, r3, r4, r5, r6⟩ := loopR T hN H0 240 0 N true h2 rfl (by omega) S2
      have O := clM_q T (q := q) (C := C) (by omega) (by omega)
      have hF := cQ_F (n := n) (b := b) (q := q) (by omega)
      refine ⟨h', r1, r2, r3, r5, fun hbad => ?_, fun hok => ?_⟩
      · rw [ec] at hbad ⊢
        obtain ⟨j, j1, j2, j3⟩ := O.1 hbad
        have := j3 (240 - j)
        rw [show 240 - j + j = 240 by omega] at this
        rw [r4]
        exact this
      · rw [ec] at hok ⊢
        obtain ⟨b1, b2, _⟩ := hF.1 hok
        obtain ⟨j, y, j1, j2, j3⟩ := O.2 hok
        have j1 : j ≤ (cQ n b (cT n b q)).1 - q := j1
        have e240 := (j3 (239 - j)).trans (j2 (239 - j))
        rw [show 239 - j + 1 + j = 240 by omega] at e240
        have e240 : mRun n b 240 true q C [] 0 0 0 true false false false false = if sg n b (skp n b (cQ n b (cT n b q)).1) = 59 ∨ sg n b (skp n b (cQ n b (cT n b q)).1) = -1 then (-1, C ++ clsX (cQ n b (cT n b q)).2.2, skp n b (cQ n b (cT n b q)).1) else ((skp n b (cQ n b (cT n b q)).1 : Int), [], skp n b (cQ n b (cT n b q)).1) := e240
        refine ⟨fun hs => ?_, fun hs => ?_⟩
        · rw [if_pos hs] at e240
          rw [e240] at r4 r6
          obtain ⟨w1, w2, w3⟩ := r6 rfl
          exact ⟨r4, w1, w2, w3⟩
        · rw [if_neg hs] at e240
          rw [e240] at r4
          exact r4
    · rw [if_neg (fun h => c58 h.2)] at u1 u4
      rw [u1, z2_some, if_pos zw_0]
      refine bad h2 (skp n b (skp n b p + 1)) F2 G2 u4 sk2.2.1 ?_
      unfold clP
      rw [if_pos c121, if_neg c58]
  · rw [if_neg (fun h => c121 h.2)] at t1 t4
    rw [t1, z2_some, if_pos zw_0]
    refine bad h1 (skp n b p) t2 t3 t4 sk.2.1 ?_
    unfold clP
    rw [if_neg c121]
/-- all clauses -/
theorem loopLX {n : Nat} {b : Nat → Nat} (T : TV n b) {N : Nat} (hN : 300 ≤ N) {h0 : zH} (H0 : TX n b h0) (k : Nat) : ∀ (p i F : Nat) (acc : List rCl) (h : zH), p ≤ n → n < p + k → k < F → 3 * i ≤ p + 3 → LV p acc → CAx n b p (lawX acc) h0 h → ∃ h', fX4_read_c16 N F (i : Int) h = some ((lwP n b k p acc).1, h') ∧ FR [1, 4, 22, 23] h0 h' ∧ FS 1 [2, 3] h0 h' ∧ ((lwP n b k p acc).1 = -1 → h' 4 1 = ((lawX (lwP n b k p acc).2).length : Int) ∧ sgm (h' 22) 0 (lawX (lwP n b k p acc).2)) := by
  have n240 := T.1
  induction k with
  | zero => intro p i F acc h hp hk; omega
  | succ k ih =>
    intro p i F acc h hp hk hF hi V ⟨F1, G1, ⟨q, q1, q2⟩, cB, cO⟩
    obtain ⟨F, rfl⟩ : ∃ F', F = F' + 1 := ⟨F - 1, by omega⟩
    have TH := TX_to H0 (G1 1 (by decide)) (F1 15 (by decide))
    have hcF := clP_F (b := b) hp
    show ∃ h', fX4_read_c16b N (fX4_read_c16 N F) (i : Int) h = _ ∧ _
    unfold fX4_read_c16b
    rw [show zw 240 = 240 by decide, zw_id (show -2147483648 ≤ (i : Int) ∧ (i : Int) < 2147483648 by omega), if_neg (by omega)]
    -- it is closed with a fault
    have shutF : ∀ f : Int, h 1 3 = f → 0 ≤ f ∧ f ≤ n → ∃ h', (z2 (fX9_take N 59 h) fun v5 h4 => if zw v5 = 0 then z2 (fX9_close N h4) fun v8 h7 => some (v8, h7) else zb (fX4_readClause N h4) fun h9 => fX4_read_c16 N F ((i : Int) + 1) h9) = some (f, h') ∧ FR [1, 4, 22, 23] h0 h' ∧ FS 1 [2, 3] h0 h' := fun f hf hfb => by
      obtain ⟨h1, t1, t2, t3, t4⟩ := takX T hN TH q2 q1 hf (by omega) (show zw 59 = 59 by decide) (by decide)
      have nf : ¬ (f = -1 ∧ sg n b (skp n b q) = 59) := fun h => by omega
      rw [if_neg nf] at t1 t4
      have sk := skp_b (b := b) q2
      have F2 : FR [1, 4, 22, 23] h0 h1 := FR_tr F1 (FR_up t2 (by decide))
      have G2 : FS 1 [2, 3] h0 h1 := FS_tr G1 (FS_up t3 (by decide))
      obtain ⟨h2, u1, u2, u3⟩ := closeX T hN (TX_to H0 (G2 1 (by decide)) (F2 15 (by decide))) sk.2.1 t4 (show h1 1 3 = f by rw [t3 3 (by decide)]; exact hf) (by omega)
      rw [t1, z2_some, if_pos zw_0, u1, z2_some, if_neg (by omega)]
      exact ⟨h2, rfl, FR_tr F2 (FR_up u2 (by decide)), FS_tr G2 u3⟩
    unfold lwP
    by_cases c0 : (clP n b p).2.1 = -1
    · obtain ⟨f1, f2, f3, f4, f5⟩ := hcF.1 c0
      obtain ⟨o1, o2⟩ := cO c0
      have V1 := LV_1 hp V c0
      have skc := skp_b (b := b) f2
      rw [if_pos c0]
      by_cases c59 : sg n b (skp n b (clP n b p).1) = 59
      · obtain ⟨w1, w2, w3, w4⟩ := o1 (Or.inl c59)
        have hlt : skp n b (clP n b p).1 < n := sg_lt (b := b) (by rw [c59]; decide)
        rw [if_pos c59]
        obtain ⟨h1, t1, t2, t3, t4⟩ := takX T hN TH skc.2.1 w2 w1 (by decide) (show zw 59 = 59 by decide) (by decide)
        rw [skp_i f2, if_pos ⟨rfl, c59⟩] at t1 t4
        have F2 : FR [1, 4, 22, 23] h0 h1 := FR_tr F1 (FR_up t2 (by decide))
        have G2 : FS 1 [2, 3] h0 h1 := FS_tr G1 (FS_up t3 (by decide))
        rw [t1, z2_some, if_neg (show ¬ zw 1 = 0 by decide)]
        rw [← lawX_1] at w3 w4
        obtain ⟨h2, r1, r2⟩ := clauRX T hN H0 F2 G2 (p := skp n b (clP n b p).1 + 1) (C := lawX (acc ++ [(clP n b p).2.2])) (by omega) (by have := V1.2.1; omega) t4 (by rw [t3 3 (by decide)]; exact w1) (by rw [t2 4 (by decide)]; exact w3) (by rw [t2 22 (by decide)]; exact w4)
        rw [r1, zb_some]
        exact ih (skp n b (clP n b p).1 + 1) (i + 1) F _ h2 (by omega) (by omega) (by omega) (by omega) (LV_up V1 (by omega)) r2
      · rw [if_neg c59]
        by_cases cm : sg n b (skp n b (clP n b p).1) = -1
        · obtain ⟨w1, w2, w3, w4⟩ := o1 (Or.inr cm)
          rw [if_pos cm]
          obtain ⟨h1, t1, t2, t3, t4⟩ := takX T hN TH skc.2.1 w2 w1 (by decide) (show zw 59 = 59 by decide) (by decide)
          rw [skp_i f2, if_neg (fun h => c59 h.2)] at t1 t4
          have F2 : FR [1, 4, 22, 23] h0 h1 := FR_tr F1 (FR_up t2 (by decide))
          have G2 : FS 1 [2, 3] h0 h1 := FS_tr G1 (FS_up t3 (by decide))
          obtain ⟨h2, u1, u2, u3⟩ := closeX T hN (TX_to H0 (G2 1 (by decide)) (F2 15 (by decide))) skc.2.1 t4 (show h1 1 3 = -1 by rw [t3 3 (by decide)]; exact w1) (by decide)
          rw [skp_i f2, if_pos rfl, if_pos cm] at u1
          rw [t1, z2_some, if_pos zw_0, u1, z2_some]
          refine ⟨h2, rfl, FR_tr F2 (FR_up u2 (by decide)), FS_tr G2 u3, fun _ => ?_⟩
          show h2 4 1 = ((lawX (acc ++ [(clP n b p).2.2])).length : Int) ∧ sgm (h2 22) 0 (lawX (acc ++ [(clP n b p).2.2]))
          rw [lawX_1, u2 4 (by decide), u2 22 (by decide), t2 4 (by decide), t2 22 (by decide)]
          exact ⟨w3, w4⟩
        · have hh := o2 (fun h => by rcases h with h | h; exact c59 h; exact cm h)
          obtain ⟨h', r1, r2, r3⟩ := shutF _ hh (by omega)
          rw [if_neg cm]
          exact ⟨h', r1, r2, r3, fun h => absurd (show (skp n b (clP n b p).1 : Int) = -1 from h) (by omega)⟩
    · rw [if_neg c0]
      have hb := hcF.2 c0
      obtain ⟨h', r1, r2, r3⟩ := shutF _ (cB c0) hb
      exact ⟨h', r1, r2, r3, fun h => absurd h c0⟩
theorem readRX {n : Nat} {b : Nat → Nat} (T : TV n b) {N : Nat} (hN : 300 ≤ N) {h : zH} (H : TX n b h) : ∃ h', fX4_read N h = some ((lwR n b).1, h') ∧ FR [1, 4, 22, 23] h h' ∧ FS 1 [2, 3] h h' ∧ ((lwR n b).1 = -1 → h' 4 1 = ((lawX (lwR n b).2).length : Int) ∧ sgm (h' 22) 0 (lawX (lwR n b).2)) := by
  have n240 := T.1
  unfold fX4_read fX9_rewind
  simp only [zlet_v]
  obtain ⟨g, eg⟩ : ∃ g, g = zs (zs (zs h 1 2 0) 1 3 (-1)) 4 1 0 := ⟨_, rfl⟩
  rw [← eg]
  have Fg : FR [1, 4, 22, 23] h g := fun b hb => by
    rw [eg, zs_row_ne (fun e => hb (by rw [e]; decide)), zs_row_ne (fun e => hb (by rw [e]; decide)), zs_row_ne (fun e => hb (by rw [e]; decide))]
  have Gg : FS 1 [2, 3] h g := fun q hq => by
    rw [eg, zs_row_ne (by decide), zs_ne (fun e => hq (by rw [e]; decide)), zs_ne (fun e => hq (by rw [e]; decide))]
  obtain ⟨h1, r1, r2⟩ := clauRX T hN H Fg Gg (p := 0) (C := []) (Nat.zero_le n) (Nat.le_refl 0) (by rw [eg, zs_row_ne (by decide), zs_ne (by decide), zs_at]; rfl) (by rw [eg, zs_row_ne (by decide), zs_at]) (by rw [eg, zs_at]; rfl) (fun j hj => absurd (show j < 0 from hj) (by omega))
  rw [r1, zb_some]
  exact loopLX T hN H (n + 1) 0 1 N [] h1 (Nat.zero_le n) (by omega) (by omega) (by decide) ⟨fun c hc => absurd hc List.not_mem_nil, Nat.le_refl 0, Nat.le_refl 0, Nat.le_refl 0⟩ r2
