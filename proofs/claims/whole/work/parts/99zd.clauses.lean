/-! the machine reads a clause -/
/-- how a clause ends, by the sign behind it -/
def finY (n : Nat) (b : Nat → Nat) (C : List Int) (q : Nat) (c : rCl) (y : mSt) : Prop := ∀ k, y (k + 1) = if sg n b (skp n b q) = 59 ∨ sg n b (skp n b q) = -1 then (-1, C ++ clsX c, skp n b q) else ((skp n b q : Int), [], skp n b q)
theorem FIN_S {n : Nat} {b : Nat → Nat} (T : TV n b) {q : Nat} {C : List Int} {d : Int} {mu cn as' : Bool} (hC : C.length < 240) (h1 : (as' || !cn) = true) (h2 : ¬ isS (sg n b (skp n b q)) ∨ as' = true) (hx : fitB (sg n b (skp n b q)) 0 0 false false cn as' = false ∨ rk (sg n b (skp n b q)) < 5) (k : Nat) : JS n b q C [] d 0 0 mu false false cn as' (k + 1) = if sg n b (skp n b q) = 59 ∨ sg n b (skp n b q) = -1 then (-1, C ++ [-59], skp n b q) else ((skp n b q : Int), [], skp n b q) := by
  obtain ⟨s, es⟩ : ∃ s, s = sg n b (skp n b q) := ⟨_, rfl⟩
  have sw : zw s = s := by rw [es]; exact sg_w T
  by_cases c : s = 59 ∨ s = -1
  · rw [← es, if_pos c]
    show mRun n b (k + 1) false q C [] d 0 0 mu false false cn as' = _
    unfold mRun
    have ft : fitB s 0 0 false false cn as' = true := by
      unfold fitB
      rw [if_pos (by omega), h1]; rfl
    rw [← es, ft, if_pos rfl, if_pos c]
    show ((-1 : Int), mEm C (-59), skp n b q) = _
    unfold mEm
    rw [if_pos hC]
  · rw [← es, if_neg c]
    refine J_bad ?_ k
    rcases hx with h | h
    · exact h
    · rw [← es] at h h2 ⊢
      have n4 : ¬ (s = 42 ∨ s = 43 ∨ s = 45 ∨ s = 47) := fun hh => by have := (rk_hi sw).mpr hh; omega
      unfold fitB
      rw [if_neg (by omega)]
      by_cases d2 : s = 38 ∨ s = 124
      · rw [if_pos d2]; rfl
      · rw [if_neg d2]
        by_cases d3 : s = 41
        · rw [if_pos d3]; rfl
        · rw [if_neg d3, if_neg n4]
          by_cases d5 : isS s
          · have : as' = true := by
              rcases h2 with h | h
              · exact absurd d5 h
              · exact h
            rw [if_pos d5, this]; rfl
          · rw [if_neg d5]
            by_cases d6 : s = 63
            · rw [if_pos d6]; rfl
            · rw [if_neg d6]
              by_cases d7 : s = 93
              · rw [if_pos d7]; rfl
              · rw [if_neg d7]
/-- behind a whole condition -/
theorem FIN_Q {n : Nat} {b : Nat → Nat} (T : TV n b) {a : rRes} {C : List Int} {y : mSt} (hf : a.2.1 = -1) (ha : a.1 ≤ n) (hC : C.length + (eX a.2.2).length < a.1) (hy : CY n b 6 1 a C [] 0 y) : ((cQ n b (true, a)).2.1 = -1 → a.1 ≤ (cQ n b (true, a)).1) ∧ Out n y a.1 ((cQ n b (true, a)).1, (cQ n b (true, a)).2.1, eD) (finY n b C (cQ n b (true, a)).1 (cQ n b (true, a)).2.2) := by
  have n240 := T.1
  obtain ⟨mu, cl, rfl, hx⟩ := hy
  have sk := skp_b (b := b) ha
  unfold cQ
  rw [if_pos hf, if_pos rfl]
  by_cases c : sg n b (skp n b a.1) = 63
  · have hlt : skp n b a.1 < n := sg_lt (b := b) (by rw [c]; decide)
    rw [if_pos c]
    have hq := PF_SU (b := b) 6 (show skp n b a.1 + 1 ≤ n by omega)
    have h1 := AC_SU T (Nat.le_refl 6) (skp n b a.1 + 1) (C ++ eX a.2.2 ++ [-63]) [] 0 0 false false true true (by omega) (by rw [List.length_append, List.length_append, List.length_singleton, List.length_nil]; omega) (by decide) (by decide) (Int.le_refl 0) (fun h => absurd h (by decide))
    have step : ∀ k, JS n b a.1 (C ++ eX a.2.2) [] (6 - ((6 : Nat) : Int)) 0 0 mu true cl true false (k + 1 + 1) = OS n b (skp n b a.1 + 1) (C ++ eX a.2.2 ++ [-63]) [] (6 - ((6 : Nat) : Int)) 0 0 false false false true true (k + 1) := fun k => by
      show mRun n b (k + 1 + 1) false a.1 (C ++ eX a.2.2) [] (6 - ((6 : Nat) : Int)) 0 0 mu true cl true false = mRun n b (k + 1) true (skp n b a.1 + 1) (C ++ eX a.2.2 ++ [-63]) [] (6 - ((6 : Nat) : Int)) 0 0 false false false true true
      conv => lhs; unfold mRun
      have ft : fitB 63 0 0 true cl true false = true := by
        unfold fitB
        rw [if_neg (by decide), if_neg (by decide), if_neg (by decide), if_neg (by decide), if_neg (by decide), if_pos rfl]; rfl
      rw [c, ft, if_pos rfl, if_neg (by decide), if_neg (by decide), if_neg (by decide), if_pos rfl]
      show mRun n b (k + 1) true (skp n b a.1 + 1) (mEm (C ++ eX a.2.2) (-63)) [] (6 - ((6 : Nat) : Int)) 0 0 false false false true true = _
      have em : mEm (C ++ eX a.2.2) (-63) = C ++ eX a.2.2 ++ [-63] := by unfold mEm; rw [if_pos (by rw [List.length_append]; omega)]
      rw [em]
    obtain ⟨s, es⟩ : ∃ s, s = SU n b 6 (skp n b a.1 + 1) := ⟨_, rfl⟩
    rw [← es] at hq h1 ⊢
    refine ⟨fun h => ?_, Out_step (p1 := skp n b a.1 + 1) (i := 1) (by omega) (by omega) (fun h => ?_) step (Out_then (a := s) (by omega) h1 (fun _ => rfl) (fun h => ⟨⟨?_, ?_, fun _ => Nat.le_refl _⟩, fun y hy => ?_⟩))⟩
    · obtain ⟨b1, b2, _⟩ := hq.1 h
      show a.1 ≤ s.1
      omega
    · obtain ⟨b1, b2, _⟩ := hq.1 h
      show skp n b a.1 + 1 ≤ s.1
      omega
    · have := (hq.1 h).1
      omega
    · exact (hq.1 h).2.1
    · obtain ⟨b1, b2, b3, b4, b5⟩ := hq.1 h
      obtain ⟨⟨mu', rfl⟩, y2⟩ := hy
      refine Out_here h (fun k => ?_)
      rw [FIN_S T (by rw [List.length_append, List.length_append, List.length_append, List.length_singleton]; omega) rfl (Or.inr rfl) y2 k]
      have ec : C ++ eX a.2.2 ++ [-63] ++ eX s.2.2 ++ [-59] = C ++ clsX (true, a.2.2, s.2.2) := by
        unfold clsX
        rw [if_pos rfl]
        simp only [List.append_assoc]
      rw [ec]
  · rw [if_neg c]
    refine ⟨fun h => absurd (show (skp n b a.1 : Int) = -1 from h) (by omega), Out_bad fun k => J_bad ?_ k⟩
    rcases hx with h | h
    · exact h
    · obtain ⟨s, es⟩ : ∃ s, s = sg n b (skp n b a.1) := ⟨_, rfl⟩
      have sw : zw s = s := by rw [es]; exact sg_w T
      rw [← es] at h c ⊢
      have n2 : ¬ (s = 38 ∨ s = 124) := fun hh => by rcases hh with rfl | rfl <;> (revert h; decide)
      have n4 : ¬ (s = 42 ∨ s = 43 ∨ s = 45 ∨ s = 47) := fun hh => by have := (rk_hi sw).mpr hh; omega
      have n5 : ¬ isS s := fun hh => by have := (rk_isS sw).mpr hh; omega
      unfold fitB
      by_cases d1 : s = -1 ∨ s = 59
      · rw [if_pos d1]; rfl
      · rw [if_neg d1, if_neg n2]
        by_cases d3 : s = 41
        · rw [if_pos d3]; rfl
        · rw [if_neg d3, if_neg n4, if_neg n5, if_neg c]
          by_cases d7 : s = 93
          · rw [if_pos d7]; rfl
          · rw [if_neg d7]
/-- a clause from behind its colon -/
theorem clM_q {n : Nat} {b : Nat → Nat} (T : TV n b) {q : Nat} {C : List Int} (hq : q ≤ n) (hC : C.length < q) : Out n (OS n b q C [] 0 0 0 true false false false false) q ((cQ n b (cT n b q)).1, (cQ n b (cT n b q)).2.1, eD) (finY n b C (cQ n b (cT n b q)).1 (cQ n b (cT n b q)).2.2) := by
  have n240 := T.1
  have d0 : (0 : Int) = 6 - ((6 : Nat) : Int) := by decide
  have hU := CC_UN T 6 (Nat.le_refl 6)
  -- behind a condition
  have fin : ∀ (a : rRes) (x : mSt), PF n 18 OKe q a → Out n x q a (CY n b 6 1 a C [] 0) → Out n x q ((cQ n b (true, a)).1, (cQ n b (true, a)).2.1, eD) (finY n b C (cQ n b (true, a)).1 (cQ n b (true, a)).2.2) := fun a x hP H => by
    by_cases c : a.2.1 = -1
    · obtain ⟨b1, b2, b3, b4, b5⟩ := hP.1 c
      have L := fun y hy => FIN_Q T (C := C) (y := y) c b2 (by omega) hy
      obtain ⟨j0, y0, _, hy0, _⟩ := H.2 c
      exact Out_then hq H (fun h => absurd c h) (fun _ => ⟨⟨by omega, b2, fun h => (L y0 hy0).1 h⟩, fun y hy => (L y hy).2⟩)
    · have e : cQ n b (true, a) = (a.1, a.2.1, dC) := by
        unfold cQ
        rw [if_neg c]
      rw [e]
      exact ⟨H.1, fun h => absurd h c⟩
  unfold cT
  by_cases c1 : sg n b (skp n b q) = 33 ∨ sg n b (skp n b q) = 40
  · rw [if_pos c1]
    refine fin _ _ (PF_up (PF_cond (PF_UN 6) hq) (by decide) (fun _ h => h.1) (Nat.le_refl q)) ?_
    have := CC_cond T (Nat.le_refl 6) hU q C [] 0 false hq (by rw [List.length_nil]; omega) (by decide) (by decide) (Int.le_refl 0) (fun _ => c1)
    rw [← d0] at this
    exact this
  · rw [if_neg c1]
    have h1 := AC_SU T (Nat.le_refl 6) q C [] 0 0 true false false false hq (by rw [List.length_nil]; omega) (by decide) (by decide) (Int.le_refl 0) (fun _ => ⟨fun h => c1 (Or.inr h), fun h => c1 (Or.inl h)⟩)
    have hP := PF_SU (b := b) 6 hq
    rw [← d0] at h1
    by_cases c2 : (SU n b 6 q).2.1 = -1 ∧ isS (sg n b (skp n b (SU n b 6 q).1))
    · rw [if_pos c2]
      have hPc := PF_cmp (b := b) (su := SU n b 6) (fun r hr => PF_SU 6 hr) hP
      have hPa := PF_and (b := b) (u := UN n b 6) (B := 16) (PF_UN 6) (PF_up hPc (by decide) (fun _ h => h) (Nat.le_refl q))
      have hPo := PF_or (b := b) (u := UN n b 6) (B := 16) (PF_UN 6) (PF_up hPa (by decide) (fun _ h => h) (Nat.le_refl q))
      refine fin _ _ (PF_up hPo (by decide) (fun _ h => h.1) (Nat.le_refl q)) ?_
      obtain ⟨b1, b2, b3, b4, b5⟩ := hP.1 c2.1
      have L1 := fun mu hx => CC_cmp T (Nat.le_refl 6) (a := SU n b 6 q) (C := C) (S := []) (par := 0) (mu := mu) (cn := false) c2.1 b2 (by rw [List.length_nil]; omega) (by decide) (by decide) (Or.inr c2.2) hx
      -- the comparison
      have H1 : Out n (OS n b q C [] 0 0 0 true false false false false) q (cmpP n b (SU n b 6) (SU n b 6 q)) (CY n b 6 3 (cmpP n b (SU n b 6) (SU n b 6 q)) C [] 0) := by
        obtain ⟨j0, y0, _, ⟨_, hy0⟩, _⟩ := h1.2 c2.1
        refine Out_then hq h1 (fun h => absurd c2.1 h) (fun _ => ⟨⟨by omega, b2, fun hf' => (L1 false hy0).1 hf'⟩, fun y hy => ?_⟩)
        obtain ⟨⟨mu', rfl⟩, y2⟩ := hy
        have := (L1 mu' y2).2
        rw [← d0] at this
        refine Out_up this (fun _ y hy => ?_)
        obtain ⟨mu', cl', e, y2⟩ := hy
        refine ⟨mu', cl', e, ?_⟩
        rcases y2 with y2 | y2
        · exact Or.inl y2
        · by_cases c : rk (sg n b (skp n b (cmpP n b (SU n b 6) (SU n b 6 q)).1)) = 3
          · left
            rw [(rk_33 (sg_w T)).mp c]
            unfold fitB
            rw [if_neg (by decide), if_neg (by decide), if_neg (by decide), if_neg (by decide), if_neg (by decide), if_neg (by decide), if_neg (by decide)]
          · right; omega
      -- what is joined to it
      have H2 : Out n (OS n b q C [] 0 0 0 true false false false false) q (andK n b (UN n b 6) (cmpP n b (SU n b 6) (SU n b 6 q))) (CY n b 6 2 (andK n b (UN n b 6) (cmpP n b (SU n b 6) (SU n b 6 q))) C [] 0) := by
        by_cases c3 : (cmpP n b (SU n b 6) (SU n b 6 q)).2.1 = -1
        · obtain ⟨p1, p2, p3, p4, p5⟩ := hPc.1 c3
          have L2 := fun y hy => CC_opL T (w := 1) (Or.inl ⟨rfl, rfl⟩) (by decide) (m := 10) (PF_UN 6) (CC_3 T hU) (n + 1) (cmpP n b (SU n b 6) (SU n b 6 q)) C [] 0 y c3 p2 (by omega) (by rw [List.length_nil]; omega) (by decide) (by decide) (Int.le_refl 0) hy
          obtain ⟨j0, y0, _, hy0, _⟩ := H1.2 c3
          exact Out_then hq H1 (fun h => absurd c3 h) (fun _ => ⟨⟨by omega, p2, fun h => (L2 y0 hy0).1 h⟩, fun y hy => (L2 y hy).2⟩)
        · have e : andK n b (UN n b 6) (cmpP n b (SU n b 6) (SU n b 6 q)) = cmpP n b (SU n b 6) (SU n b 6 q) := by
            unfold andK opL
            rw [if_neg c3]
          rw [e]
          exact ⟨H1.1, fun h => absurd h c3⟩
      by_cases c4 : (andK n b (UN n b 6) (cmpP n b (SU n b 6) (SU n b 6 q))).2.1 = -1
      · obtain ⟨p1, p2, p3, p4, p5⟩ := hPa.1 c4
        have L3 := fun y hy => CC_opL T (w := 0) (Or.inr ⟨rfl, rfl⟩) (by decide) (m := 11) (fun q hq => PF_opG (by decide) (by decide) (okAnd 38 10 (Or.inl ⟨rfl, rfl⟩)) (PF_UN 6) hq) (CC_and T (Nat.le_refl 6) hU) (n + 1) (andK n b (UN n b 6) (cmpP n b (SU n b 6) (SU n b 6 q))) C [] 0 y c4 p2 (by omega) (by rw [List.length_nil]; omega) (by decide) (by decide) (Int.le_refl 0) hy
        obtain ⟨j0, y0, _, hy0, _⟩ := H2.2 c4
        exact Out_then hq H2 (fun h => absurd c4 h) (fun _ => ⟨⟨by omega, p2, fun h => (L3 y0 hy0).1 h⟩, fun y hy => (L3 y hy).2⟩)
      · have e : orK n b (UN n b 6) (andK n b (UN n b 6) (cmpP n b (SU n b 6) (SU n b 6 q))) = andK n b (UN n b 6) (cmpP n b (SU n b 6) (SU n b 6 q)) := by
          unfold orK opL
          rw [if_neg c4]
        rw [e]
        exact ⟨H2.1, fun h => absurd h c4⟩
    · rw [if_neg c2]
      unfold cQ
      by_cases c3 : (SU n b 6 q).2.1 = -1
      · obtain ⟨b1, b2, b3, b4, b5⟩ := hP.1 c3
        rw [if_pos c3, if_neg (show ¬ false = true by decide)]
        refine Out_then hq h1 (fun h => absurd c3 h) (fun _ => ⟨⟨by omega, b2, fun _ => Nat.le_refl _⟩, fun y hy => Out_here rfl (fun k => ?_)⟩)
        obtain ⟨⟨mu', rfl⟩, y2⟩ := hy
        rw [FIN_S T (by rw [List.length_append]; omega) rfl (Or.inl (fun h => c2 ⟨c3, h⟩)) y2 k]
        have ec : C ++ eX (SU n b 6 q).2.2 ++ [-59] = C ++ clsX (false, eD, (SU n b 6 q).2.2) := by
          unfold clsX
          rw [if_neg (show ¬ false = true by decide), List.nil_append, List.append_assoc]
        rw [ec]
      · rw [if_neg c3]
        exact ⟨h1.1, fun h => absurd h c3⟩
