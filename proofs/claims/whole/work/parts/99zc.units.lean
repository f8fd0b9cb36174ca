/-! the machine reads units, clauses, rules -/
theorem CC_3 {n : Nat} {b : Nat → Nat} (T : TV n b) {r w : Nat} {P : Nat → rRes} (h : CCr n b r 4 w P) : CCr n b r 3 w P := by
  intro p C S par cn hp hC hS ht hpar hcn
  refine Out_up (h p C S par cn hp hC hS (by omega) hpar hcn) (fun _ y hy => ?_)
  obtain ⟨mu', cl', e, y2⟩ := hy
  refine ⟨mu', cl', e, ?_⟩
  rcases y2 with y2 | y2
  · exact Or.inl y2
  · by_cases c : rk (sg n b (skp n b (P p).1)) = 3
    · left
      have e33 := (rk_33 (sg_w T)).mp c
      rw [e33]
      unfold fitB
      rw [if_neg (by decide), if_neg (by decide), if_neg (by decide), if_neg (by decide), if_neg (by decide), if_neg (by decide), if_neg (by decide)]
    · right; omega
theorem CC_opG {n : Nat} {b : Nat → Nat} (T : TV n b) {r w : Nat} {ρ s m : Int} (hs : sgC ρ s) (hw : w < 47) {it : Nat → rRes} {B : Nat} (hP : ∀ q, q ≤ n → PF n B OKb q (it q)) (hi : CCr n b r (ρ + 1) (w + 1) it) : CCr n b r ρ w (opG n b s m s m it) := by
  intro p C S par cn hp hC hS ht hpar hcn
  have h1 := hi p C S par cn hp hC (by omega) (by omega) hpar hcn
  have hq := hP p hp
  unfold opG
  by_cases c : (it p).2.1 = -1
  · obtain ⟨b1, b2, b3, b4, b5⟩ := hq.1 c
    have L := fun y hy => CC_opL T (m := m) hs hw hP hi (n + 1) (it p) C S par y c b2 (by omega) (by omega) hS ht hpar hy
    obtain ⟨j0, y0, _, hy0, _⟩ := h1.2 c
    refine Out_then hp h1 (fun h => absurd c h) (fun _ => ⟨⟨by omega, b2, fun hf' => (L y0 hy0).1 hf'⟩, fun y hy => (L y hy).2⟩)
  · have e : opL n b s m s m it (n + 1) (it p) = it p := by
      unfold opL
      rw [if_neg c]
    rw [e]
    exact ⟨h1.1, fun h => absurd h c⟩
theorem CC_and {n : Nat} {b : Nat → Nat} (T : TV n b) {r : Nat} (hr : r ≤ 6) (h : CCr n b r 4 (6 * (6 - r) + 2) (UN n b r)) : CCr n b r 2 (6 * (6 - r) + 1) (opG n b 38 10 38 10 (UN n b r)) := CC_opG T (Or.inl ⟨rfl, rfl⟩) (by omega) (PF_UN r) (CC_3 T h)
theorem CC_cond {n : Nat} {b : Nat → Nat} (T : TV n b) {r : Nat} (hr : r ≤ 6) (h : CCr n b r 4 (6 * (6 - r) + 2) (UN n b r)) : CCr n b r 1 (6 * (6 - r)) (condG n b (UN n b r)) := CC_opG T (Or.inr ⟨rfl, rfl⟩) (by omega) (fun q hq => PF_opG (by decide) (by decide) (okAnd 38 10 (Or.inl ⟨rfl, rfl⟩)) (PF_UN r) hq) (CC_and T hr h)
/-- a comparison as a unit -/
theorem CC_plain {n : Nat} {b : Nat → Nat} (T : TV n b) {r : Nat} (hr : r ≤ 6) {p : Nat} {C S : List Int} {par : Int} (hp : p ≤ n) (hC : C.length + S.length < p) (hS : S.length ≤ 6 * (6 - r) + 2) (ht : tr S < 4) (h33 : ¬ sg n b (skp n b p) = 33) (h40 : ¬ sg n b (skp n b p) = 40) : Out n (OS n b p C S (6 - (r : Int)) par 0 true false false true false) p (cmpP n b (SU n b r) (SU n b r p)) (CY n b r 4 (cmpP n b (SU n b r) (SU n b r p)) C S par) := by
  have h1 := AC_SU T hr p C S par 0 true false true false hp hC (by omega) (by omega) (Int.le_refl 0) (fun _ => ⟨h40, h33⟩)
  have hq := PF_SU (b := b) r hp
  by_cases c : (SU n b r p).2.1 = -1
  · obtain ⟨b1, b2, b3, b4, b5⟩ := hq.1 c
    have L := fun mu hx => CC_cmp T hr (a := SU n b r p) (C := C) (S := S) (par := par) (mu := mu) (cn := true) c b2 (by omega) hS ht (Or.inl rfl) hx
    obtain ⟨j0, y0, _, ⟨_, hy0⟩, _⟩ := h1.2 c
    refine Out_then hp h1 (fun h => absurd c h) (fun _ => ⟨⟨by omega, b2, fun hf' => (L false hy0).1 hf'⟩, fun y hy => ?_⟩)
    obtain ⟨⟨mu', rfl⟩, y2⟩ := hy
    exact (L mu' y2).2
  · have e : cmpP n b (SU n b r) (SU n b r p) = SU n b r p := by
      unfold cmpP
      rw [if_neg c]
    rw [e]
    exact ⟨h1.1, fun h => absurd h c⟩
theorem CC_UN {n : Nat} {b : Nat → Nat} (T : TV n b) (r : Nat) : r ≤ 6 → CCr n b r 4 (6 * (6 - r) + 2) (UN n b r) := by
  have n240 := T.1
  induction r with
  | zero =>
    intro _ p C S par cn hp hC hS ht hpar hcn
    unfold UN
    by_cases c : sg n b (skp n b p) = 33 ∨ sg n b (skp n b p) = 40
    · rw [if_pos c]
      refine Out_bad fun k => ?_
      show mRun n b (k + 1) true p C S (6 - ((0 : Nat) : Int)) par 0 true false false cn false = _
      unfold mRun
      rw [if_neg (show ¬ (48 ≤ sg n b (skp n b p) ∧ sg n b (skp n b p) ≤ 57) by omega), if_pos (by rcases c with e | e <;> (rw [e]; decide)), if_neg (by decide)]
    · rw [if_neg c]
      have : cn = true := by
        cases cn with
        | true => rfl
        | false => exact absurd (hcn rfl) c
      subst this
      exact CC_plain T (by decide) hp hC hS ht (fun h => c (Or.inl h)) (fun h => c (Or.inr h))
  | succ r ih =>
    intro hr p C S par cn hp hC hS ht hpar hcn
    have ih := ih (by omega)
    have sk := skp_b (b := b) hp
    have hd : (6 : Int) - ((r + 1 : Nat) : Int) + 1 = 6 - (r : Int) := by omega
    have hd' : (6 : Int) - (r : Int) - 1 = 6 - ((r + 1 : Nat) : Int) := by omega
    have hlt6 : (6 : Int) - ((r + 1 : Nat) : Int) < 6 := by omega
    unfold UN
    by_cases c : sg n b (skp n b p) = 33
    · have hlt : skp n b p < n := sg_lt (b := b) (by rw [c]; decide)
      rw [if_pos c]
      have step : ∀ k, OS n b p C S (6 - ((r + 1 : Nat) : Int)) par 0 true false false cn false (k + 1 + 1) = OS n b (skp n b p + 1) C (33 :: S) (6 - (r : Int)) par 0 true false false true false (k + 1) := fun k => by
        show mRun n b (k + 1 + 1) true p C S (6 - ((r + 1 : Nat) : Int)) par 0 true false false cn false = mRun n b (k + 1) true (skp n b p + 1) C (33 :: S) (6 - (r : Int)) par 0 true false false true false
        conv => lhs; unfold mRun
        have mp : mPu S 33 = 33 :: S := by unfold mPu; rw [if_pos (by omega)]
        rw [if_neg (show ¬ (48 ≤ sg n b (skp n b p) ∧ sg n b (skp n b p) ≤ 57) by omega), c, if_pos (by decide), if_pos hlt6, if_neg (by decide), if_neg (by decide), if_pos ⟨rfl, rfl⟩, mp, hd]
      have hq := PF_UN (n := n) (b := b) r (skp n b p + 1) (by omega)
      have h1 := ih (skp n b p + 1) C (33 :: S) par true (by omega) (by rw [List.length_cons]; omega) (by rw [List.length_cons]; omega) (show rk 33 < 4 by decide) hpar (fun h => absurd h (by decide))
      obtain ⟨a, ea⟩ : ∃ a, a = UN n b r (skp n b p + 1) := ⟨_, rfl⟩
      rw [← ea] at hq h1 ⊢
      unfold notP
      by_cases c2 : a.2.1 = -1
      · obtain ⟨b1, b2, b3, b4, b5⟩ := hq.1 c2
        rw [if_pos c2]
        refine Out_step (p1 := skp n b p + 1) (i := 1) (by omega) (by omega) (fun _ => by show _ ≤ a.1; omega) step (Out_then (by omega) h1 (fun h => absurd c2 h) (fun _ => ⟨⟨by omega, b2, fun _ => Nat.le_refl _⟩, fun y hy => ?_⟩))
        obtain ⟨mu', cl', rfl, y2⟩ := hy
        have eXe : eX (eNot a.2.2) = eX a.2.2 ++ [-33] := rfl
        refine Out_cg (y := JS n b a.1 (C ++ eX (eNot a.2.2)) S (6 - ((r + 1 : Nat) : Int)) par 0 mu' true cl' true false) (fun k => ?_) (Out_here rfl ⟨mu', cl', rfl, y2⟩)
        have r33 : rk 33 = 3 := by decide
        rw [J_red (by rw [List.length_append]; omega) (by
          rcases y2 with h | h
          · exact Or.inl h
          · right
            have := jrk_b (sg n b (skp n b a.1))
            omega), if_pos rfl, eXe, List.append_assoc, hd']
      · rw [if_neg c2]
        exact Out_step (p1 := skp n b p + 1) (i := 1) (by omega) (by omega) (fun h => absurd h c2) step ⟨h1.1, fun h => absurd h c2⟩
    · rw [if_neg c]
      by_cases c40 : sg n b (skp n b p) = 40
      · have hlt : skp n b p < n := sg_lt (b := b) (by rw [c40]; decide)
        rw [if_pos c40]
        have step : ∀ k, OS n b p C S (6 - ((r + 1 : Nat) : Int)) par 0 true false false cn false (k + 1 + 1) = OS n b (skp n b p + 1) C (40 :: S) (6 - (r : Int)) (par + 1) 0 true false false true false (k + 1) := fun k => by
          show mRun n b (k + 1 + 1) true p C S (6 - ((r + 1 : Nat) : Int)) par 0 true false false cn false = mRun n b (k + 1) true (skp n b p + 1) C (40 :: S) (6 - (r : Int)) (par + 1) 0 true false false true false
          conv => lhs; unfold mRun
          have mp : mPu S 40 = 40 :: S := by unfold mPu; rw [if_pos (by omega)]
          rw [if_neg (show ¬ (48 ≤ sg n b (skp n b p) ∧ sg n b (skp n b p) ≤ 57) by omega), c40, if_pos (by decide), if_pos hlt6, if_neg (by decide), if_pos ⟨rfl, rfl⟩, mp, hd]
        have hq := PF_cond (b := b) (u := UN n b r) (PF_UN r) (show skp n b p + 1 ≤ n by omega)
        have h1 := CC_cond T (by omega) ih (skp n b p + 1) C (40 :: S) (par + 1) true (by omega) (by rw [List.length_cons]; omega) (by rw [List.length_cons]; omega) (show rk 40 < 1 by decide) (by omega) (fun h => absurd h (by decide))
        obtain ⟨a, ea⟩ : ∃ a, a = condG n b (UN n b r) (skp n b p + 1) := ⟨_, rfl⟩
        rw [← ea] at hq h1 ⊢
        unfold clo
        by_cases c2 : a.2.1 = -1
        · obtain ⟨b1, b2, b3, b4, b5⟩ := hq.1 c2
          have sk2 := skp_b (b := b) b2
          rw [if_pos c2]
          by_cases c41 : sg n b (skp n b a.1) = 41
          · have hlt2 : skp n b a.1 < n := sg_lt (b := b) (by rw [c41]; decide)
            rw [if_pos c41]
            refine Out_step (p1 := skp n b p + 1) (i := 1) (by omega) (by omega) (fun _ => by show _ ≤ skp n b a.1 + 1; omega) step (Out_then (by omega) h1 (fun h => absurd c2 h) (fun _ => ⟨⟨by omega, b2, fun _ => by show a.1 ≤ skp n b a.1 + 1; omega⟩, fun y hy => ?_⟩))
            obtain ⟨mu', cl', rfl, y2⟩ := hy
            refine Out_step (p1 := skp n b a.1 + 1) (i := 1) (y := JS n b (skp n b a.1 + 1) (C ++ eX a.2.2) S (6 - ((r + 1 : Nat) : Int)) par 0 mu' true true true false) (by omega) (by omega) (fun _ => Nat.le_refl _) (fun k => ?_) (Out_here rfl ⟨mu', true, rfl, ?_⟩)
            · show mRun n b (k + 1 + 1) false a.1 (C ++ eX a.2.2) (40 :: S) (6 - (r : Int)) (par + 1) 0 mu' true cl' true false = mRun n b (k + 1) false (skp n b a.1 + 1) (C ++ eX a.2.2) S (6 - ((r + 1 : Nat) : Int)) par 0 mu' true true true false
              conv => lhs; unfold mRun
              have ft : fitB 41 (par + 1) 0 true cl' true false = true := by
                unfold fitB
                rw [if_neg (by decide), if_neg (by decide), if_pos rfl, show decide (0 < par + 1) = true from decide_eq_true (by omega)]; rfl
              rw [c41, ft, if_pos rfl, if_neg (by decide), if_pos rfl, mRed_lo (show tr (40 :: S) < jrk 41 by show rk 40 < jrk 41; decide)]
              show mRun n b (k + 1) false (skp n b a.1 + 1) (C ++ eX a.2.2) S (6 - (r : Int) - 1) (par + 1 - 1) 0 mu' true true true false = _
              rw [hd', show par + 1 - 1 = par by omega]
            · show fitB (sg n b (skp n b (skp n b a.1 + 1))) par 0 true true true false = false ∨ rk (sg n b (skp n b (skp n b a.1 + 1))) < 4
              obtain ⟨s, es⟩ : ∃ s, s = sg n b (skp n b (skp n b a.1 + 1)) := ⟨_, rfl⟩
              have sw : zw s = s := by rw [es]; exact sg_w T
              rw [← es]
              by_cases hh : rk s < 4
              · exact Or.inr hh
              · left
                by_cases h4 : isS s
                · by_cases hfit : fitB s par 0 true true true false = true
                  · exact absurd (fit_cmp hfit h4) (by decide)
                  · exact Bool.eq_false_iff.mpr hfit
                · have h5 : 5 ≤ rk s := by
                    have : rk s ≠ 4 := fun e => h4 ((rk_isS sw).mp e)
                    omega
                  have h6 := (rk_hi sw).mp h5
                  unfold fitB
                  rw [if_neg (by omega), if_neg (by omega), if_neg (by omega), if_pos h6]; rfl
          · rw [if_neg c41]
            refine Out_step (p1 := skp n b p + 1) (i := 1) (by omega) (by omega) (fun h => absurd (show (skp n b a.1 : Int) = -1 from h) (by omega)) step (Out_then (by omega) h1 (fun h => absurd c2 h) (fun _ => ⟨⟨by omega, b2, fun _ => sk2.1⟩, fun y hy => ?_⟩))
            obtain ⟨mu', cl', rfl, y2⟩ := hy
            refine Out_bad fun k => J_bad ?_ k
            rcases y2 with h | h
            · exact h
            · obtain ⟨s, es⟩ : ∃ s, s = sg n b (skp n b a.1) := ⟨_, rfl⟩
              have sw : zw s = s := by rw [es]; exact sg_w T
              rw [← es] at h c41 ⊢
              have n2 : ¬ (s = 38 ∨ s = 124) := fun hh => by rcases hh with rfl | rfl <;> (revert h; decide)
              have n4 : ¬ (s = 42 ∨ s = 43 ∨ s = 45 ∨ s = 47) := fun hh => by have := (rk_hi sw).mpr hh; omega
              have n5 : ¬ isS s := fun hh => by have := (rk_isS sw).mpr hh; omega
              unfold fitB
              by_cases d1 : s = -1 ∨ s = 59
              · rw [if_pos d1]; rfl
              · rw [if_neg d1, if_neg n2, if_neg c41, if_neg n4, if_neg n5]
                by_cases d6 : s = 63
                · rw [if_pos d6, show decide (par + 1 = 0) = false from decide_eq_false (by omega)]; rfl
                · rw [if_neg d6]
                  by_cases d7 : s = 93
                  · rw [if_pos d7]; rfl
                  · rw [if_neg d7]
        · rw [if_neg c2]
          exact Out_step (p1 := skp n b p + 1) (i := 1) (by omega) (by omega) (fun h => absurd h c2) step ⟨h1.1, fun h => absurd h c2⟩
      · rw [if_neg c40]
        have : cn = true := by
          cases cn with
          | true => rfl
          | false => rcases hcn rfl with h | h
                     · exact absurd h c
                     · exact absurd h c40
        subst this
        exact CC_plain T hr hp hC hS ht c c40
