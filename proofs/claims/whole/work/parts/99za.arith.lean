/-! the machine reads sums -/
def ACr (n : Nat) (b : Nat → Nat) (r : Nat) (τ : Int) (w : Nat) (P : Nat → rRes) : Prop := ∀ (p : Nat) (C S : List Int) (par br : Int) (mu cp cn as' : Bool), p ≤ n → C.length + S.length < p → S.length ≤ w → tr S < τ → 0 ≤ br → (mu = true → sg n b (skp n b p) ≠ 40 ∧ sg n b (skp n b p) ≠ 33) → Out n (OS n b p C S (6 - (r : Int)) par br mu cp false cn as') p (P p) (fun y => (∃ mu', y = JS n b (P p).1 (C ++ eX (P p).2.2) S (6 - (r : Int)) par br mu' cp false cn as') ∧ (fitB (sg n b (skp n b (P p).1)) par br cp false cn as' = false ∨ rk (sg n b (skp n b (P p).1)) < τ))
theorem ltr_0 {c : Int} (h : ¬ ltr c = -1) : c ≠ -1 := fun e => h (by rw [e]; exact ltr_m1)
theorem AC_atB {n : Nat} {b : Nat → Nat} (T : TV n b) {r : Nat} {w : Nat} {inner : Nat → rRes} (hi : ∀ (p : Nat) (C S : List Int) (par br : Int) (mu cp cn as' : Bool), p ≤ n → C.length + S.length < p → S.length ≤ w → 0 ≤ br → sg n b (skp n b p) = 91 → Out n (OS n b p C S (6 - (r : Int)) par br mu cp false cn as') p (inner (skp n b p)) (fun y => ∃ mu', y = JS n b (inner (skp n b p)).1 (C ++ eX (inner (skp n b p)).2.2) S (6 - (r : Int)) par br mu' cp false cn as')) : ACr n b r 7 w (atB n b inner) := by
  intro p C S par br mu cp cn as' hp hC hw ht hbr hmu
  have n240 := T.1
  have sk := skp_b (b := b) hp
  have rb := fun c => rk_b c
  have em : ∀ v, mEm C v = C ++ [v] := fun v => by unfold mEm; rw [if_pos (by omega)]
  unfold atB
  by_cases c0 : dgp n b (skp n b p)
  · rw [if_pos c0]
    obtain ⟨d1, d2, d3, d4⟩ := dg4_b c0
    by_cases c : dgp n b (dg4 n b (skp n b p)).1
    · rw [if_pos c]
      refine Out_bad fun k => ?_
      show mRun n b (k + 1) true p C S (6 - (r : Int)) par br mu cp false cn as' = _
      unfold mRun
      rw [if_pos c0, if_pos c]
    · rw [if_neg c]
      refine Out_step (p1 := (dg4 n b (skp n b p)).1) (i := 1) (y := JS n b (dg4 n b (skp n b p)).1 (C ++ [(dg4 n b (skp n b p)).2]) S (6 - (r : Int)) par br mu cp false cn as') (by omega) d2 (fun _ => Nat.le_refl _) (fun k => ?_) (Out_here rfl ⟨⟨mu, rfl⟩, Or.inr ?_⟩)
      · show mRun n b (k + 1 + 1) true p C S (6 - (r : Int)) par br mu cp false cn as' = mRun n b (k + 1) false _ _ _ _ _ _ _ _ _ _ _
        conv => lhs; unfold mRun
        rw [if_pos c0, if_neg c, em]
      · have := rb (sg n b (skp n b (dg4 n b (skp n b p)).1))
        show rk (sg n b (skp n b (dg4 n b (skp n b p)).1)) < 7
        omega
  · rw [if_neg c0]
    by_cases c1 : ltr (sg n b (skp n b p)) = -1
    · rw [if_pos c1]
      by_cases c2 : sg n b (skp n b p) = 91
      · rw [if_pos c2]
        refine Out_up (hi p C S par br mu cp cn as' hp hC hw hbr c2) (fun _ y hy => ⟨hy, Or.inr ?_⟩)
        have := rb (sg n b (skp n b (inner (skp n b p)).1))
        omega
      · rw [if_neg c2]
        refine Out_bad fun k => ?_
        show mRun n b (k + 1) true p C S (6 - (r : Int)) par br mu cp false cn as' = _
        unfold mRun
        have e40 : ¬ (mu = true ∧ sg n b (skp n b p) = 40) := fun h => (hmu h.1).1 h.2
        have e33 : ¬ (mu = true ∧ sg n b (skp n b p) = 33) := fun h => (hmu h.1).2 h.2
        rw [if_neg c0, if_pos c1, if_neg c2, if_neg e40, if_neg e33]
        split <;> rfl
    · rw [if_neg c1]
      have hlt : skp n b p < n := sg_lt (b := b) (ltr_0 c1)
      have lb := ltr_b (sg n b (skp n b p))
      refine Out_step (p1 := skp n b p + 1) (i := 1) (y := JS n b (skp n b p + 1) (C ++ [10000 + ltr (sg n b (skp n b p))]) S (6 - (r : Int)) par br mu cp false cn as') (by omega) (by omega) (fun _ => Nat.le_refl _) (fun k => ?_) (Out_here rfl ⟨⟨mu, ?_⟩, Or.inr ?_⟩)
      · show mRun n b (k + 1 + 1) true p C S (6 - (r : Int)) par br mu cp false cn as' = mRun n b (k + 1) false _ _ _ _ _ _ _ _ _ _ _
        conv => lhs; unfold mRun
        rw [if_neg c0, if_neg c1, em]
      · show _ = JS n b (skp n b p + 1) (C ++ [10000 + ((ltr (sg n b (skp n b p))).toNat : Int)]) S (6 - (r : Int)) par br mu cp false cn as'
        rw [Int.toNat_of_nonneg (by omega)]
      · have := rb (sg n b (skp n b (skp n b p + 1)))
        show rk (sg n b (skp n b (skp n b p + 1))) < 7
        omega
/-- a sign of the rank ρ that joins sums -/
def sgA (ρ s1 s2 : Int) : Prop := (ρ = 6 ∧ s1 = 42 ∧ s2 = 47) ∨ (ρ = 5 ∧ s1 = 43 ∧ s2 = 45)
theorem rk_A {ρ s1 s2 c : Int} (hs : sgA ρ s1 s2) (hc : zw c = c) : rk c = ρ ↔ c = s1 ∨ c = s2 := by
  have := rk_v hc
  rw [this]
  rcases hs with ⟨rfl, rfl, rfl⟩ | ⟨rfl, rfl, rfl⟩
  · constructor
    · intro h
      repeat' (split at h)
      all_goals omega
    · intro h
      rcases h with rfl | rfl <;> decide
  · constructor
    · intro h
      repeat' (split at h)
      all_goals omega
    · intro h
      rcases h with rfl | rfl <;> decide
theorem AC_opL {n : Nat} {b : Nat → Nat} (T : TV n b) {r w : Nat} {ρ s1 m1 s2 m2 : Int} (hs : sgA ρ s1 s2) (hw : w < 47) {it : Nat → rRes} {B : Nat} (hP : ∀ q, q ≤ n → PF n B OKe q (it q)) (hi : ACr n b r (ρ + 1) (w + 1) it) (k : Nat) : ∀ (a : rRes) (C S : List Int) (par br : Int) (mu cp cn as' : Bool), a.2.1 = -1 → a.1 ≤ n → n < a.1 + k → C.length + (eX a.2.2).length + S.length < a.1 → S.length ≤ w → tr S < ρ → 0 ≤ br → (fitB (sg n b (skp n b a.1)) par br cp false cn as' = false ∨ rk (sg n b (skp n b a.1)) < ρ + 1) → (a.1 ≤ (opL n b s1 m1 s2 m2 it k a).1 ∨ (opL n b s1 m1 s2 m2 it k a).2.1 ≠ -1) ∧ Out n (JS n b a.1 (C ++ eX a.2.2) S (6 - (r : Int)) par br mu cp false cn as') a.1 (opL n b s1 m1 s2 m2 it k a) (fun y => (∃ mu', y = JS n b (opL n b s1 m1 s2 m2 it k a).1 (C ++ eX (opL n b s1 m1 s2 m2 it k a).2.2) S (6 - (r : Int)) par br mu' cp false cn as') ∧ (fitB (sg n b (skp n b (opL n b s1 m1 s2 m2 it k a).1)) par br cp false cn as' = false ∨ rk (sg n b (skp n b (opL n b s1 m1 s2 m2 it k a).1)) < ρ)) := by
  have n240 := T.1
  have hρ : 5 ≤ ρ ∧ ρ ≤ 6 := by rcases hs with h | h <;> omega
  induction k with
  | zero => intro a C S par br mu cp cn as' hf ha hk; omega
  | succ k ih =>
    intro a C S par br mu cp cn as' hf ha hk hC hS ht hbr hx
    have sk := skp_b (b := b) ha
    unfold opL
    rw [if_pos hf]
    by_cases c1 : sg n b (skp n b a.1) = s1 ∨ sg n b (skp n b a.1) = s2
    · have hlt : skp n b a.1 < n := sg_lt (b := b) (by rcases c1 with e | e <;> (rw [e]; rcases hs with h | h <;> omega))
      rw [if_pos c1]
      obtain ⟨s, es⟩ : ∃ s, s = sg n b (skp n b a.1) := ⟨_, rfl⟩
      have rs : rk s = ρ := (rk_A hs (by rw [es]; exact sg_w T)).mpr (by rw [es]; exact c1)
      have s4 : s = 42 ∨ s = 47 ∨ s = 43 ∨ s = 45 := by rw [← es] at c1; rcases hs with h | h <;> omega
      have hq := hP (skp n b a.1 + 1) (by omega)
      have hit := hi (skp n b a.1 + 1) (C ++ eX a.2.2) (s :: S) par br false cp cn as' (by omega) (by rw [List.length_append, List.length_cons]; omega) (by rw [List.length_cons]; omega) (by show rk s < ρ + 1; omega) hbr (fun h => absurd h (by decide))
      -- the sign is read
      have step : ∀ k, JS n b a.1 (C ++ eX a.2.2) S (6 - (r : Int)) par br mu cp false cn as' (k + 1 + 1) = OS n b (skp n b a.1 + 1) (C ++ eX a.2.2) (s :: S) (6 - (r : Int)) par br false cp false cn as' (k + 1) := fun k => by
        show mRun n b (k + 1 + 1) false a.1 (C ++ eX a.2.2) S (6 - (r : Int)) par br mu cp false cn as' = mRun n b (k + 1) true (skp n b a.1 + 1) (C ++ eX a.2.2) (s :: S) (6 - (r : Int)) par br false cp false cn as'
        conv => lhs; unfold mRun
        rw [← es]
        have ft : fitB s par br cp false cn as' = true := by
          unfold fitB
          rw [if_neg (by omega), if_neg (by omega), if_neg (by omega), if_pos (by omega)]; rfl
        have jr : jrk s = ρ := by unfold jrk; rw [rs, if_neg (by omega)]
        rw [ft, if_pos rfl, if_neg (by omega), if_neg (by omega), if_neg (by omega), if_neg (by omega), if_neg (by omega), if_neg (by omega), jr, mRed_lo ht]
        have mp : mPu S s = s :: S := by unfold mPu; rw [if_pos (by omega)]
        show mRun n b (k + 1) true (skp n b a.1 + 1) (C ++ eX a.2.2) (mPu S s) (6 - (r : Int)) par br false cp false cn as' = _
        rw [mp]
      by_cases c2 : (it (skp n b a.1 + 1)).2.1 = -1
      · rw [if_pos c2]
        obtain ⟨b1, b2, b3, b4, b5⟩ := hq.1 c2
        have ih' := ih ((it (skp n b a.1 + 1)).1, -1, eBin (sg n b (skp n b a.1)) (if sg n b (skp n b a.1) = s1 then m1 else m2) a.2.2 (it (skp n b a.1 + 1)).2.2) C S par br
        have eXe : eX (eBin (sg n b (skp n b a.1)) (if sg n b (skp n b a.1) = s1 then m1 else m2) a.2.2 (it (skp n b a.1 + 1)).2.2) = eX a.2.2 ++ (eX (it (skp n b a.1 + 1)).2.2 ++ [-s]) := by rw [es]; rfl
        have lx : (eX (eBin (sg n b (skp n b a.1)) (if sg n b (skp n b a.1) = s1 then m1 else m2) a.2.2 (it (skp n b a.1 + 1)).2.2)).length = (eX a.2.2).length + ((eX (it (skp n b a.1 + 1)).2.2).length + 1) := by rw [eXe, List.length_append, List.length_append, List.length_singleton]
        have fin : ∀ mu' : Bool, (fitB (sg n b (skp n b (it (skp n b a.1 + 1)).1)) par br cp false cn as' = false ∨ rk (sg n b (skp n b (it (skp n b a.1 + 1)).1)) < ρ + 1) → _ := fun mu' hx' => ih' mu' cp cn as' rfl b2 (by show n < (it (skp n b a.1 + 1)).1 + k; omega) (by show C.length + (eX (eBin (sg n b (skp n b a.1)) (if sg n b (skp n b a.1) = s1 then m1 else m2) a.2.2 (it (skp n b a.1 + 1)).2.2)).length + S.length < (it (skp n b a.1 + 1)).1; omega) hS ht hbr hx'
        refine ⟨?_, ?_⟩
        · obtain ⟨j, y, j1, ⟨_, y2⟩, j3⟩ := hit.2 c2
          rcases (fin false y2).1 with h | h
          · left
            have h : (it (skp n b a.1 + 1)).1 ≤ _ := h
            omega
          · exact Or.inr h
        · refine Out_step (p1 := skp n b a.1 + 1) (i := 1) (by omega) (by omega) (fun hf' => ?_) step (Out_then (by omega) hit (fun h => absurd c2 h) (fun _ => ⟨⟨by omega, b2, fun hf' => ?_⟩, fun y hy => ?_⟩))
          · obtain ⟨j, y, j1, ⟨_, y2⟩, j3⟩ := hit.2 c2
            rcases (fin false y2).1 with h | h
            · have h : (it (skp n b a.1 + 1)).1 ≤ _ := h
              omega
            · exact absurd hf' h
          · obtain ⟨j, y, j1, ⟨_, y2⟩, j3⟩ := hit.2 c2
            rcases (fin false y2).1 with h | h
            · exact h
            · exact absurd hf' h
          · obtain ⟨⟨mu', rfl⟩, y2⟩ := hy
            refine Out_cg (fun k => ?_) (fin mu' y2).2
            rw [J_red (by rw [List.length_append, List.length_append]; omega) (by
              rcases y2 with h | h
              · exact Or.inl h
              · right
                have := jrk_b (sg n b (skp n b (it (skp n b a.1 + 1)).1))
                omega), if_neg (by omega), eXe, List.append_assoc, List.append_assoc]
      · rw [if_neg c2]
        refine ⟨Or.inr c2, ?_⟩
        exact Out_step (p1 := skp n b a.1 + 1) (i := 1) (by omega) (by omega) (fun h => absurd h c2) step ⟨hit.1, fun h => absurd h c2⟩
    · rw [if_neg c1]
      refine ⟨Or.inl (Nat.le_refl _), Out_here hf ⟨⟨mu, rfl⟩, ?_⟩⟩
      rcases hx with h | h
      · exact Or.inl h
      · right
        have : rk (sg n b (skp n b a.1)) ≠ ρ := fun e => c1 ((rk_A hs (sg_w T)).mp e)
        omega
theorem AC_opG {n : Nat} {b : Nat → Nat} (T : TV n b) {r w : Nat} {ρ s1 m1 s2 m2 : Int} (hs : sgA ρ s1 s2) (hw : w < 47) {it : Nat → rRes} {B : Nat} (hP : ∀ q, q ≤ n → PF n B OKe q (it q)) (hi : ACr n b r (ρ + 1) (w + 1) it) : ACr n b r ρ w (opG n b s1 m1 s2 m2 it) := by
  intro p C S par br mu cp cn as' hp hC hS ht hbr hmu
  have h1 := hi p C S par br mu cp cn as' hp hC (by omega) (by omega) hbr hmu
  have hq := hP p hp
  unfold opG
  by_cases c : (it p).2.1 = -1
  · obtain ⟨b1, b2, b3, b4, b5⟩ := hq.1 c
    have L := fun mu' hx => AC_opL T (m1 := m1) (m2 := m2) hs hw hP hi (n + 1) (it p) C S par br mu' cp cn as' c b2 (by omega) (by omega) hS ht hbr hx
    obtain ⟨j, y, j1, ⟨_, y2⟩, j3⟩ := h1.2 c
    refine Out_then hp h1 (fun h => absurd c h) (fun _ => ⟨⟨by omega, b2, fun hf' => ?_⟩, fun y hy => ?_⟩)
    · rcases (L false y2).1 with h | h
      · exact h
      · exact absurd hf' h
    · obtain ⟨⟨mu', rfl⟩, y2⟩ := hy
      exact (L mu' y2).2
  · have e : opL n b s1 m1 s2 m2 it (n + 1) (it p) = it p := by
      unfold opL
      rw [if_neg c]
    rw [e]
    exact ⟨h1.1, fun h => absurd h c⟩
theorem AC_smm {n : Nat} {b : Nat → Nat} (T : TV n b) {r w : Nat} (hw : w < 46) {at' : Nat → rRes} {B : Nat} (hP : ∀ q, q ≤ n → PF n B OKe q (at' q)) (hi : ACr n b r 7 (w + 2) at') : ACr n b r 5 w (smm n b at') := by
  have h6 : ACr n b r 6 (w + 1) (trm n b at') := AC_opG T (Or.inl ⟨rfl, rfl, rfl⟩) (by omega) hP hi
  exact AC_opG T (Or.inr ⟨rfl, rfl, rfl⟩) (by omega) (fun q hq => PF_trm hP hq) h6
theorem AC_AT {n : Nat} {b : Nat → Nat} (T : TV n b) (r : Nat) : r ≤ 6 → ACr n b r 7 (6 * (6 - r) + 5) (AT n b r) := by
  have n240 := T.1
  induction r with
  | zero =>
    intro _
    refine AC_atB T (fun p C S par br mu cp cn as' hp hC hw hbr h91 => ?_)
    refine Out_bad fun k => ?_
    show mRun n b (k + 1) true p C S (6 - ((0 : Nat) : Int)) par br mu cp false cn as' = _
    unfold mRun
    rw [if_neg (show ¬ (48 ≤ sg n b (skp n b p) ∧ sg n b (skp n b p) ≤ 57) by omega), if_pos (by rw [h91]; decide), if_neg (by decide)]
  | succ r ih =>
    intro hr
    have ih := ih (by omega)
    have hS : ACr n b r 5 (6 * (6 - r) + 3) (smm n b (AT n b r)) := AC_smm T (by omega) (PF_AT r) ih
    refine AC_atB T (fun p C S par br mu cp cn as' hp hC hw hbr h91 => ?_)
    have hlt : skp n b p < n := sg_lt (b := b) (by rw [h91]; decide)
    have sk := skp_b (b := b) hp
    have hq := PF_smm (b := b) (at' := AT n b r) (PF_AT r) (show skp n b p + 1 ≤ n by omega)
    have h1 := hS (skp n b p + 1) C (91 :: S) par (br + 1) false cp cn as' (by omega) (by rw [List.length_cons]; omega) (by rw [List.length_cons]; omega) (show rk 91 < 5 by decide) (by omega) (fun h => absurd h (by decide))
    obtain ⟨a, ea⟩ : ∃ a, a = smm n b (AT n b r) (skp n b p + 1) := ⟨_, rfl⟩
    rw [← ea] at h1 hq ⊢
    have step : ∀ k, OS n b p C S (6 - ((r + 1 : Nat) : Int)) par br mu cp false cn as' (k + 1 + 1) = OS n b (skp n b p + 1) C (91 :: S) (6 - (r : Int)) par (br + 1) false cp false cn as' (k + 1) := fun k => by
      show mRun n b (k + 1 + 1) true p C S (6 - ((r + 1 : Nat) : Int)) par br mu cp false cn as' = mRun n b (k + 1) true (skp n b p + 1) C (91 :: S) (6 - (r : Int)) par (br + 1) false cp false cn as'
      conv => lhs; unfold mRun
      rw [if_neg (show ¬ (48 ≤ sg n b (skp n b p) ∧ sg n b (skp n b p) ≤ 57) by omega), h91, if_pos (by decide), if_pos (by omega), if_pos rfl]
      unfold mPu
      rw [if_pos (by omega), show (6 - ((r + 1 : Nat) : Int)) + 1 = 6 - (r : Int) by omega]
    have hlen : (6 : Int) - ((r + 1 : Nat) : Int) = 6 - (r : Int) - 1 := by omega
    show Out n _ p (clo n b 93 a) _
    by_cases c : a.2.1 = -1
    · obtain ⟨b1, b2, b3, b4, b5⟩ := hq.1 c
      have sk2 := skp_b (b := b) b2
      unfold clo
      rw [if_pos c]
      by_cases c2 : sg n b (skp n b a.1) = 93
      · have hlt2 : skp n b a.1 < n := sg_lt (b := b) (by rw [c2]; decide)
        rw [if_pos c2]
        refine Out_step (p1 := skp n b p + 1) (i := 1) (by omega) (by omega) (fun _ => by show skp n b p + 1 ≤ skp n b a.1 + 1; omega) step (Out_then (by omega) h1 (fun h => absurd c h) (fun _ => ⟨⟨by omega, b2, fun _ => by show a.1 ≤ skp n b a.1 + 1; omega⟩, fun y hy => ?_⟩))
        obtain ⟨⟨mu', rfl⟩, y2⟩ := hy
        refine Out_step (p1 := skp n b a.1 + 1) (i := 1) (y := JS n b (skp n b a.1 + 1) (C ++ eX a.2.2) S (6 - ((r + 1 : Nat) : Int)) par br mu' cp false cn as') (by omega) (by omega) (fun _ => Nat.le_refl _) (fun k => ?_) (Out_here rfl ⟨mu', rfl⟩)
        show mRun n b (k + 1 + 1) false a.1 (C ++ eX a.2.2) (91 :: S) (6 - (r : Int)) par (br + 1) mu' cp false cn as' = mRun n b (k + 1) false (skp n b a.1 + 1) (C ++ eX a.2.2) S (6 - ((r + 1 : Nat) : Int)) par br mu' cp false cn as'
        conv => lhs; unfold mRun
        have ft : fitB 93 par (br + 1) cp false cn as' = true := by
          unfold fitB
          rw [if_neg (by decide), if_neg (by decide), if_neg (by decide), if_neg (by decide), if_neg (by decide), if_neg (by decide), if_pos rfl, decide_eq_true (by omega)]
        rw [c2, ft, if_pos rfl, if_neg (by decide), if_neg (by decide), if_pos rfl, mRed_lo (show tr (91 :: S) < jrk 93 by show rk 91 < jrk 93; decide), hlen]
        show mRun n b (k + 1) false (skp n b a.1 + 1) (C ++ eX a.2.2) S (6 - (r : Int) - 1) par (br + 1 - 1) mu' cp false cn as' = _
        rw [show br + 1 - 1 = br by omega]
      · rw [if_neg c2]
        refine Out_step (p1 := skp n b p + 1) (i := 1) (by omega) (by omega) (fun h => absurd (show (skp n b a.1 : Int) = -1 from h) (by omega)) step (Out_then (by omega) h1 (fun h => absurd c h) (fun _ => ⟨⟨by omega, b2, fun _ => sk2.1⟩, fun y hy => ?_⟩))
        obtain ⟨⟨mu', rfl⟩, y2⟩ := hy
        refine Out_bad fun k => J_bad ?_ k
        rcases y2 with h | h
        · exact h
        · have w := sg_w (p := skp n b a.1) T
          have rv := rk_v w
          obtain ⟨s, es⟩ : ∃ s, s = sg n b (skp n b a.1) := ⟨_, rfl⟩
          rw [← es] at h rv c2 ⊢
          unfold fitB
          have db : decide (br + 1 = 0) = false := decide_eq_false (by omega)
          rw [db]
          by_cases d1 : s = -1 ∨ s = 59
          · rw [if_pos d1]; rfl
          · rw [if_neg d1]
            by_cases d2 : s = 38 ∨ s = 124
            · rw [if_pos d2]; rfl
            · rw [if_neg d2]
              by_cases d3 : s = 41
              · rw [if_pos d3]; rfl
              · rw [if_neg d3]
                by_cases d4 : s = 42 ∨ s = 43 ∨ s = 45 ∨ s = 47
                · exfalso
                  rcases d4 with rfl | rfl | rfl | rfl <;> (revert h; decide)
                · rw [if_neg d4]
                  by_cases d5 : isS s
                  · rw [if_pos d5]; rfl
                  · rw [if_neg d5]
                    by_cases d6 : s = 63
                    · rw [if_pos d6]; rfl
                    · rw [if_neg d6, if_neg c2]
    · unfold clo
      rw [if_neg c]
      exact Out_step (p1 := skp n b p + 1) (i := 1) (by omega) (by omega) (fun h => absurd h c) step ⟨h1.1, fun h => absurd h c⟩
theorem AC_SU {n : Nat} {b : Nat → Nat} (T : TV n b) {r : Nat} (hr : r ≤ 6) : ACr n b r 5 (6 * (6 - r) + 3) (SU n b r) := AC_smm T (by omega) (PF_AT r) (AC_AT T r hr)
