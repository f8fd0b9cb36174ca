/-! the machine reads conditions -/
/-- what holds behind a whole unit: no sign of more than the rank τ fits -/
def CY (n : Nat) (b : Nat → Nat) (r : Nat) (τ : Int) (a : rRes) (C S : List Int) (par : Int) (y : mSt) : Prop := ∃ mu' cl', y = JS n b a.1 (C ++ eX a.2.2) S (6 - (r : Int)) par 0 mu' true cl' true false ∧ (fitB (sg n b (skp n b a.1)) par 0 true cl' true false = false ∨ rk (sg n b (skp n b a.1)) < τ)
def CCr (n : Nat) (b : Nat → Nat) (r : Nat) (τ : Int) (w : Nat) (P : Nat → rRes) : Prop := ∀ (p : Nat) (C S : List Int) (par : Int) (cn : Bool), p ≤ n → C.length + S.length < p → S.length ≤ w → tr S < τ → 0 ≤ par → (cn = false → sg n b (skp n b p) = 33 ∨ sg n b (skp n b p) = 40) → Out n (OS n b p C S (6 - (r : Int)) par 0 true false false cn false) p (P p) (CY n b r τ (P p) C S par)
theorem rk_isS {c : Int} (hc : zw c = c) : rk c = 4 ↔ isS c := by
  have := rk_v hc
  rw [this]
  constructor
  · intro h
    repeat' (split at h)
    all_goals (first | omega | (unfold isS; omega))
  · intro h
    rcases h with rfl | rfl | rfl <;> decide
theorem rk_hi {c : Int} (hc : zw c = c) : 5 ≤ rk c ↔ c = 42 ∨ c = 43 ∨ c = 45 ∨ c = 47 := by
  have := rk_v hc
  rw [this]
  constructor
  · intro h
    repeat' (split at h)
    all_goals omega
  · intro h
    rcases h with rfl | rfl | rfl | rfl <;> decide
theorem rk_33 {c : Int} (hc : zw c = c) : rk c = 3 ↔ c = 33 := by
  have := rk_v hc
  rw [this]
  constructor
  · intro h
    repeat' (split at h)
    all_goals omega
  · intro h
    subst h; decide
/-- a condition's signs -/
def sgC (ρ s : Int) : Prop := (ρ = 2 ∧ s = 38) ∨ (ρ = 1 ∧ s = 124)
theorem rk_C {ρ s c : Int} (hs : sgC ρ s) (hc : zw c = c) : rk c = ρ ↔ c = s := by
  have := rk_v hc
  rw [this]
  rcases hs with ⟨rfl, rfl⟩ | ⟨rfl, rfl⟩
  · constructor
    · intro h
      repeat' (split at h)
      all_goals omega
    · intro h
      subst h; decide
  · constructor
    · intro h
      repeat' (split at h)
      all_goals omega
    · intro h
      subst h; decide
theorem fit_cmp {s par br : Int} {cp cl cn as' : Bool} (h : fitB s par br cp cl cn as' = true) (h4 : isS s) : cp = false := by
  unfold fitB at h
  have n1 : ¬ (s = -1 ∨ s = 59) := by unfold isS at h4; omega
  have n2 : ¬ (s = 38 ∨ s = 124) := by unfold isS at h4; omega
  have n3 : ¬ s = 41 := by unfold isS at h4; omega
  have n4 : ¬ (s = 42 ∨ s = 43 ∨ s = 45 ∨ s = 47) := by unfold isS at h4; omega
  rw [if_neg n1, if_neg n2, if_neg n3, if_neg n4, if_pos h4] at h
  cases cp with
  | false => rfl
  | true => cases as' <;> simp at h
/-- a comparison, from its left side on -/
theorem CC_cmp {n : Nat} {b : Nat → Nat} (T : TV n b) {r : Nat} (hr : r ≤ 6) {a : rRes} {C S : List Int} {par : Int} {mu cn : Bool} (hf : a.2.1 = -1) (ha : a.1 ≤ n) (hC : C.length + (eX a.2.2).length + S.length < a.1) (hS : S.length ≤ 6 * (6 - r) + 2) (ht : tr S < 4) (hcn : cn = true ∨ isS (sg n b (skp n b a.1))) (hx : fitB (sg n b (skp n b a.1)) par 0 false false cn false = false ∨ rk (sg n b (skp n b a.1)) < 5) : ((cmpP n b (SU n b r) a).2.1 = -1 → a.1 ≤ (cmpP n b (SU n b r) a).1) ∧ Out n (JS n b a.1 (C ++ eX a.2.2) S (6 - (r : Int)) par 0 mu false false cn false) a.1 (cmpP n b (SU n b r) a) (CY n b r 4 (cmpP n b (SU n b r) a) C S par) := by
  have n240 := T.1
  have sk := skp_b (b := b) ha
  unfold cmpP
  rw [if_pos hf]
  obtain ⟨s, es⟩ : ∃ s, s = sg n b (skp n b a.1) := ⟨_, rfl⟩
  have sw : zw s = s := by rw [es]; exact sg_w T
  by_cases c1 : isS (sg n b (skp n b a.1))
  · have hlt : skp n b a.1 < n := sg_lt (b := b) (fun e => by rw [e] at c1; revert c1; decide)
    rw [if_pos c1]
    rw [← es] at c1
    have r4 := (rk_isS sw).mpr c1
    have hq := PF_SU (b := b) r (show skp n b a.1 + 1 ≤ n by omega)
    have h1 := AC_SU T hr (skp n b a.1 + 1) (C ++ eX a.2.2) (s :: S) par 0 false true true false (by omega) (by rw [List.length_append, List.length_cons]; omega) (by rw [List.length_cons]; omega) (by show rk s < 5; omega) (Int.le_refl 0) (fun h => absurd h (by decide))
    have step : ∀ k, JS n b a.1 (C ++ eX a.2.2) S (6 - (r : Int)) par 0 mu false false cn false (k + 1 + 1) = OS n b (skp n b a.1 + 1) (C ++ eX a.2.2) (s :: S) (6 - (r : Int)) par 0 false true false true false (k + 1) := fun k => by
      show mRun n b (k + 1 + 1) false a.1 (C ++ eX a.2.2) S (6 - (r : Int)) par 0 mu false false cn false = mRun n b (k + 1) true (skp n b a.1 + 1) (C ++ eX a.2.2) (s :: S) (6 - (r : Int)) par 0 false true false true false
      conv => lhs; unfold mRun
      rw [← es]
      have ft : fitB s par 0 false false cn false = true := by
        unfold fitB
        unfold isS at c1
        rw [if_neg (by omega), if_neg (by omega), if_neg (by omega), if_neg (by omega), if_pos c1]; rfl
      have jr : jrk s = 4 := by unfold jrk; rw [r4, if_neg (by decide)]
      have c1' := c1
      unfold isS at c1'
      rw [ft, if_pos rfl, if_neg (by omega), if_neg (by omega), if_neg (by omega), if_neg (by omega), if_pos c1, jr, mRed_lo ht]
      have mp : mPu S s = s :: S := by unfold mPu; rw [if_pos (by omega)]
      show mRun n b (k + 1) true (skp n b a.1 + 1) (C ++ eX a.2.2) (mPu S s) (6 - (r : Int)) par 0 false true false true false = _
      rw [mp]
    obtain ⟨c, ec⟩ : ∃ c, c = SU n b r (skp n b a.1 + 1) := ⟨_, rfl⟩
    rw [← ec] at hq h1 ⊢
    by_cases c2 : c.2.1 = -1
    · rw [if_pos c2]
      obtain ⟨b1, b2, b3, b4, b5⟩ := hq.1 c2
      refine ⟨fun _ => by show a.1 ≤ c.1; omega, Out_step (p1 := skp n b a.1 + 1) (i := 1) (by omega) (by omega) (fun _ => by show _ ≤ c.1; omega) step (Out_then (by omega) h1 (fun h => absurd c2 h) (fun _ => ⟨⟨by omega, b2, fun _ => Nat.le_refl _⟩, fun y hy => ?_⟩))⟩
      obtain ⟨⟨mu', rfl⟩, y2⟩ := hy
      have w2 := sg_w (p := skp n b c.1) T
      refine Out_cg (y := JS n b c.1 (C ++ eX (eBin (sg n b (skp n b a.1)) (mS (sg n b (skp n b a.1))) a.2.2 c.2.2)) S (6 - (r : Int)) par 0 mu' true false true false) (fun k => ?_) (Out_here rfl ⟨mu', false, rfl, ?_⟩)
      · have eXe : eX (eBin (sg n b (skp n b a.1)) (mS (sg n b (skp n b a.1))) a.2.2 c.2.2) = eX a.2.2 ++ (eX c.2.2 ++ [-s]) := by rw [es]; rfl
        rw [J_red (by rw [List.length_append, List.length_append]; omega) (by
          rcases y2 with h | h
          · exact Or.inl h
          · right
            have := jrk_b (sg n b (skp n b c.1))
            omega), if_neg (by intro h; rw [h] at c1; revert c1; decide), eXe, List.append_assoc, List.append_assoc]
      · show fitB (sg n b (skp n b c.1)) par 0 true false true false = false ∨ rk (sg n b (skp n b c.1)) < 4
        rcases y2 with h | h
        · exact Or.inl h
        · by_cases h4 : rk (sg n b (skp n b c.1)) = 4
          · left
            by_cases hfit : fitB (sg n b (skp n b c.1)) par 0 true false true false = true
            · exact absurd (fit_cmp hfit ((rk_isS w2).mp h4)) (by decide)
            · exact Bool.eq_false_iff.mpr hfit
          · right; omega
    · rw [if_neg c2]
      exact ⟨fun h => absurd h c2, Out_step (p1 := skp n b a.1 + 1) (i := 1) (by omega) (by omega) (fun h => absurd h c2) step ⟨h1.1, fun h => absurd h c2⟩⟩
  · rw [if_neg c1]
    refine ⟨fun h => absurd (show (skp n b a.1 : Int) = -1 from h) (by omega), Out_bad fun k => J_bad ?_ k⟩
    have hcn' : cn = true := by
      rcases hcn with h | h
      · exact h
      · exact absurd h c1
    subst hcn'
    rcases hx with h | h
    · exact h
    · rw [← es] at h c1 ⊢
      have nh : ¬ (s = 42 ∨ s = 43 ∨ s = 45 ∨ s = 47) := fun hh => by have := (rk_hi sw).mpr hh; omega
      unfold fitB
      by_cases d1 : s = -1 ∨ s = 59
      · rw [if_pos d1]; rfl
      · rw [if_neg d1]
        by_cases d2 : s = 38 ∨ s = 124
        · rw [if_pos d2]; rfl
        · rw [if_neg d2]
          by_cases d3 : s = 41
          · rw [if_pos d3]; rfl
          · rw [if_neg d3, if_neg nh, if_neg c1]
            by_cases d6 : s = 63
            · rw [if_pos d6]; rfl
            · rw [if_neg d6]
              by_cases d7 : s = 93
              · rw [if_pos d7]; rfl
              · rw [if_neg d7]
/-- units joined by & or by |, behind the first -/
theorem CC_opL {n : Nat} {b : Nat → Nat} (T : TV n b) {r w : Nat} {ρ s m : Int} (hs : sgC ρ s) (hw : w < 47) {it : Nat → rRes} {B : Nat} (hP : ∀ q, q ≤ n → PF n B OKb q (it q)) (hi : CCr n b r (ρ + 1) (w + 1) it) (k : Nat) : ∀ (a : rRes) (C S : List Int) (par : Int) (y : mSt), a.2.1 = -1 → a.1 ≤ n → n < a.1 + k → C.length + (eX a.2.2).length + S.length < a.1 → S.length ≤ w → tr S < ρ → 0 ≤ par → CY n b r (ρ + 1) a C S par y → ((opL n b s m s m it k a).2.1 = -1 → a.1 ≤ (opL n b s m s m it k a).1) ∧ Out n y a.1 (opL n b s m s m it k a) (CY n b r ρ (opL n b s m s m it k a) C S par) := by
  have n240 := T.1
  have hρ : 1 ≤ ρ ∧ ρ ≤ 2 := by rcases hs with h | h <;> omega
  have hss : s = 38 ∨ s = 124 := by rcases hs with h | h <;> omega
  induction k with
  | zero => intro a C S par y hf ha hk; omega
  | succ k ih =>
    intro a C S par y hf ha hk hC hS ht hpar hy
    have sk := skp_b (b := b) ha
    obtain ⟨mu, cl, rfl, hx⟩ := hy
    unfold opL
    rw [if_pos hf]
    by_cases c1 : sg n b (skp n b a.1) = s ∨ sg n b (skp n b a.1) = s
    · rw [if_pos c1]
      have c1 : sg n b (skp n b a.1) = s := by rcases c1 with h | h <;> exact h
      have hlt : skp n b a.1 < n := sg_lt (b := b) (by omega)
      have rs : rk s = ρ := (rk_C hs (by rw [← c1]; exact sg_w T)).mpr rfl
      have hq := hP (skp n b a.1 + 1) (by omega)
      have hit := hi (skp n b a.1 + 1) (C ++ eX a.2.2) (s :: S) par true (by omega) (by rw [List.length_append, List.length_cons]; omega) (by rw [List.length_cons]; omega) (by show rk s < ρ + 1; omega) hpar (fun h => absurd h (by decide))
      have step : ∀ k, JS n b a.1 (C ++ eX a.2.2) S (6 - (r : Int)) par 0 mu true cl true false (k + 1 + 1) = OS n b (skp n b a.1 + 1) (C ++ eX a.2.2) (s :: S) (6 - (r : Int)) par 0 true false false true false (k + 1) := fun k => by
        show mRun n b (k + 1 + 1) false a.1 (C ++ eX a.2.2) S (6 - (r : Int)) par 0 mu true cl true false = mRun n b (k + 1) true (skp n b a.1 + 1) (C ++ eX a.2.2) (s :: S) (6 - (r : Int)) par 0 true false false true false
        conv => lhs; unfold mRun
        rw [c1]
        have ft : fitB s par 0 true cl true false = true := by
          unfold fitB
          rw [if_neg (by omega), if_pos hss]; rfl
        have nS : ¬ isS s := by unfold isS; omega
        have jr : jrk s = ρ := by unfold jrk; rw [rs, if_neg (by omega)]
        rw [ft, if_pos rfl, if_neg (by omega), if_neg (by omega), if_neg (by omega), if_neg (by omega), if_neg nS, if_pos hss, jr, mRed_lo ht]
        have mp : mPu S s = s :: S := by unfold mPu; rw [if_pos (by omega)]
        show mRun n b (k + 1) true (skp n b a.1 + 1) (C ++ eX a.2.2) (mPu S s) (6 - (r : Int)) par 0 true false false true false = _
        rw [mp]
      by_cases c2 : (it (skp n b a.1 + 1)).2.1 = -1
      · rw [if_pos c2]
        obtain ⟨b1, b2, b3, b4, b5⟩ := hq.1 c2
        obtain ⟨e', ee'⟩ : ∃ e', e' = eBin (sg n b (skp n b a.1)) (if sg n b (skp n b a.1) = s then m else m) a.2.2 (it (skp n b a.1 + 1)).2.2 := ⟨_, rfl⟩
        rw [← ee']
        have eXe : eX e' = eX a.2.2 ++ (eX (it (skp n b a.1 + 1)).2.2 ++ [-s]) := by rw [ee', c1]; rfl
        have lx : (eX e').length = (eX a.2.2).length + ((eX (it (skp n b a.1 + 1)).2.2).length + 1) := by rw [eXe, List.length_append, List.length_append, List.length_singleton]
        have fin : ∀ y, CY n b r (ρ + 1) ((it (skp n b a.1 + 1)).1, -1, e') C S par y → _ := fun y hy => ih ((it (skp n b a.1 + 1)).1, -1, e') C S par y rfl b2 (by show n < (it (skp n b a.1 + 1)).1 + k; omega) (by show C.length + (eX e').length + S.length < (it (skp n b a.1 + 1)).1; omega) hS ht hpar hy
        have conv1 : ∀ y, CY n b r (ρ + 1) (it (skp n b a.1 + 1)) (C ++ eX a.2.2) (s :: S) par y → ∃ z, CY n b r (ρ + 1) ((it (skp n b a.1 + 1)).1, -1, e') C S par z ∧ ∀ k, y (k + 1) = z (k + 1) := fun y hy => by
          obtain ⟨mu', cl', rfl, y2⟩ := hy
          refine ⟨JS n b (it (skp n b a.1 + 1)).1 (C ++ eX e') S (6 - (r : Int)) par 0 mu' true cl' true false, ⟨mu', cl', rfl, y2⟩, fun k => ?_⟩
          rw [J_red (by rw [List.length_append, List.length_append]; omega) (by
            rcases y2 with h | h
            · exact Or.inl h
            · right
              have := jrk_b (sg n b (skp n b (it (skp n b a.1 + 1)).1))
              omega), if_neg (by omega), eXe, List.append_assoc, List.append_assoc]
        have le : ∀ y, CY n b r (ρ + 1) (it (skp n b a.1 + 1)) (C ++ eX a.2.2) (s :: S) par y → (opL n b s m s m it k ((it (skp n b a.1 + 1)).1, -1, e')).2.1 = -1 → (it (skp n b a.1 + 1)).1 ≤ (opL n b s m s m it k ((it (skp n b a.1 + 1)).1, -1, e')).1 := fun y hy hf' => by
          obtain ⟨z, z1, _⟩ := conv1 y hy
          exact (fin z z1).1 hf'
        obtain ⟨j0, y0, _, hy0, _⟩ := hit.2 c2
        refine ⟨fun hf' => ?_, ?_⟩
        · have := le y0 hy0 hf'
          omega
        · refine Out_step (p1 := skp n b a.1 + 1) (i := 1) (by omega) (by omega) (fun hf' => ?_) step (Out_then (by omega) hit (fun h => absurd c2 h) (fun _ => ⟨⟨by omega, b2, fun hf' => le y0 hy0 hf'⟩, fun y hy => ?_⟩))
          · have := le y0 hy0 hf'
            omega
          · obtain ⟨z, z1, z2⟩ := conv1 y hy
            exact Out_cg z2 (fin z z1).2
      · rw [if_neg c2]
        exact ⟨fun h => absurd h c2, Out_step (p1 := skp n b a.1 + 1) (i := 1) (by omega) (by omega) (fun h => absurd h c2) step ⟨hit.1, fun h => absurd h c2⟩⟩
    · rw [if_neg c1]
      refine ⟨fun _ => Nat.le_refl _, Out_here hf ⟨mu, cl, rfl, ?_⟩⟩
      rcases hx with h | h
      · exact Or.inl h
      · right
        have : rk (sg n b (skp n b a.1)) ≠ ρ := fun e => c1 (Or.inl ((rk_C hs (sg_w T)).mp e))
        omega
