/-! the reference's small steps on a state -/
theorem isM {np nd nr B : Nat} {t : Nat → Nat} {a : hSt} {g : zH} (V : HV np nd nr t) (M : HM np nd nr t g) (A : AV np nd nr t a) (S : MS np B a (g 69)) {p : Nat} (hp : p < np) {d : Nat} (hd : d < 8) : fX11_isAt (p : Int) (d : Int) g = some (if stnd t (aW a p) = d then 1 else 0) := by
  have v := V.1
  have w := (S.1 p hp).2.1
  unfold fX11_isAt
  rw [om_1 (by omega), zb_some, w]
  rcases (A.1 p hp).2 with ⟨h1, -⟩ | ⟨r, hr, h1, -⟩
  · rw [h1, if_pos rfl, show stnd t (-1) = -1 from if_pos rfl, if_neg (by omega)]
  · have hv := (V.2.2.2.2.2 r hr).1
    rw [h1, stnd_r, zw_id (show -2147483648 ≤ (r : Int) ∧ (r : Int) < 2147483648 by omega), zw_m1, if_neg (by omega), zb_some, mdesk V M hr, zb_some, zw_id (show -2147483648 ≤ (t (96 + 4 * r) : Int) ∧ (t (96 + 4 * r) : Int) < 2147483648 by omega), zw_id (show -2147483648 ≤ (d : Int) ∧ (d : Int) < 2147483648 by omega)]
    by_cases hc : (t (96 + 4 * r) : Int) = d
    · rw [if_pos hc, if_pos hc]
    · rw [if_neg hc, if_neg hc]
theorem bakM {np nd nr B : Nat} {t : Nat → Nat} {a : hSt} {g : zH} (V : HV np nd nr t) (M : HM np nd nr t g) (A : AV np nd nr t a) (S : MS np B a (g 69)) {N : Nat} (hN : 8 ≤ N) {d : Nat} (hd : d < 8) : fX11_backlog N (d : Int) g = some (aBack t d a : Int) := by
  have v := V.1
  have e0 : aBack t d a = (List.range np).countP (fun p => decide (stnd t (aW a p) = d)) := by
    have h1 := (aQ_perm A).countP_eq (fun p => decide (stnd t (aW a p) = d))
    rw [List.countP_filter] at h1
    refine h1.trans (List.countP_congr (fun p hp => ?_))
    rw [Bool.and_eq_true, decide_eq_true_iff, decide_eq_true_iff]
    refine ⟨fun x => x.1, fun x => ⟨x, fun e => ?_⟩⟩
    rw [e, show stnd t (-1) = -1 from if_pos rfl] at x
    omega
  rw [e0]
  refine zloopq (F := fun k i (s : Int) => fX11_backlog_c4 N g k (d : Int) s i) (n := np) (s := 0) (fun i s => s = ((List.range i).countP (fun p => decide (stnd t (aW a p) = d)) : Nat)) (fun b => b = some (((List.range np).countP (fun p => decide (stnd t (aW a p) = d)) : Nat) : Int)) (fun k i s hi hI => ?_) (fun k s hI => ?_) (by omega) rfl
  · have e : fX11_backlog_c4 N g (k + 1) (d : Int) s (i : Int) = if stnd t (aW a i) = d then fX11_backlog_c4 N g k (d : Int) (s + 1) ((i + 1 : Nat) : Int) else fX11_backlog_c4 N g k (d : Int) (s + 0) ((i + 1 : Nat) : Int) := by
      show fX11_backlog_c4b N g (fX11_backlog_c4 N g k) (d : Int) s (i : Int) = _
      unfold fX11_backlog_c4b
      rw [M.1.1, zw_id (show -2147483648 ≤ (np : Int) ∧ (np : Int) < 2147483648 by omega), zw_id (show -2147483648 ≤ (i : Int) ∧ (i : Int) < 2147483648 by omega), if_neg (by omega), isM V M A S hi hd, zb_some, zq]
      rfl
    left
    rw [List.range_succ, List.countP_append, List.countP_cons, List.countP_nil]
    by_cases hc : stnd t (aW a i) = d
    · rw [if_pos hc] at e
      rw [if_pos (decide_eq_true hc)]
      exact ⟨s + 1, e, by omega⟩
    · rw [if_neg hc] at e
      rw [if_neg (fun x => hc (of_decide_eq_true x))]
      exact ⟨s + 0, e, by omega⟩
  · show fX11_backlog_c4b N g (fX11_backlog_c4 N g k) (d : Int) s _ = _
    unfold fX11_backlog_c4b
    rw [M.1.1, if_pos (by omega), hI]
theorem firM {np nd nr B : Nat} {t : Nat → Nat} {a : hSt} {g : zH} (V : HV np nd nr t) (M : HM np nd nr t g) (A : AV np nd nr t a) (S : MS np B a (g 69)) (hB : B < 2000000000) {N : Nat} (hN : 8 ≤ N) {d : Nat} (hd : d < 8) : fX11_firstAt N (d : Int) g = some (oI (aFirst t d a)) := by
  have v := V.1
  have tk := S.2.2.2.1
  have ord := S.2.2.2.2.1
  have b43 := S.2.2.1
  have inq : ∀ p, p < np → stnd t (aW a p) = d → p ∈ aQ a := fun p hp hs => (A.2.2.1 p).mpr ⟨hp, fun e => by rw [e, show stnd t (-1) = -1 from if_pos rfl] at hs; omega⟩
  refine zloopq (F := fun k i (s : Int) => fX11_firstAt_c4 N g k (d : Int) s i) (n := np) (s := -1) (fun i s => (s = -1 ∧ ∀ p, p < i → stnd t (aW a p) ≠ d) ∨ ∃ p : Nat, p < i ∧ s = (p : Int) ∧ stnd t (aW a p) = d ∧ ∀ q : Nat, q < i → stnd t (aW a q) = d → g 69 (7 * p + 2) ≤ g 69 (7 * q + 2)) (fun b => b = some (oI (aFirst t d a))) (fun k i s hi hI => ?_) (fun k s hI => ?_) (by omega) (Or.inl ⟨rfl, fun _ h => absurd h (Nat.not_lt_zero _)⟩)
  · left
    have hsw : zw s = s := by
      rcases hI with ⟨rfl, -⟩ | ⟨p, hp, rfl, -⟩
      · exact zw_m1
      · exact zw_id (by omega)
    have e : fX11_firstAt_c4 N g (k + 1) (d : Int) s (i : Int) = if stnd t (aW a i) = d then (if s = -1 then fX11_firstAt_c4 N g k (d : Int) (i : Int) ((i + 1 : Nat) : Int) else zb (fX11_of (i : Int) 2 g) fun v5 => zb (fX11_of s 2 g) fun v6 => if zw v6 ≤ zw v5 then fX11_firstAt_c4 N g k (d : Int) s ((i + 1 : Nat) : Int) else fX11_firstAt_c4 N g k (d : Int) (i : Int) ((i + 1 : Nat) : Int)) else fX11_firstAt_c4 N g k (d : Int) s ((i + 1 : Nat) : Int) := by
      show fX11_firstAt_c4b N g (fX11_firstAt_c4 N g k) (d : Int) s (i : Int) = _
      unfold fX11_firstAt_c4b
      rw [M.1.1, zw_id (show -2147483648 ≤ (np : Int) ∧ (np : Int) < 2147483648 by omega), zw_id (show -2147483648 ≤ (i : Int) ∧ (i : Int) < 2147483648 by omega), if_neg (by omega), isM V M A S hi hd, zb_some, zq, hsw, zw_m1]
      rfl
    by_cases hc : stnd t (aW a i) = d
    · rw [if_pos hc] at e
      rcases hI with ⟨rfl, hno⟩ | ⟨p, hp, rfl, hpd, hmin⟩
      · rw [if_pos rfl] at e
        refine ⟨_, e, Or.inr ⟨i, by omega, rfl, hc, fun q hq hqd => ?_⟩⟩
        by_cases h2 : q = i
        · subst h2; exact Int.le_refl _
        · exact absurd hqd (hno q (by omega))
      · have t1 := tk i (inq i hi hc)
        have t2 := tk p (inq p (by omega) hpd)
        rw [if_neg (show ¬ (p : Int) = -1 by omega), om_2 (by omega), zb_some, om_2 (by omega), zb_some, zw_id (show -2147483648 ≤ g 69 (7 * p + 2) ∧ g 69 (7 * p + 2) < 2147483648 by omega), zw_id (show -2147483648 ≤ g 69 (7 * i + 2) ∧ g 69 (7 * i + 2) < 2147483648 by omega)] at e
        by_cases h3 : g 69 (7 * p + 2) ≤ g 69 (7 * i + 2)
        · rw [if_pos h3] at e
          refine ⟨_, e, Or.inr ⟨p, by omega, rfl, hpd, fun q hq hqd => ?_⟩⟩
          by_cases h2 : q = i
          · subst h2; exact h3
          · exact hmin q (by omega) hqd
        · rw [if_neg h3] at e
          refine ⟨_, e, Or.inr ⟨i, by omega, rfl, hc, fun q hq hqd => ?_⟩⟩
          by_cases h2 : q = i
          · subst h2; exact Int.le_refl _
          · have := hmin q (by omega) hqd
            omega
    · rw [if_neg hc] at e
      refine ⟨_, e, ?_⟩
      rcases hI with ⟨rfl, hno⟩ | ⟨p, hp, rfl, hpd, hmin⟩
      · refine Or.inl ⟨rfl, fun q hq => ?_⟩
        by_cases h2 : q = i
        · subst h2; exact hc
        · exact hno q (by omega)
      · refine Or.inr ⟨p, by omega, rfl, hpd, fun q hq hqd => ?_⟩
        by_cases h2 : q = i
        · subst h2; exact absurd hqd hc
        · exact hmin q (by omega) hqd
  · have e : fX11_firstAt_c4 N g (k + 1) (d : Int) s (np : Int) = some s := by
      show fX11_firstAt_c4b N g (fX11_firstAt_c4 N g k) (d : Int) s _ = _
      unfold fX11_firstAt_c4b
      rw [M.1.1, if_pos (by omega)]
    show fX11_firstAt_c4 N g (k + 1) (d : Int) s (np : Int) = _
    rw [e]
    congr 1
    rcases hI with ⟨rfl, hno⟩ | ⟨p, hp, rfl, hpd, hmin⟩
    · have : aFirst t d a = none := List.find?_eq_none.mpr (fun x hx hc => hno x ((A.2.2.1 x).mp hx).1 (of_decide_eq_true hc))
      rw [this]; rfl
    · have hpq := inq p hp hpd
      have hs : aFirst t d a = some p := by
        cases hf : aFirst t d a with
        | none => exact absurd (decide_eq_true hpd) (List.find?_eq_none.mp hf p hpq)
        | some q =>
          obtain ⟨hq1, as, bs, hq2, hq3⟩ := List.find?_eq_some_iff_append.mp hf
          have hqd := of_decide_eq_true hq1
          have hqq : q ∈ aQ a := by rw [hq2]; exact List.mem_append_right _ List.mem_cons_self
          have hm := hmin q ((A.2.2.1 q).mp hqq).1 hqd
          rw [hq2] at hpq ord
          rcases List.mem_append.mp hpq with hp1 | hp1
          · have := hq3 p hp1
            rw [decide_eq_true hpd] at this
            cases this
          · rcases List.mem_cons.mp hp1 with hp2 | hp2
            · rw [hp2]
            · have := List.rel_of_pairwise_cons (List.pairwise_append.mp ord).2.1 hp2
              omega
      rw [hs]; rfl
theorem goM {np nd nr B : Nat} {t : Nat → Nat} {a : hSt} {g : zH} (V : HV np nd nr t) (S : MS np B a (g 69)) {p : Nat} (hp : p < np) : ∃ g', fX11_goAway (p : Int) g = some g' ∧ (∀ b, b ≠ 69 → g' b = g b) ∧ MS np B (aLeave p a) (g' 69) := by
  have v := V.1
  refine ⟨zs (zs (zs g 69 (7 * p + 1) (-1)) 69 (7 * p + 3) 0) 69 (7 * p + 2) 0, ?_, fun b hb => by rw [zs_row_ne hb, zs_row_ne hb, zs_row_ne hb], ?_⟩
  · unfold fX11_goAway
    rw [pm_1 (by omega), zb_some, pm_3 (by omega), zb_some, pm_2 (by omega), zb_some]
  · obtain ⟨s1, s2, s3, s4, s5, s6, s7⟩ := S
    simp only [zs_zup]
    refine ⟨fun q hq => ?_, ?_, ?_, fun x hx => ?_, ?_, ?_, fun i hi => ?_⟩
    · obtain ⟨q1, q2, q3, q4, q5, q6⟩ := s1 q hq
      have e0 : aW (aLeave p a) q = if q = p then (-1 : Int) else aW a q := rfl
      have e1 : aD (aLeave p a) q = if q = p then 0 else aD a q := rfl
      show zup _ _ _ (7 * q) = aH a q ∧ zup _ _ _ (7 * q + 1) = aW (aLeave p a) q ∧ zup _ _ _ (7 * q + 3) = (aD (aLeave p a) q : Int) ∧ zup _ _ _ (7 * q + 4) = aS a q ∧ zup _ _ _ (7 * q + 5) = aP a q ∧ zup _ _ _ (7 * q + 6) = aR a q
      rw [e0, e1]
      by_cases hqp : q = p
      · rw [if_pos hqp, if_pos hqp]
        ((repeat' apply And.intro) <;> simp (disch := omega) only [zup_is, zup_ne]) <;> omega
      · rw [if_neg hqp, if_neg hqp]
        ((repeat' apply And.intro) <;> simp (disch := omega) only [zup_is, zup_ne]) <;> omega
    · show zup _ _ _ 42 = _
      simp (disch := omega) only [zup_is, zup_ne]
      exact s2
    · ((repeat' apply And.intro) <;> simp (disch := omega) only [zup_is, zup_ne]) <;> omega
    · have hx2 := List.mem_filter.mp hx
      have hxp := of_decide_eq_true hx2.2
      have := s4 x hx2.1
      ((repeat' apply And.intro) <;> simp (disch := omega) only [zup_is, zup_ne]) <;> omega
    · refine List.Pairwise.imp_of_mem ?_ (List.Pairwise.filter (fun q => decide (q ≠ p)) s5)
      intro x y hx hy hxy
      have hx2 := of_decide_eq_true (List.mem_filter.mp hx).2
      have hy2 := of_decide_eq_true (List.mem_filter.mp hy).2
      simp (disch := omega) only [zup_is, zup_ne] <;> omega
    · show zup _ _ _ 44 = _
      simp (disch := omega) only [zup_is, zup_ne]
      exact s6
    · have := s7 i hi
      show zup _ _ _ _ = _ ∧ zup _ _ _ _ = _
      have hi' : i < min 60 (aL a).length := hi
      have hp' : min 60 (aL (aLeave p a)).length = min 60 (aL a).length := rfl
      rw [hp']
      refine ⟨?_, ?_⟩
      · rw [zup_ne (by omega), zup_ne (by omega), zup_ne (by omega)]; exact this.1
      · rw [zup_ne (by omega), zup_ne (by omega), zup_ne (by omega)]; exact this.2
theorem filM {np nd nr B : Nat} {t : Nat → Nat} {a : hSt} {g : zH} (V : HV np nd nr t) (A : AV np nd nr t a) (S : MS np B a (g 69)) {p r : Nat} (hp : p < np) (hw : aW a p = -1) : ∃ g', fX11_fileNow (p : Int) (r : Int) g = some g' ∧ (∀ b, b ≠ 69 → g' b = g b) ∧ MS np (B + 1) (aEnq p r a) (g' 69) := by
  have v := V.1
  have e43 : zs (zs g 69 (7 * p + 1) (r : Int)) 69 (7 * p + 3) 0 69 43 = g 69 43 := by rw [zs_ne (by omega), zs_ne (by omega)]
  have e44 : zs (zs (zs g 69 (7 * p + 1) (r : Int)) 69 (7 * p + 3) 0) 69 (7 * p + 2) (g 69 43) 69 43 = g 69 43 := by rw [zs_ne (by omega), e43]
  refine ⟨zs (zs (zs (zs g 69 (7 * p + 1) (r : Int)) 69 (7 * p + 3) 0) 69 (7 * p + 2) (g 69 43)) 69 43 (g 69 43 + 1), ?_, fun b hb => by rw [zs_row_ne hb, zs_row_ne hb, zs_row_ne hb, zs_row_ne hb], ?_⟩
  · unfold fX11_fileNow
    rw [pm_1 (by omega), zb_some, pm_3 (by omega), zb_some, e43, pm_2 (by omega), zb_some, e44, zlet_v]
  · obtain ⟨s1, s2, s3, s4, s5, s6, s7⟩ := S
    have hd0 : aD a p = 0 := by
      rcases (A.1 p hp).2 with ⟨-, h0⟩ | ⟨r', -, h0, -⟩
      · exact h0
      · rw [hw] at h0; omega
    have npq : p ∉ aQ a := fun h => ((A.2.2.1 p).mp h).2 hw
    simp only [zs_zup]
    refine ⟨fun q hq => ?_, ?_, ?_, fun x hx => ?_, ?_, ?_, fun i hi => ?_⟩
    · obtain ⟨q1, q2, q3, q4, q5, q6⟩ := s1 q hq
      have e0 : aW (aEnq p r a) q = if q = p then (r : Int) else aW a q := rfl
      show zup _ _ _ (7 * q) = aH a q ∧ zup _ _ _ (7 * q + 1) = aW (aEnq p r a) q ∧ zup _ _ _ (7 * q + 3) = (aD a q : Int) ∧ zup _ _ _ (7 * q + 4) = aS a q ∧ zup _ _ _ (7 * q + 5) = aP a q ∧ zup _ _ _ (7 * q + 6) = aR a q
      rw [e0]
      by_cases hqp : q = p
      · subst hqp
        rw [hd0, if_pos rfl]
        ((repeat' apply And.intro) <;> simp (disch := omega) only [zup_is, zup_ne]) <;> omega
      · rw [if_neg hqp]
        ((repeat' apply And.intro) <;> simp (disch := omega) only [zup_is, zup_ne]) <;> omega
    · show zup _ _ _ 42 = _
      simp (disch := omega) only [zup_is, zup_ne]
      exact s2
    · ((repeat' apply And.intro) <;> simp (disch := omega) only [zup_is, zup_ne]) <;> omega
    · rcases List.mem_append.mp hx with h1 | h1
      · have := s4 x h1
        have hne : x ≠ p := fun e => npq (e ▸ h1)
        ((repeat' apply And.intro) <;> simp (disch := omega) only [zup_is, zup_ne]) <;> omega
      · rw [List.mem_singleton] at h1
        subst h1
        ((repeat' apply And.intro) <;> simp (disch := omega) only [zup_is, zup_ne]) <;> omega
    · refine List.pairwise_append.mpr ⟨?_, List.pairwise_singleton _ _, fun x hx y hy => ?_⟩
      · refine List.Pairwise.imp_of_mem ?_ s5
        intro x y hx hy hxy
        have hx2 : x ≠ p := fun e => npq (e ▸ hx)
        have hy2 : y ≠ p := fun e => npq (e ▸ hy)
        simp (disch := omega) only [zup_is, zup_ne] <;> omega
      · rw [List.mem_singleton] at hy
        subst hy
        have hx2 : x ≠ y := fun e => npq (e ▸ hx)
        have := s4 x hx
        simp (disch := omega) only [zup_is, zup_ne] <;> omega
    · show zup _ _ _ 44 = _
      simp (disch := omega) only [zup_is, zup_ne]
      exact s6
    · have := s7 i hi
      show zup _ _ _ _ = _ ∧ zup _ _ _ _ = _
      have hi' : i < min 60 (aL a).length := hi
      have hp' : min 60 (aL (aEnq p r a)).length = min 60 (aL a).length := rfl
      rw [hp']
      refine ⟨?_, ?_⟩
      · rw [zup_ne (by omega), zup_ne (by omega), zup_ne (by omega), zup_ne (by omega)]; exact this.1
      · rw [zup_ne (by omega), zup_ne (by omega), zup_ne (by omega), zup_ne (by omega)]; exact this.2
