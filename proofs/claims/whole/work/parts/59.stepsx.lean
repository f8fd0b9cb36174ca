/-! the class's small steps on a state -/
def oI (x : Option Nat) : Int := match x with
  | none => -1
  | some p => p
theorem getD_snoc (l : List Nat) (x j : Nat) : (l ++ [x]).getD j 0 = if j < l.length then l.getD j 0 else if j = l.length then x else 0 := by
  rw [List.getD_eq_getElem?_getD, List.getD_eq_getElem?_getD]
  by_cases h : j < l.length
  · rw [if_pos h, List.getElem?_append_left h]
  · rw [if_neg h, List.getElem?_append_right (by omega)]
    by_cases h2 : j = l.length
    · subst h2
      rw [if_pos rfl, Nat.sub_self]
      rfl
    · rw [if_neg h2, List.getElem?_eq_none (by rw [List.length_singleton]; omega)]
      rfl
theorem enqX7 {np nd nr : Nat} {t : Nat → Nat} {a : hSt} {h : zH} (V : HV np nd nr t) (X : HX np nd nr t h) (A : AV np nd nr t a) (S : XS np t a (h 30)) {p r : Nat} (hp : p < np) (hr : r < nr) (hw : aW a p = -1) : ∃ h', fX8_enqueue 7 2 (p : Int) (r : Int) h = h' ∧ (∀ b, b ≠ 30 → h' b = h b) ∧ XS np t (aEnq p r a) (h' 30) := by
  have v := V.1
  have hl := aQ_lt A hp hw
  obtain ⟨s1, s2, s3, s4, s5⟩ := S
  refine ⟨zs (zs (zs (zs h 30 (6 + p) (r : Int)) 30 (36 + p) (t (96 + 4 * r) : Int)) 30 (42 + (aQ a).length) (p : Int)) 30 49 (((aQ a).length + 1 : Nat) : Int), ?_, fun b hb => ?_, ?_⟩
  · unfold fX8_enqueue
    simp only [zlet_v, zf70]
    rw [sx7_1 (by omega), xi30 V (HX_to X (zs_row_ne (by decide)) (zs_row_ne (by decide)) (zs_row_ne (by decide))) hr, sx7_6 (by omega)]
    have e1 : zs (zs h 30 (6 + p) (r : Int)) 30 (36 + p) (t (96 + 4 * r) : Int) 30 49 = ((aQ a).length : Int) := by
      rw [zs_ne (by omega), zs_ne (by omega), s3]
    rw [e1, sx7_7 (by omega)]
    have e2 : zs (zs (zs h 30 (6 + p) (r : Int)) 30 (36 + p) (t (96 + 4 * r) : Int)) 30 (42 + (aQ a).length) (p : Int) 30 49 = ((aQ a).length : Int) := by
      rw [zs_ne (by omega), e1]
    rw [e2, min_eq (zw_id (by omega)) zw_6, if_pos (by omega)]
    rfl
  · rw [zs_row_ne hb, zs_row_ne hb, zs_row_ne hb, zs_row_ne hb]
  · simp only [zs_zup]
    refine ⟨fun q hq => ?_, ?_, ?_, fun i hi => ?_, ?_⟩
    · obtain ⟨q1, q2, q3, q4, q5, q6, q7⟩ := s1 q hq
      have e0 : aW (aEnq p r a) q = if q = p then (r : Int) else aW a q := rfl
      show zup _ _ _ q = aH a q ∧ zup _ _ _ (6 + q) = aW (aEnq p r a) q ∧ zup _ _ _ (12 + q) = aD a q ∧ zup _ _ _ (18 + q) = aS a q ∧ zup _ _ _ (24 + q) = aP a q ∧ zup _ _ _ (30 + q) = aR a q ∧ zup _ _ _ (36 + q) = stnd t (aW (aEnq p r a) q)
      rw [e0]
      by_cases hqp : q = p
      · subst hqp
        rw [if_pos rfl, stnd_r]
        ((repeat' apply And.intro) <;> simp (disch := omega) only [zup_is, zup_ne]) <;> omega
      · rw [if_neg hqp]
        ((repeat' apply And.intro) <;> simp (disch := omega) only [zup_is, zup_ne]) <;> omega
    · show zup _ _ _ 48 = _
      simp (disch := omega) only [zup_is, zup_ne]
      exact s2
    · show zup _ _ _ 49 = (((aQ a) ++ [p]).length : Int)
      rw [zup_at, List.length_append, List.length_singleton]
    · have hi' : i < (aQ a).length + 1 := by
        have : ((aQ a) ++ [p]).length = (aQ a).length + 1 := by rw [List.length_append, List.length_singleton]
        rw [← this]; exact hi
      show zup _ _ _ (42 + i) = (((aQ a) ++ [p]).getD i 0 : Nat)
      rw [getD_snoc]
      by_cases hil : i < (aQ a).length
      · rw [if_pos hil]
        have := s4 i hil
        simp (disch := omega) only [zup_is, zup_ne] <;> omega
      · rw [if_neg hil, if_pos (by omega)]
        simp (disch := omega) only [zup_is, zup_ne] <;> omega
    · show zup _ _ _ 50 = _
      simp (disch := omega) only [zup_is, zup_ne]
      exact s5
theorem firX7 {np nd nr : Nat} {t : Nat → Nat} {a : hSt} {h : zH} (V : HV np nd nr t) (A : AV np nd nr t a) (S : XS np t a (h 30)) {N : Nat} (hN : 8 ≤ N) {d : Nat} (hd : d < 8) : fX8_first N 7 (d : Int) h = some (oI (aFirst t d a)) := by
  have v := V.1
  have hl := aQ_len A
  obtain ⟨s1, s2, s3, s4, s5⟩ := S
  refine zloopq (F := fun k i (_ : Unit) => fX8_first_c2 N 7 h k (d : Int) i) (n := (aQ a).length) (s := ()) (fun i _ => aFirst t d a = ((aQ a).drop i).find? (fun p => decide (stnd t (aW a p) = d))) (fun b => b = some (oI (aFirst t d a))) (fun k i _ hi hI => ?_) (fun k _ hI => ?_) (by omega) rfl
  · obtain ⟨g1, g2⟩ := aQ_get A hi
    have e : fX8_first_c2 N 7 h (k + 1) (d : Int) (i : Int) = if stnd t (aW a ((aQ a).getD i 0)) = d then some (((aQ a).getD i 0 : Nat) : Int) else fX8_first_c2 N 7 h k (d : Int) ((i + 1 : Nat) : Int) := by
      show fX8_first_c2b N 7 h (fX8_first_c2 N 7 h k) (d : Int) (i : Int) = _
      unfold fX8_first_c2b
      rw [zf70, s3, zw_id (show -2147483648 ≤ ((aQ a).length : Int) ∧ ((aQ a).length : Int) < 2147483648 by omega), zw_id (show -2147483648 ≤ (i : Int) ∧ (i : Int) < 2147483648 by omega), if_neg (by omega), ox7_7 (by omega), s4 i hi, zlet_v, ox7_6 (by omega), (s1 _ g1).2.2.2.2.2.2]
      have := stnd_in V A g1
      rw [zw_id (by omega), zw_id (by omega)]
      rfl
    have hI2 : aFirst t d a = if stnd t (aW a ((aQ a).getD i 0)) = d then some ((aQ a).getD i 0) else ((aQ a).drop (i + 1)).find? (fun p => decide (stnd t (aW a p) = d)) := by
      rw [hI, List.drop_eq_getElem_cons hi, List.find?_cons, getD_get hi]
      by_cases hc : stnd t (aW a (aQ a)[i]) = d
      · rw [if_pos hc, decide_eq_true hc]
      · rw [if_neg hc, decide_eq_false hc]
    by_cases hc : stnd t (aW a ((aQ a).getD i 0)) = d
    · right
      show fX8_first_c2 N 7 h (k + 1) (d : Int) (i : Int) = _
      rw [e, if_pos hc, hI2, if_pos hc]
      rfl
    · left
      rw [if_neg hc] at e hI2
      exact ⟨(), e, hI2⟩
  · show fX8_first_c2b N 7 h (fX8_first_c2 N 7 h k) (d : Int) _ = _
    unfold fX8_first_c2b
    rw [zf70, s3, if_pos (by omega), hI, List.drop_length]
    rfl
theorem bakX7 {np nd nr : Nat} {t : Nat → Nat} {a : hSt} {h : zH} (V : HV np nd nr t) (A : AV np nd nr t a) (S : XS np t a (h 30)) {N : Nat} (hN : 8 ≤ N) {d : Nat} (hd : d < 8) : fX8_backlog N 7 (d : Int) h = some (aBack t d a : Int) := by
  have v := V.1
  have hl := aQ_len A
  obtain ⟨s1, s2, s3, s4, s5⟩ := S
  refine zloopq (F := fun k i (s : Int) => fX8_backlog_c4 N 7 h k (d : Int) s i) (n := (aQ a).length) (s := 0) (fun i s => s + (((aQ a).drop i).countP (fun p => decide (stnd t (aW a p) = d)) : Nat) = (aBack t d a : Int)) (fun b => b = some (aBack t d a : Int)) (fun k i s hi hI => ?_) (fun k s hI => ?_) (by omega) (by rw [List.drop_zero]; exact Int.zero_add _)
  · obtain ⟨g1, g2⟩ := aQ_get A hi
    have e : fX8_backlog_c4 N 7 h (k + 1) (d : Int) s (i : Int) = if stnd t (aW a ((aQ a).getD i 0)) = d then fX8_backlog_c4 N 7 h k (d : Int) (s + 1) ((i + 1 : Nat) : Int) else fX8_backlog_c4 N 7 h k (d : Int) (s + 0) ((i + 1 : Nat) : Int) := by
      show fX8_backlog_c4b N 7 h (fX8_backlog_c4 N 7 h k) (d : Int) s (i : Int) = _
      unfold fX8_backlog_c4b
      rw [zf70, s3, zw_id (show -2147483648 ≤ ((aQ a).length : Int) ∧ ((aQ a).length : Int) < 2147483648 by omega), zw_id (show -2147483648 ≤ (i : Int) ∧ (i : Int) < 2147483648 by omega), if_neg (by omega), ox7_7 (by omega), s4 i hi, ox7_6 (by omega), (s1 _ g1).2.2.2.2.2.2]
      have := stnd_in V A g1
      rw [zw_id (by omega), zw_id (by omega)]
      rfl
    rw [List.drop_eq_getElem_cons hi, List.countP_cons] at hI
    rw [getD_get hi] at e
    left
    by_cases hc : stnd t (aW a (aQ a)[i]) = d
    · rw [if_pos hc] at e
      rw [if_pos (decide_eq_true hc)] at hI
      exact ⟨s + 1, e, by omega⟩
    · rw [if_neg hc] at e
      rw [if_neg (fun x => hc (of_decide_eq_true x))] at hI
      exact ⟨s + 0, e, by omega⟩
  · show fX8_backlog_c4b N 7 h (fX8_backlog_c4 N 7 h k) (d : Int) s _ = _
    unfold fX8_backlog_c4b
    rw [zf70, s3, if_pos (by omega)]
    rw [List.drop_length] at hI
    congr 1
    have : List.countP (fun p => decide (stnd t (aW a p) = (d : Int))) [] = 0 := rfl
    omega
theorem leaX7 {np nd nr : Nat} {t : Nat → Nat} {a : hSt} {h : zH} (V : HV np nd nr t) (A : AV np nd nr t a) (S : XS np t a (h 30)) {N : Nat} (hN : 8 ≤ N) {p : Nat} (hp : p < np) : ∃ h', fX8_leave N 7 (p : Int) h = some (aW a p, h') ∧ (∀ b, b ≠ 30 → h' b = h b) ∧ XS np t (aLeave p a) (h' 30) := by
  have v := V.1
  have hl := aQ_len A
  obtain ⟨s1, s2, s3, s4, s5⟩ := S
  have ew : fX8_of 7 1 (p : Int) h = aW a p := by rw [ox7_1 (by omega), (s1 p hp).2.1]
  have fl : ∀ i, ((aQ a).take i).filter (fun q => decide (q ≠ p)) = ((aQ a).take i).filter (fun q => decide (q ≠ p)) ∧ (((aQ a).take i).filter (fun q => decide (q ≠ p))).length ≤ i := fun i => ⟨rfl, Nat.le_trans (List.length_filter_le _ _) (by rw [List.length_take]; omega)⟩
  unfold fX8_leave
  rw [ew, zlet_v]
  refine zloopq (F := fun k i (s : Int × zH) => fX8_leave_c12 N 7 k (p : Int) (aW a p) s.1 i s.2) (n := (aQ a).length) (s := (0, h)) (fun i s => s.1 = ((((aQ a).take i).filter (fun q => decide (q ≠ p))).length : Nat) ∧ (∀ b, b ≠ 30 → s.2 b = h b) ∧ (∀ j, (j < 42 ∨ 42 + i ≤ j) → s.2 30 j = h 30 j) ∧ ∀ j, j < (((aQ a).take i).filter (fun q => decide (q ≠ p))).length → s.2 30 (42 + j) = ((((aQ a).take i).filter (fun q => decide (q ≠ p))).getD j 0 : Nat)) (fun b => ∃ h', b = some (aW a p, h') ∧ (∀ b, b ≠ 30 → h' b = h b) ∧ XS np t (aLeave p a) (h' 30)) (fun k i s hi hI => ?_) (fun k s hI => ?_) (by omega) ⟨rfl, fun _ _ => rfl, fun _ _ => rfl, fun j hj => absurd hj (Nat.not_lt_zero _)⟩
  · obtain ⟨s, g⟩ := s
    obtain ⟨i1, i2, i3, i4⟩ := hI
    dsimp only at i1 i2 i3 i4 ⊢
    obtain ⟨g1, g2⟩ := aQ_get A hi
    have hle := (fl i).2
    have q49 : g 30 49 = ((aQ a).length : Int) := by rw [i3 49 (by omega), s3]
    have qi : g 30 (42 + i) = ((aQ a).getD i 0 : Nat) := by rw [i3 _ (by omega), s4 i hi]
    have tk : (aQ a).take (i + 1) = (aQ a).take i ++ [(aQ a).getD i 0] := by rw [getD_get hi, List.take_append_getElem]
    have e : fX8_leave_c12 N 7 (k + 1) (p : Int) (aW a p) s (i : Int) g = if (aQ a).getD i 0 = p then fX8_leave_c12 N 7 k (p : Int) (aW a p) s ((i + 1 : Nat) : Int) g else fX8_leave_c12 N 7 k (p : Int) (aW a p) (s + 1) ((i + 1 : Nat) : Int) (zs g 30 (42 + (((aQ a).take i).filter (fun q => decide (q ≠ p))).length) ((aQ a).getD i 0 : Nat)) := by
      show fX8_leave_c12b N 7 (fX8_leave_c12 N 7 k) (p : Int) (aW a p) s (i : Int) g = _
      unfold fX8_leave_c12b
      rw [zf70, q49, zw_id (show -2147483648 ≤ ((aQ a).length : Int) ∧ ((aQ a).length : Int) < 2147483648 by omega), zw_id (show -2147483648 ≤ (i : Int) ∧ (i : Int) < 2147483648 by omega), if_neg (by omega), ox7_7 (by omega), qi, zlet_v, zw_id (show -2147483648 ≤ (((aQ a).getD i 0 : Nat) : Int) ∧ (((aQ a).getD i 0 : Nat) : Int) < 2147483648 by omega), zw_id (show -2147483648 ≤ (p : Int) ∧ (p : Int) < 2147483648 by omega), i1, sx7_7 (by omega), zlet_v]
      by_cases hc : (aQ a).getD i 0 = p
      · rw [if_pos hc, if_pos (by omega)]; rfl
      · rw [if_neg hc, if_neg (by omega)]; rfl
    left
    by_cases hc : (aQ a).getD i 0 = p
    · rw [if_pos hc] at e
      have tf : ((aQ a).take (i + 1)).filter (fun q => decide (q ≠ p)) = ((aQ a).take i).filter (fun q => decide (q ≠ p)) := by
        rw [tk, List.filter_append, hc]
        simp
      refine ⟨(s, g), e, ?_⟩
      rw [tf]
      exact ⟨i1, i2, fun j hj => i3 j (by omega), i4⟩
    · rw [if_neg hc] at e
      have tf : ((aQ a).take (i + 1)).filter (fun q => decide (q ≠ p)) = ((aQ a).take i).filter (fun q => decide (q ≠ p)) ++ [(aQ a).getD i 0] := by
        rw [tk, List.filter_append, List.filter_cons, if_pos (decide_eq_true hc)]
        rfl
      refine ⟨(s + 1, zs g 30 (42 + (((aQ a).take i).filter (fun q => decide (q ≠ p))).length) ((aQ a).getD i 0 : Nat)), e, ?_⟩
      rw [tf, List.length_append, List.length_singleton]
      refine ⟨by dsimp only; omega, fun b hb => by dsimp only; rw [zs_row_ne hb, i2 b hb], fun j hj => ?_, fun j hj => ?_⟩
      · dsimp only; rw [zs_ne (by omega), i3 j (by omega)]
      · dsimp only
        rw [getD_snoc, zs_zup]
        by_cases hj2 : j < (((aQ a).take i).filter (fun q => decide (q ≠ p))).length
        · rw [if_pos hj2, zup_ne (by omega), i4 j hj2]
        · have hj3 : j = (((aQ a).take i).filter (fun q => decide (q ≠ p))).length := by omega
          rw [if_neg hj2, if_pos hj3, hj3, zup_at]
  · obtain ⟨s, g⟩ := s
    obtain ⟨i1, i2, i3, i4⟩ := hI
    dsimp only at i1 i2 i3 i4 ⊢
    rw [List.take_length] at i1 i4
    have hle := List.length_filter_le (fun q => decide (q ≠ p)) (aQ a)
    have q49 : g 30 49 = ((aQ a).length : Int) := by rw [i3 49 (by omega), s3]
    refine ⟨zs (zs (zs (zs g 30 49 s) 30 (6 + p) (-1)) 30 (36 + p) (-1)) 30 (12 + p) 0, ?_, fun b hb => by rw [zs_row_ne hb, zs_row_ne hb, zs_row_ne hb, zs_row_ne hb, i2 b hb], ?_⟩
    · show fX8_leave_c12b N 7 (fX8_leave_c12 N 7 k) (p : Int) (aW a p) s _ g = _
      unfold fX8_leave_c12b
      rw [zf70, q49, if_pos (by omega)]
      simp only [zlet_v]
      rw [sx7_1 (by omega), sx7_6 (by omega), sx7_2 (by omega)]
    · simp only [zs_zup]
      refine ⟨fun q hq => ?_, ?_, ?_, fun i hi => ?_, ?_⟩
      · obtain ⟨q1, q2, q3, q4, q5, q6, q7⟩ := s1 q hq
        rw [← i3 q (by omega)] at q1
        rw [← i3 (6 + q) (by omega)] at q2
        rw [← i3 (12 + q) (by omega)] at q3
        rw [← i3 (18 + q) (by omega)] at q4
        rw [← i3 (24 + q) (by omega)] at q5
        rw [← i3 (30 + q) (by omega)] at q6
        rw [← i3 (36 + q) (by omega)] at q7
        have e0 : aW (aLeave p a) q = if q = p then (-1 : Int) else aW a q := rfl
        have e1 : aD (aLeave p a) q = if q = p then 0 else aD a q := rfl
        show zup _ _ _ q = aH a q ∧ zup _ _ _ (6 + q) = aW (aLeave p a) q ∧ zup _ _ _ (12 + q) = (aD (aLeave p a) q : Int) ∧ zup _ _ _ (18 + q) = aS a q ∧ zup _ _ _ (24 + q) = aP a q ∧ zup _ _ _ (30 + q) = aR a q ∧ zup _ _ _ (36 + q) = stnd t (aW (aLeave p a) q)
        rw [e0, e1]
        by_cases hqp : q = p
        · subst hqp
          rw [if_pos rfl, if_pos rfl, show stnd t (-1) = -1 from if_pos rfl]
          ((repeat' apply And.intro) <;> simp (disch := omega) only [zup_is, zup_ne]) <;> omega
        · rw [if_neg hqp, if_neg hqp]
          ((repeat' apply And.intro) <;> simp (disch := omega) only [zup_is, zup_ne]) <;> omega
      · show zup _ _ _ 48 = _
        have := i3 48 (by omega)
        simp (disch := omega) only [zup_is, zup_ne]
        exact this.trans s2
      · show zup _ _ _ 49 = (((aQ a).filter (fun q => decide (q ≠ p))).length : Int)
        simp (disch := omega) only [zup_is, zup_ne]
        exact i1
      · have hi' : i < ((aQ a).filter (fun q => decide (q ≠ p))).length := hi
        show zup _ _ _ (42 + i) = (((aQ a).filter (fun q => decide (q ≠ p))).getD i 0 : Nat)
        have := i4 i hi'
        rw [← this]
        simp (disch := omega) only [zup_is, zup_ne]
      · show zup _ _ _ 50 = _
        have := i3 50 (by omega)
        simp (disch := omega) only [zup_is, zup_ne]
        exact this.trans s5
theorem enqX8 {np nd nr : Nat} {t : Nat → Nat} {a : hSt} {h : zH} (V : HV np nd nr t) (X : HX np nd nr t h) (A : AV np nd nr t a) (S : XS np t a (h 34)) {p r : Nat} (hp : p < np) (hr : r < nr) (hw : aW a p = -1) : ∃ h', fX8_enqueue 8 2 (p : Int) (r : Int) h = h' ∧ (∀ b, b ≠ 34 → h' b = h b) ∧ XS np t (aEnq p r a) (h' 34) := by
  have v := V.1
  have hl := aQ_lt A hp hw
  obtain ⟨s1, s2, s3, s4, s5⟩ := S
  refine ⟨zs (zs (zs (zs h 34 (6 + p) (r : Int)) 34 (36 + p) (t (96 + 4 * r) : Int)) 34 (42 + (aQ a).length) (p : Int)) 34 49 (((aQ a).length + 1 : Nat) : Int), ?_, fun b hb => ?_, ?_⟩
  · unfold fX8_enqueue
    simp only [zlet_v, zf80]
    rw [sx8_1 (by omega), xi30 V (HX_to X (zs_row_ne (by decide)) (zs_row_ne (by decide)) (zs_row_ne (by decide))) hr, sx8_6 (by omega)]
    have e1 : zs (zs h 34 (6 + p) (r : Int)) 34 (36 + p) (t (96 + 4 * r) : Int) 34 49 = ((aQ a).length : Int) := by
      rw [zs_ne (by omega), zs_ne (by omega), s3]
    rw [e1, sx8_7 (by omega)]
    have e2 : zs (zs (zs h 34 (6 + p) (r : Int)) 34 (36 + p) (t (96 + 4 * r) : Int)) 34 (42 + (aQ a).length) (p : Int) 34 49 = ((aQ a).length : Int) := by
      rw [zs_ne (by omega), e1]
    rw [e2, min_eq (zw_id (by omega)) zw_6, if_pos (by omega)]
    rfl
  · rw [zs_row_ne hb, zs_row_ne hb, zs_row_ne hb, zs_row_ne hb]
  · simp only [zs_zup]
    refine ⟨fun q hq => ?_, ?_, ?_, fun i hi => ?_, ?_⟩
    · obtain ⟨q1, q2, q3, q4, q5, q6, q7⟩ := s1 q hq
      have e0 : aW (aEnq p r a) q = if q = p then (r : Int) else aW a q := rfl
      show zup _ _ _ q = aH a q ∧ zup _ _ _ (6 + q) = aW (aEnq p r a) q ∧ zup _ _ _ (12 + q) = aD a q ∧ zup _ _ _ (18 + q) = aS a q ∧ zup _ _ _ (24 + q) = aP a q ∧ zup _ _ _ (30 + q) = aR a q ∧ zup _ _ _ (36 + q) = stnd t (aW (aEnq p r a) q)
      rw [e0]
      by_cases hqp : q = p
      · subst hqp
        rw [if_pos rfl, stnd_r]
        ((repeat' apply And.intro) <;> simp (disch := omega) only [zup_is, zup_ne]) <;> omega
      · rw [if_neg hqp]
        ((repeat' apply And.intro) <;> simp (disch := omega) only [zup_is, zup_ne]) <;> omega
    · show zup _ _ _ 48 = _
      simp (disch := omega) only [zup_is, zup_ne]
      exact s2
    · show zup _ _ _ 49 = (((aQ a) ++ [p]).length : Int)
      rw [zup_at, List.length_append, List.length_singleton]
    · have hi' : i < (aQ a).length + 1 := by
        have : ((aQ a) ++ [p]).length = (aQ a).length + 1 := by rw [List.length_append, List.length_singleton]
        rw [← this]; exact hi
      show zup _ _ _ (42 + i) = (((aQ a) ++ [p]).getD i 0 : Nat)
      rw [getD_snoc]
      by_cases hil : i < (aQ a).length
      · rw [if_pos hil]
        have := s4 i hil
        simp (disch := omega) only [zup_is, zup_ne] <;> omega
      · rw [if_neg hil, if_pos (by omega)]
        simp (disch := omega) only [zup_is, zup_ne] <;> omega
    · show zup _ _ _ 50 = _
      simp (disch := omega) only [zup_is, zup_ne]
      exact s5
theorem firX8 {np nd nr : Nat} {t : Nat → Nat} {a : hSt} {h : zH} (V : HV np nd nr t) (A : AV np nd nr t a) (S : XS np t a (h 34)) {N : Nat} (hN : 8 ≤ N) {d : Nat} (hd : d < 8) : fX8_first N 8 (d : Int) h = some (oI (aFirst t d a)) := by
  have v := V.1
  have hl := aQ_len A
  obtain ⟨s1, s2, s3, s4, s5⟩ := S
  refine zloopq (F := fun k i (_ : Unit) => fX8_first_c2 N 8 h k (d : Int) i) (n := (aQ a).length) (s := ()) (fun i _ => aFirst t d a = ((aQ a).drop i).find? (fun p => decide (stnd t (aW a p) = d))) (fun b => b = some (oI (aFirst t d a))) (fun k i _ hi hI => ?_) (fun k _ hI => ?_) (by omega) rfl
  · obtain ⟨g1, g2⟩ := aQ_get A hi
    have e : fX8_first_c2 N 8 h (k + 1) (d : Int) (i : Int) = if stnd t (aW a ((aQ a).getD i 0)) = d then some (((aQ a).getD i 0 : Nat) : Int) else fX8_first_c2 N 8 h k (d : Int) ((i + 1 : Nat) : Int) := by
      show fX8_first_c2b N 8 h (fX8_first_c2 N 8 h k) (d : Int) (i : Int) = _
      unfold fX8_first_c2b
      rw [zf80, s3, zw_id (show -2147483648 ≤ ((aQ a).length : Int) ∧ ((aQ a).length : Int) < 2147483648 by omega), zw_id (show -2147483648 ≤ (i : Int) ∧ (i : Int) < 2147483648 by omega), if_neg (by omega), ox8_7 (by omega), s4 i hi, zlet_v, ox8_6 (by omega), (s1 _ g1).2.2.2.2.2.2]
      have := stnd_in V A g1
      rw [zw_id (by omega), zw_id (by omega)]
      rfl
    have hI2 : aFirst t d a = if stnd t (aW a ((aQ a).getD i 0)) = d then some ((aQ a).getD i 0) else ((aQ a).drop (i + 1)).find? (fun p => decide (stnd t (aW a p) = d)) := by
      rw [hI, List.drop_eq_getElem_cons hi, List.find?_cons, getD_get hi]
      by_cases hc : stnd t (aW a (aQ a)[i]) = d
      · rw [if_pos hc, decide_eq_true hc]
      · rw [if_neg hc, decide_eq_false hc]
    by_cases hc : stnd t (aW a ((aQ a).getD i 0)) = d
    · right
      show fX8_first_c2 N 8 h (k + 1) (d : Int) (i : Int) = _
      rw [e, if_pos hc, hI2, if_pos hc]
      rfl
    · left
      rw [if_neg hc] at e hI2
      exact ⟨(), e, hI2⟩
  · show fX8_first_c2b N 8 h (fX8_first_c2 N 8 h k) (d : Int) _ = _
    unfold fX8_first_c2b
    rw [zf80, s3, if_pos (by omega), hI, List.drop_length]
    rfl
theorem bakX8 {np nd nr : Nat} {t : Nat → Nat} {a : hSt} {h : zH} (V : HV np nd nr t) (A : AV np nd nr t a) (S : XS np t a (h 34)) {N : Nat} (hN : 8 ≤ N) {d : Nat} (hd : d < 8) : fX8_backlog N 8 (d : Int) h = some (aBack t d a : Int) := by
  have v := V.1
  have hl := aQ_len A
  obtain ⟨s1, s2, s3, s4, s5⟩ := S
  refine zloopq (F := fun k i (s : Int) => fX8_backlog_c4 N 8 h k (d : Int) s i) (n := (aQ a).length) (s := 0) (fun i s => s + (((aQ a).drop i).countP (fun p => decide (stnd t (aW a p) = d)) : Nat) = (aBack t d a : Int)) (fun b => b = some (aBack t d a : Int)) (fun k i s hi hI => ?_) (fun k s hI => ?_) (by omega) (by rw [List.drop_zero]; exact Int.zero_add _)
  · obtain ⟨g1, g2⟩ := aQ_get A hi
    have e : fX8_backlog_c4 N 8 h (k + 1) (d : Int) s (i : Int) = if stnd t (aW a ((aQ a).getD i 0)) = d then fX8_backlog_c4 N 8 h k (d : Int) (s + 1) ((i + 1 : Nat) : Int) else fX8_backlog_c4 N 8 h k (d : Int) (s + 0) ((i + 1 : Nat) : Int) := by
      show fX8_backlog_c4b N 8 h (fX8_backlog_c4 N 8 h k) (d : Int) s (i : Int) = _
      unfold fX8_backlog_c4b
      rw [zf80, s3, zw_id (show -2147483648 ≤ ((aQ a).length : Int) ∧ ((aQ a).length : Int) < 2147483648 by omega), zw_id (show -2147483648 ≤ (i : Int) ∧ (i : Int) < 2147483648 by omega), if_neg (by omega), ox8_7 (by omega), s4 i hi, ox8_6 (by omega), (s1 _ g1).2.2.2.2.2.2]
      have := stnd_in V A g1
      rw [zw_id (by omega), zw_id (by omega)]
      rfl
    rw [List.drop_eq_getElem_cons hi, List.countP_cons] at hI
    rw [getD_get hi] at e
    left
    by_cases hc : stnd t (aW a (aQ a)[i]) = d
    · rw [if_pos hc] at e
      rw [if_pos (decide_eq_true hc)] at hI
      exact ⟨s + 1, e, by omega⟩
    · rw [if_neg hc] at e
      rw [if_neg (fun x => hc (of_decide_eq_true x))] at hI
      exact ⟨s + 0, e, by omega⟩
  · show fX8_backlog_c4b N 8 h (fX8_backlog_c4 N 8 h k) (d : Int) s _ = _
    unfold fX8_backlog_c4b
    rw [zf80, s3, if_pos (by omega)]
    rw [List.drop_length] at hI
    congr 1
    have : List.countP (fun p => decide (stnd t (aW a p) = (d : Int))) [] = 0 := rfl
    omega
theorem leaX8 {np nd nr : Nat} {t : Nat → Nat} {a : hSt} {h : zH} (V : HV np nd nr t) (A : AV np nd nr t a) (S : XS np t a (h 34)) {N : Nat} (hN : 8 ≤ N) {p : Nat} (hp : p < np) : ∃ h', fX8_leave N 8 (p : Int) h = some (aW a p, h') ∧ (∀ b, b ≠ 34 → h' b = h b) ∧ XS np t (aLeave p a) (h' 34) := by
  have v := V.1
  have hl := aQ_len A
  obtain ⟨s1, s2, s3, s4, s5⟩ := S
  have ew : fX8_of 8 1 (p : Int) h = aW a p := by rw [ox8_1 (by omega), (s1 p hp).2.1]
  have fl : ∀ i, ((aQ a).take i).filter (fun q => decide (q ≠ p)) = ((aQ a).take i).filter (fun q => decide (q ≠ p)) ∧ (((aQ a).take i).filter (fun q => decide (q ≠ p))).length ≤ i := fun i => ⟨rfl, Nat.le_trans (List.length_filter_le _ _) (by rw [List.length_take]; omega)⟩
  unfold fX8_leave
  rw [ew, zlet_v]
  refine zloopq (F := fun k i (s : Int × zH) => fX8_leave_c12 N 8 k (p : Int) (aW a p) s.1 i s.2) (n := (aQ a).length) (s := (0, h)) (fun i s => s.1 = ((((aQ a).take i).filter (fun q => decide (q ≠ p))).length : Nat) ∧ (∀ b, b ≠ 34 → s.2 b = h b) ∧ (∀ j, (j < 42 ∨ 42 + i ≤ j) → s.2 34 j = h 34 j) ∧ ∀ j, j < (((aQ a).take i).filter (fun q => decide (q ≠ p))).length → s.2 34 (42 + j) = ((((aQ a).take i).filter (fun q => decide (q ≠ p))).getD j 0 : Nat)) (fun b => ∃ h', b = some (aW a p, h') ∧ (∀ b, b ≠ 34 → h' b = h b) ∧ XS np t (aLeave p a) (h' 34)) (fun k i s hi hI => ?_) (fun k s hI => ?_) (by omega) ⟨rfl, fun _ _ => rfl, fun _ _ => rfl, fun j hj => absurd hj (Nat.not_lt_zero _)⟩
  · obtain ⟨s, g⟩ := s
    obtain ⟨i1, i2, i3, i4⟩ := hI
    dsimp only at i1 i2 i3 i4 ⊢
    obtain ⟨g1, g2⟩ := aQ_get A hi
    have hle := (fl i).2
    have q49 : g 34 49 = ((aQ a).length : Int) := by rw [i3 49 (by omega), s3]
    have qi : g 34 (42 + i) = ((aQ a).getD i 0 : Nat) := by rw [i3 _ (by omega), s4 i hi]
    have tk : (aQ a).take (i + 1) = (aQ a).take i ++ [(aQ a).getD i 0] := by rw [getD_get hi, List.take_append_getElem]
    have e : fX8_leave_c12 N 8 (k + 1) (p : Int) (aW a p) s (i : Int) g = if (aQ a).getD i 0 = p then fX8_leave_c12 N 8 k (p : Int) (aW a p) s ((i + 1 : Nat) : Int) g else fX8_leave_c12 N 8 k (p : Int) (aW a p) (s + 1) ((i + 1 : Nat) : Int) (zs g 34 (42 + (((aQ a).take i).filter (fun q => decide (q ≠ p))).length) ((aQ a).getD i 0 : Nat)) := by
      show fX8_leave_c12b N 8 (fX8_leave_c12 N 8 k) (p : Int) (aW a p) s (i : Int) g = _
      unfold fX8_leave_c12b
      rw [zf80, q49, zw_id (show -2147483648 ≤ ((aQ a).length : Int) ∧ ((aQ a).length : Int) < 2147483648 by omega), zw_id (show -2147483648 ≤ (i : Int) ∧ (i : Int) < 2147483648 by omega), if_neg (by omega), ox8_7 (by omega), qi, zlet_v, zw_id (show -2147483648 ≤ (((aQ a).getD i 0 : Nat) : Int) ∧ (((aQ a).getD i 0 : Nat) : Int) < 2147483648 by omega), zw_id (show -2147483648 ≤ (p : Int) ∧ (p : Int) < 2147483648 by omega), i1, sx8_7 (by omega), zlet_v]
      by_cases hc : (aQ a).getD i 0 = p
      · rw [if_pos hc, if_pos (by omega)]; rfl
      · rw [if_neg hc, if_neg (by omega)]; rfl
    left
    by_cases hc : (aQ a).getD i 0 = p
    · rw [if_pos hc] at e
      have tf : ((aQ a).take (i + 1)).filter (fun q => decide (q ≠ p)) = ((aQ a).take i).filter (fun q => decide (q ≠ p)) := by
        rw [tk, List.filter_append, hc]
        simp
      refine ⟨(s, g), e, ?_⟩
      rw [tf]
      exact ⟨i1, i2, fun j hj => i3 j (by omega), i4⟩
    · rw [if_neg hc] at e
      have tf : ((aQ a).take (i + 1)).filter (fun q => decide (q ≠ p)) = ((aQ a).take i).filter (fun q => decide (q ≠ p)) ++ [(aQ a).getD i 0] := by
        rw [tk, List.filter_append, List.filter_cons, if_pos (decide_eq_true hc)]
        rfl
      refine ⟨(s + 1, zs g 34 (42 + (((aQ a).take i).filter (fun q => decide (q ≠ p))).length) ((aQ a).getD i 0 : Nat)), e, ?_⟩
      rw [tf, List.length_append, List.length_singleton]
      refine ⟨by dsimp only; omega, fun b hb => by dsimp only; rw [zs_row_ne hb, i2 b hb], fun j hj => ?_, fun j hj => ?_⟩
      · dsimp only; rw [zs_ne (by omega), i3 j (by omega)]
      · dsimp only
        rw [getD_snoc, zs_zup]
        by_cases hj2 : j < (((aQ a).take i).filter (fun q => decide (q ≠ p))).length
        · rw [if_pos hj2, zup_ne (by omega), i4 j hj2]
        · have hj3 : j = (((aQ a).take i).filter (fun q => decide (q ≠ p))).length := by omega
          rw [if_neg hj2, if_pos hj3, hj3, zup_at]
  · obtain ⟨s, g⟩ := s
    obtain ⟨i1, i2, i3, i4⟩ := hI
    dsimp only at i1 i2 i3 i4 ⊢
    rw [List.take_length] at i1 i4
    have hle := List.length_filter_le (fun q => decide (q ≠ p)) (aQ a)
    have q49 : g 34 49 = ((aQ a).length : Int) := by rw [i3 49 (by omega), s3]
    refine ⟨zs (zs (zs (zs g 34 49 s) 34 (6 + p) (-1)) 34 (36 + p) (-1)) 34 (12 + p) 0, ?_, fun b hb => by rw [zs_row_ne hb, zs_row_ne hb, zs_row_ne hb, zs_row_ne hb, i2 b hb], ?_⟩
    · show fX8_leave_c12b N 8 (fX8_leave_c12 N 8 k) (p : Int) (aW a p) s _ g = _
      unfold fX8_leave_c12b
      rw [zf80, q49, if_pos (by omega)]
      simp only [zlet_v]
      rw [sx8_1 (by omega), sx8_6 (by omega), sx8_2 (by omega)]
    · simp only [zs_zup]
      refine ⟨fun q hq => ?_, ?_, ?_, fun i hi => ?_, ?_⟩
      · obtain ⟨q1, q2, q3, q4, q5, q6, q7⟩ := s1 q hq
        rw [← i3 q (by omega)] at q1
        rw [← i3 (6 + q) (by omega)] at q2
        rw [← i3 (12 + q) (by omega)] at q3
        rw [← i3 (18 + q) (by omega)] at q4
        rw [← i3 (24 + q) (by omega)] at q5
        rw [← i3 (30 + q) (by omega)] at q6
        rw [← i3 (36 + q) (by omega)] at q7
        have e0 : aW (aLeave p a) q = if q = p then (-1 : Int) else aW a q := rfl
        have e1 : aD (aLeave p a) q = if q = p then 0 else aD a q := rfl
        show zup _ _ _ q = aH a q ∧ zup _ _ _ (6 + q) = aW (aLeave p a) q ∧ zup _ _ _ (12 + q) = (aD (aLeave p a) q : Int) ∧ zup _ _ _ (18 + q) = aS a q ∧ zup _ _ _ (24 + q) = aP a q ∧ zup _ _ _ (30 + q) = aR a q ∧ zup _ _ _ (36 + q) = stnd t (aW (aLeave p a) q)
        rw [e0, e1]
        by_cases hqp : q = p
        · subst hqp
          rw [if_pos rfl, if_pos rfl, show stnd t (-1) = -1 from if_pos rfl]
          ((repeat' apply And.intro) <;> simp (disch := omega) only [zup_is, zup_ne]) <;> omega
        · rw [if_neg hqp, if_neg hqp]
          ((repeat' apply And.intro) <;> simp (disch := omega) only [zup_is, zup_ne]) <;> omega
      · show zup _ _ _ 48 = _
        have := i3 48 (by omega)
        simp (disch := omega) only [zup_is, zup_ne]
        exact this.trans s2
      · show zup _ _ _ 49 = (((aQ a).filter (fun q => decide (q ≠ p))).length : Int)
        simp (disch := omega) only [zup_is, zup_ne]
        exact i1
      · have hi' : i < ((aQ a).filter (fun q => decide (q ≠ p))).length := hi
        show zup _ _ _ (42 + i) = (((aQ a).filter (fun q => decide (q ≠ p))).getD i 0 : Nat)
        have := i4 i hi'
        rw [← this]
        simp (disch := omega) only [zup_is, zup_ne]
      · show zup _ _ _ 50 = _
        have := i3 50 (by omega)
        simp (disch := omega) only [zup_is, zup_ne]
        exact this.trans s5
