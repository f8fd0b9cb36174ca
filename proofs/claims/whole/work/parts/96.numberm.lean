/-! the model's numbers -/
/-- a number's fault, what is asked being lo..hi -/
def nbf (n : Nat) (b : Nat → Nat) (p : Nat) (lo hi : Int) : Int := if (nbr n b p).2.2 = -1 then (if lo ≤ (nbr n b p).2.1 ∧ (nbr n b p).2.1 ≤ hi then -1 else ((nbr n b p).1 : Int) - 1) else (nbr n b p).2.2
theorem nbf_b {n p : Nat} {b : Nat → Nat} (hp : p ≤ n) (lo hi : Int) : -1 ≤ nbf n b p lo hi ∧ nbf n b p lo hi ≤ n := by
  obtain ⟨b1, b2, b3, b4⟩ := nbr_b (b := b) hp
  unfold nbf
  by_cases c : (nbr n b p).2.2 = -1
  · have := b4 c
    rw [if_pos c]
    split <;> omega
  · rw [if_neg c]
    exact b3
theorem inM {v lo hi : Int} (hv : 0 ≤ v ∧ v ≤ 99) (hl : 0 ≤ lo ∧ lo ≤ 99) (hh : 0 ≤ hi ∧ hi ≤ 99) : fX11_in v lo hi = if lo ≤ v ∧ v ≤ hi then 1 else 0 := by
  unfold fX11_in
  rw [zw_id (show -2147483648 ≤ v ∧ v < 2147483648 by omega), zw_id (show -2147483648 ≤ lo ∧ lo < 2147483648 by omega), zw_id (show -2147483648 ≤ hi ∧ hi < 2147483648 by omega)]
  by_cases c : lo ≤ v ∧ v ≤ hi
  · rw [if_pos c, if_neg (by omega), if_neg (by omega)]
  · rw [if_neg c]
    by_cases c1 : v < lo
    · rw [if_pos c1]
    · rw [if_neg c1, if_pos (by omega)]
theorem c67M {n : Nat} {b : Nat → Nat} (T : TV n b) {N : Nat} {g : zH} (H : TMo n b g) {q : Nat} (hq : q ≤ n) (hpl : g 14 3 = (q : Int)) (hf : g 14 4 = -1) {v lo hi : Int} (hv : 0 ≤ v ∧ v ≤ 99) (hl : 0 ≤ lo ∧ lo ≤ 99) (hh : 0 ≤ hi ∧ hi ≤ 99) : fX11_number_c67 N lo hi v g = if dgp n b q then some (v, zs g 14 4 (q : Int)) else if lo ≤ v ∧ v ≤ hi then some (v, g) else some (v, zs (zs g 14 3 ((q : Int) - 1)) 14 4 ((q : Int) - 1)) := by
  have n240 := T.1
  unfold fX11_number_c67
  rw [hereM T H hpl (by omega), zb_some, isDM (sg_w T)]
  by_cases c : dgp n b q
  · rw [if_pos c, if_pos c, if_neg (show ¬ zw 1 = 0 by decide), badM hf, hpl]
    rfl
  · rw [if_neg c, if_neg c, if_pos zw_0, inM hv hl hh]
    by_cases c1 : lo ≤ v ∧ v ≤ hi
    · rw [if_pos c1, if_pos c1, if_neg (show ¬ zw 1 = 0 by decide)]
    · rw [if_neg c1, if_neg c1, if_pos zw_0]
      simp only [zlet_v]
      rw [badM (by rw [zs_ne (by decide)]; exact hf), zs_at, hpl]
theorem numMo {n : Nat} {b : Nat → Nat} (T : TV n b) {N : Nat} (hN : 300 ≤ N) {g : zH} (H : TMo n b g) {p : Nat} (hp : p ≤ n) (hpl : g 14 3 = (p : Int)) (hf : g 14 4 = -1) {lo hi : Int} (hl : 0 ≤ lo ∧ lo ≤ 99) (hh : 0 ≤ hi ∧ hi ≤ 99) : ∃ v g', fX11_number N lo hi g = some (v, g') ∧ FR [14] g g' ∧ FS 14 [3, 4] g g' ∧ g' 14 4 = nbf n b p lo hi ∧ (nbf n b p lo hi = -1 → v = (nbr n b p).2.1 ∧ g' 14 3 = ((nbr n b p).1 : Int)) := by
  have n240 := T.1
  obtain ⟨g1, e1, e2, e3, e4⟩ := lookM T hN H (show p < 100000 by omega) hpl
  obtain ⟨s1, s2, s3⟩ := skp_b (b := b) hp
  have G1 : FS 14 [3, 4] g g1 := fun q hq => e3 q (fun e => hq (by rw [List.mem_singleton.mp e]; decide))
  have hf1 : g1 14 4 = -1 := by rw [e3 4 (by decide)]; exact hf
  have T1 : TMo n b g1 := TM_to H (G1 2 (by decide)) (e2 49 (by decide))
  -- behind the last digit
  have fin : ∀ (s : zH) (q : Nat) (v : Int), q ≤ n → FR [14] g s → FS 14 [3, 4] g s → s 14 3 = (q : Int) → s 14 4 = -1 → 0 ≤ v ∧ v ≤ 99 → nbr n b p = (q, v, if dgp n b q then (q : Int) else -1) → ∃ v' g', fX11_number_c67 N lo hi v s = some (v', g') ∧ FR [14] g g' ∧ FS 14 [3, 4] g g' ∧ g' 14 4 = nbf n b p lo hi ∧ (nbf n b p lo hi = -1 → v' = (nbr n b p).2.1 ∧ g' 14 3 = ((nbr n b p).1 : Int)) := by
    intro s q v hq F G hs hsf hv he
    rw [c67M T (TM_to H (G 2 (by decide)) (F 49 (by decide))) hq hs hsf hv hl hh]
    unfold nbf
    rw [he]
    by_cases c : dgp n b q
    · rw [if_pos c]
      have hn : ¬ ((q, v, if dgp n b q then (q : Int) else -1) : Nat × Int × Int).2.2 = -1 := by
        show ¬ (if dgp n b q then (q : Int) else -1) = -1
        rw [if_pos c]; omega
      rw [if_neg hn]
      refine ⟨v, _, rfl, FR_tr F (fun b hb => zs_row_ne (fun e => hb (by rw [e]; decide))), FS_tr G (fun q hq => zs_ne (fun e => hq (by rw [e]; decide))), ?_, fun h => absurd h hn⟩
      rw [zs_at]
      show (q : Int) = if dgp n b q then (q : Int) else -1
      rw [if_pos c]
    · rw [if_neg c]
      have hn : ((q, v, (-1 : Int)) : Nat × Int × Int).2.2 = -1 := rfl
      rw [if_neg c, if_pos hn]
      by_cases c1 : lo ≤ v ∧ v ≤ hi
      · rw [if_pos c1, if_pos (show lo ≤ ((q, v, (-1 : Int)) : Nat × Int × Int).2.1 ∧ ((q, v, (-1 : Int)) : Nat × Int × Int).2.1 ≤ hi from c1)]
        exact ⟨v, s, rfl, F, G, hsf, fun _ => ⟨rfl, hs⟩⟩
      · rw [if_neg c1, if_neg (show ¬ (lo ≤ ((q, v, (-1 : Int)) : Nat × Int × Int).2.1 ∧ ((q, v, (-1 : Int)) : Nat × Int × Int).2.1 ≤ hi) from c1)]
        refine ⟨v, _, rfl, FR_tr F (fun b hb => by rw [zs_row_ne (fun e => hb (by rw [e]; decide)), zs_row_ne (fun e => hb (by rw [e]; decide))]), FS_tr G (fun q hq => by rw [zs_ne (fun e => hq (by rw [e]; decide)), zs_ne (fun e => hq (by rw [e]; decide))]), zs_at, fun h => ?_⟩
        have h : (q : Int) - 1 = -1 := h
        have hq0 : q = 0 := by omega
        have := (nbr_b (b := b) hp).2.2.2 (by rw [he]; show (if dgp n b q then (q : Int) else -1) = -1; rw [if_neg c])
        rw [he] at this
        have : 1 ≤ q := this
        omega
  unfold fX11_number
  rw [e1, z2_some, isDM (sg_w T)]
  by_cases c0 : dgp n b (skp n b p)
  · have l0 := dgp_lt c0
    rw [if_pos c0, if_neg (show ¬ zw 1 = 0 by decide), hereM T T1 e4 (by omega), zb_some, e4]
    simp only [zlet_v]
    obtain ⟨g2, eg2⟩ : ∃ g2, g2 = zs g1 14 3 ((skp n b p : Int) + 1) := ⟨_, rfl⟩
    rw [← eg2]
    have F2 : FR [14] g g2 := by rw [eg2]; exact FR_tr e2 (fun b hb => zs_row_ne (fun e => hb (by rw [e]; decide)))
    have G2 : FS 14 [3, 4] g g2 := by rw [eg2]; exact FS_tr G1 (fun q hq => zs_ne (fun e => hq (by rw [e]; decide)))
    have p2 : g2 14 3 = ((skp n b p + 1 : Nat) : Int) := by rw [eg2, zs_at]; rfl
    have f2 : g2 14 4 = -1 := by rw [eg2, zs_ne (by decide)]; exact hf1
    have T2 : TMo n b g2 := TM_to H (G2 2 (by decide)) (F2 49 (by decide))
    rw [hereM T T2 p2 (by omega), zb_some, isDM (sg_w T)]
    by_cases c1 : dgp n b (skp n b p + 1)
    · have l1 := dgp_lt c1
      rw [if_pos c1, if_neg (show ¬ zw 1 = 0 by decide), zb_some, p2]
      obtain ⟨g3, eg3⟩ : ∃ g3, g3 = zs g2 14 3 (((skp n b p + 1 : Nat) : Int) + 1) := ⟨_, rfl⟩
      rw [← eg3]
      have F3 : FR [14] g g3 := by rw [eg3]; exact FR_tr F2 (fun b hb => zs_row_ne (fun e => hb (by rw [e]; decide)))
      have G3 : FS 14 [3, 4] g g3 := by rw [eg3]; exact FS_tr G2 (fun q hq => zs_ne (fun e => hq (by rw [e]; decide)))
      refine fin g3 (skp n b p + 2) _ (by omega) F3 G3 (by rw [eg3, zs_at]; rfl) (by rw [eg3, zs_ne (by decide)]; exact f2) (by omega) ?_
      unfold nbr
      rw [if_pos c0, if_pos c1, show (10 * (sg n b (skp n b p) - 48)) + sg n b (skp n b p + 1) - 48 = (sg n b (skp n b p) - 48) * 10 + sg n b (skp n b p + 1) - 48 by omega]
    · rw [if_neg c1, if_pos zw_0]
      refine fin g2 (skp n b p + 1) _ (by omega) F2 G2 p2 f2 (by omega) ?_
      unfold nbr
      rw [if_pos c0, if_neg c1, if_neg c1]
  · rw [if_neg c0, if_pos zw_0, badM hf1, zlet_v, e4]
    have en : nbr n b p = (skp n b p, 0, (skp n b p : Int)) := by unfold nbr; rw [if_neg c0]
    have hn : nbf n b p lo hi = (skp n b p : Int) := by
      unfold nbf
      rw [en, if_neg (show ¬ ((skp n b p : Nat) : Int) = -1 by omega)]
    rw [hn]
    exact ⟨_, _, rfl, FR_tr e2 (fun b hb => zs_row_ne (fun e => hb (by rw [e]; decide))), FS_tr G1 (fun q hq => zs_ne (fun e => hq (by rw [e]; decide))), zs_at, fun h => by omega⟩
