/-! the reference's atoms and sums, all of them -/
/-- an atom, by what a bracket does -/
theorem atomM {n : Nat} {b : Nat → Nat} (T : TV n b) {N : Nat} (hN : 300 ≤ N) {x r : Nat} (hx : x < 5) (hr : r ≤ 6) {A Tm S : zH → Option zH} {inner : Nat → rRes} (hi : ∀ (g0 g : zH) (p c d : Nat), GKp x c g0 g → GI n b x p c d g → g 14 3 = (skp n b p : Int) → p ≤ n → c ≤ p → d + r = 6 → skp n b p + 1 ≤ n → ∃ g', (if zw (fX11_opens g 14 4) = zw (-1) then zb (S (fX11_opens g)) fun h8 => zb (fX11_closes N 93 h8) fun h9 => some h9 else some (fX11_opens g)) = some g' ∧ GOr n b x p c d (n + 2 + r) (inner (skp n b p)) g0 g') : MCr n b x r (fX11_atom_b N A Tm S) (atB n b inner) := by
  intro g p c d H hp hcp hd
  have n240 := T.1
  obtain ⟨g1, l1, l2, l3, l4, l5⟩ := GI_look T hN H
  have sk := skp_b (b := b) hp
  have sw := sg_w (p := skp n b p) T
  have K1 : GKp x c g g1 := GKp_14 l2 (FS_up l3 (by decide))
  unfold fX11_atom_b atB
  rw [l1, z2_some, isDM sw]
  by_cases c0 : dgp n b (skp n b p)
  · rw [if_pos c0, if_pos c0, if_neg (show ¬ zw 1 = 0 by decide)]
    obtain ⟨d1, d2, d3, d4⟩ := dg4_b c0
    have H1 : GI n b x (skp n b p) c d g1 := ⟨l5.1, ⟨skp n b p, l4, Nat.le_refl _, sk.2.1, rfl⟩, l5.2.2⟩
    obtain ⟨g2, m1', m2', m3', m4', m5'⟩ := numML T (N := N) 4 (skp n b p) N 0 0 g1 rfl (by omega) (Or.inr c0) H1 l4
    have e0 : fX11_plainNumber N g1 = some ((dg4 n b (skp n b p)).2, g2) := m1'
    have m4' : g2 14 3 = ((dg4 n b (skp n b p)).1 : Int) := m4'
    have m5' : g2 14 4 = if dgp n b (dg4 n b (skp n b p)).1 then ((dg4 n b (skp n b p)).1 : Int) else -1 := m5'
    rw [e0, z2_some]
    have h14 : g2 14 14 = (x : Int) := by rw [m3' 14 (by decide)]; exact l5.2.2.2.2.1
    have h52 : g2 52 x = (c : Int) := by rw [m2' 52 (by decide)]; exact l5.2.2.2.2.2
    rw [putM hx (by omega) h14 h52, zb_some]
    have K2 : GKp x c g (zs (zs (zs g2 50 (520 * x + c) 0) 51 (520 * x + c) (dg4 n b (skp n b p)).2) 52 x ((c + 1 : Nat) : Int)) := GKp_tr K1 (GKp_tr (GKp_14 m2' (FS_up m3' (by decide))) (put_K (c0 := c) (by omega) (Nat.le_refl c)) (Nat.le_refl c)) (Nat.le_refl c)
    have TM2 := TM_to l5.1 (m3' 2 (by decide)) (m2' 49 (by decide))
    refine ⟨_, rfl, K2, fun hf => ?_, fun hf => ?_⟩
    · have hf : (if dgp n b (dg4 n b (skp n b p)).1 then ((dg4 n b (skp n b p)).1 : Int) else -1) = -1 := hf
      have nd : ¬ dgp n b (dg4 n b (skp n b p)).1 := fun h => by rw [if_pos h] at hf; omega
      rw [if_neg nd] at m5'
      have G2 : GI n b x (dg4 n b (skp n b p)).1 c d g2 := ⟨TM2, ⟨_, m4', Nat.le_refl _, d2, rfl⟩, m5', by rw [m3' 5 (by decide)]; exact l5.2.2.2.1, h14, h52⟩
      have sg0 := put_seg (x := x) (c0 := c) (g := g2) (m := 0) (v := (dg4 n b (skp n b p)).2) (M := []) (w := ((c + 1 : Nat) : Int)) (fun j hj => absurd (show j < 0 from hj) (by omega)) (fun j hj => absurd (show j < 0 from hj) (by omega))
      exact ⟨put_GI G2, sg0.1, sg0.2⟩
    · have hf' : (if dgp n b (dg4 n b (skp n b p)).1 then ((dg4 n b (skp n b p)).1 : Int) else -1) ≠ -1 := hf
      have e14 : zs (zs (zs g2 50 (520 * x + c) 0) 51 (520 * x + c) (dg4 n b (skp n b p)).2) 52 x ((c + 1 : Nat) : Int) 14 = g2 14 := by rw [zs_row_ne (by decide), zs_row_ne (by decide), zs_row_ne (by decide)]
      refine ⟨by rw [e14]; exact m5', TM_to TM2 (by rw [e14]) (by rw [zs_row_ne (by decide), zs_row_ne (by decide), zs_row_ne (by decide)]), by rw [e14]; exact h14, c + 1, (dg4 n b (skp n b p)).1, zs_at, by rw [e14]; exact m4', by omega, by omega, by omega⟩
  · rw [if_neg c0, if_neg c0, if_pos zw_0]
    have lb := ltr_b (sg n b (skp n b p))
    have e1 : zw (fX11_letterOf (sg n b (skp n b p))) = ltr (sg n b (skp n b p)) := zw_id (show -2147483648 ≤ ltr (sg n b (skp n b p)) ∧ ltr (sg n b (skp n b p)) < 2147483648 by omega)
    rw [e1, zw_m1]
    by_cases c1 : ltr (sg n b (skp n b p)) = -1
    · rw [if_pos c1, if_pos c1, sw, show zw 91 = 91 by decide]
      by_cases c2 : sg n b (skp n b p) = 91
      · have hlt : skp n b p < n := sg_lt (b := b) (by rw [c2]; decide)
        rw [if_pos c2, if_pos c2, zlet_v, ← zw_m1]
        exact hi g g1 p c d K1 l5 l4 hp hcp hd (by omega)
      · rw [if_neg c2, if_neg c2, zlet_v]
        exact ⟨_, rfl, (bad_O K1 l5 l4 sk.1 (by omega)).1⟩
    · rw [if_neg c1, if_neg c1, zlet_v]
      have hlt : skp n b p < n := sg_lt (b := b) (ltr_0 c1)
      have G2 := GI_on l5 l4 (by omega)
      have h14 : zs g1 14 3 (g1 14 3 + 1) 14 14 = (x : Int) := G2.2.2.2.2.1
      have h52 : zs g1 14 3 (g1 14 3 + 1) 52 x = (c : Int) := G2.2.2.2.2.2
      rw [putM hx (by omega) h14 h52, zb_some]
      have sg0 := put_seg (x := x) (c0 := c) (g := zs g1 14 3 (g1 14 3 + 1)) (m := 1) (v := ltr (sg n b (skp n b p))) (M := []) (w := ((c + 1 : Nat) : Int)) (fun j hj => absurd (show j < 0 from hj) (by omega)) (fun j hj => absurd (show j < 0 from hj) (by omega))
      have K2 : GKp x c g (zs (zs (zs (zs g1 14 3 (g1 14 3 + 1)) 50 (520 * x + c) 1) 51 (520 * x + c) (fX11_letterOf (sg n b (skp n b p)))) 52 x ((c + 1 : Nat) : Int)) := GKp_tr K1 (GKp_tr on_K (put_K (c0 := c) (by omega) (Nat.le_refl c)) (Nat.le_refl c)) (Nat.le_refl c)
      refine ⟨_, rfl, K2, fun hf => ⟨put_GI G2, sg0.1, ?_⟩, fun h => absurd rfl h⟩
      have eV1 : eM (eLet (ltr (sg n b (skp n b p))).toNat) = [] ++ [(1, ltr (sg n b (skp n b p)))] := by
        show [((1 : Int), ((ltr (sg n b (skp n b p))).toNat : Int))] = _
        rw [Int.toNat_of_nonneg (by omega)]; rfl
      show sgm _ _ (m2 (eM (eLet (ltr (sg n b (skp n b p))).toNat)))
      rw [eV1]
      exact sg0.2
theorem MC_all {n : Nat} {b : Nat → Nat} (T : TV n b) {N : Nat} (hN : 300 ≤ N) {x : Nat} (hx : x < 5) (r : Nat) : r ≤ 6 → (∀ K, 3 * r + 1 ≤ K → MCr n b x r ((fG_X11_atom N K).1) (AT n b r)) ∧ (∀ K, 3 * r + 3 ≤ K → MCr n b x r ((fG_X11_atom N K).2.2) (SU n b r)) := by
  have n240 := T.1
  -- sums from atoms
  have sums : ∀ r, r ≤ 6 → (∀ K, 3 * r + 1 ≤ K → MCr n b x r ((fG_X11_atom N K).1) (AT n b r)) → ∀ K, 3 * r + 3 ≤ K → MCr n b x r ((fG_X11_atom N K).2.2) (SU n b r) := fun r hr hA K hK => by
    obtain ⟨K, rfl⟩ : ∃ K', K = K' + 2 := ⟨K - 2, by omega⟩
    have hT : MCr n b x r (fX11_term_b N ((fG_X11_atom N K).1) ((fG_X11_atom N K).2.1) ((fG_X11_atom N K).2.2)) (trm n b (AT n b r)) := termGM T hN hx hr (fun q hq => PM_e (PF_AT r q hq)) (hA K (by omega))
    exact sumGM T hN hx hr (fun q hq => PM_e (PF_trm (PF_AT r) hq)) hT
  induction r with
  | zero =>
    intro _
    have hA : ∀ K, 3 * 0 + 1 ≤ K → MCr n b x 0 ((fG_X11_atom N K).1) (AT n b 0) := fun K hK => by
      obtain ⟨K, rfl⟩ : ∃ K', K = K' + 1 := ⟨K - 1, by omega⟩
      show MCr n b x 0 (fX11_atom_b N ((fG_X11_atom N K).1) ((fG_X11_atom N K).2.1) ((fG_X11_atom N K).2.2)) (atB n b (fun q => (q, (q : Int), eD)))
      refine atomM T hN hx (by decide) (fun g0 g p c d Kp H hq hp hcp hd hlt => ?_)
      have sk := skp_b (b := b) hp
      obtain ⟨o1, o2⟩ := opens6 (e := eD) (B := n + 2 + 0) Kp H hq sk.1 (by omega) (by omega)
      rw [o2, zw_m1, zw_id (show -2147483648 ≤ (skp n b p : Int) ∧ (skp n b p : Int) < 2147483648 by omega), if_neg (by omega)]
      exact ⟨_, rfl, o1⟩
    exact ⟨hA, sums 0 (by decide) hA⟩
  | succ r ih =>
    intro hr
    obtain ⟨ihA, ihS⟩ := ih (by omega)
    have hA : ∀ K, 3 * (r + 1) + 1 ≤ K → MCr n b x (r + 1) ((fG_X11_atom N K).1) (AT n b (r + 1)) := fun K hK => by
      obtain ⟨K, rfl⟩ : ∃ K', K = K' + 1 := ⟨K - 1, by omega⟩
      show MCr n b x (r + 1) (fX11_atom_b N ((fG_X11_atom N K).1) ((fG_X11_atom N K).2.1) ((fG_X11_atom N K).2.2)) (atB n b (fun q => clo n b 93 (smm n b (AT n b r) (q + 1))))
      refine atomM T hN hx (by omega) (fun g0 g p c d Kp H hq hp hcp hd hlt => ?_)
      have sk := skp_b (b := b) hp
      obtain ⟨o1, o2, o3⟩ := opensM H hq hlt (by omega)
      rw [o1.2.2.1, if_pos rfl]
      obtain ⟨g2, s1, s2⟩ := ihS K (by omega) (fX11_opens g) (skp n b p + 1) c (d + 1) o1 (by omega) (by omega) (by omega)
      rw [s1, zb_some]
      have G2 : GOr n b x (skp n b p + 1) c (d + 1) (n + 2 + (r + 1) - 1) (SU n b r (skp n b p + 1)) g0 g2 := by
        refine ⟨GKp_tr (GKp_tr Kp (GKp_14 o2 o3) (Nat.le_refl c)) s2.1 (Nat.le_refl c), s2.2.1, ?_⟩
        rw [show n + 2 + (r + 1) - 1 = n + 2 + r by omega]
        exact s2.2.2
      obtain ⟨g3, t1, t2⟩ := closesM T hN (p := p) (d := d) (B := n + 2 + (r + 1)) (s := 93) (by decide) (by decide) (by omega) (show p ≤ skp n b p + 1 by omega) (PM_e (PF_SU r (show skp n b p + 1 ≤ n by omega))) G2
      rw [t1, zb_some]
      exact ⟨g3, rfl, t2⟩
    exact ⟨hA, sums (r + 1) hr hA⟩
theorem MC_SU {n : Nat} {b : Nat → Nat} (T : TV n b) {N : Nat} (hN : 300 ≤ N) {x r : Nat} (hx : x < 5) (hr : r ≤ 6) : MCr n b x r (fX11_sum N) (SU n b r) := (MC_all T hN hx r hr).2 60 (by omega)
