/-! the reference's comparisons, conditions, units -/
theorem isSgM {c : Int} (hc : zw c = c) : fX11_isSign c = if isS c then 1 else 0 := by
  unfold fX11_isSign
  rw [hc, show zw 61 = 61 by decide, show zw 60 = 60 by decide, show zw 62 = 62 by decide]
  by_cases h : isS c
  · rw [if_pos h]
    unfold isS at h
    by_cases h1 : c = 61
    · rw [if_pos h1]
    · rw [if_neg h1]
      by_cases h2 : c = 60
      · rw [if_pos h2]
      · rw [if_neg h2, if_pos (by omega)]
  · rw [if_neg h]
    unfold isS at h
    rw [if_neg (by omega), if_neg (by omega), if_neg (by omega)]
theorem PM_cmp {n : Nat} {b : Nat → Nat} {r p : Nat} {a : rRes} (ha : PF n (2 * r + 3) OKe p a) : PMr n p (cmpP n b (SU n b r) a) := PM_b (PF_cmp (fun q hq => PF_SU r hq) ha)
/-- a comparison behind its left side -/
theorem cmpM {n : Nat} {b : Nat → Nat} (T : TV n b) {N : Nat} (hN : 300 ≤ N) {x r p c d : Nat} (hx : x < 5) (hr : r ≤ 6) {a : rRes} {g g1 : zH} (hf : a.2.1 = -1) (hP : PMr n p a) (hcp : c ≤ p) (hd : d + r = 6) (K : GKp x c g g1) (O : GOk n b x c d a g1) : ∃ g', fX11_compare N g1 = some g' ∧ GOr n b x p c d (n + 2 + r) (cmpP n b (SU n b r) a) g g' := by
  have n240 := T.1
  obtain ⟨a1, a2, a3⟩ := hP.1 hf
  have sk := skp_b (b := b) a2
  have sw := sg_w (p := skp n b a.1) T
  obtain ⟨g2, l1, l2, l3, l4, l5⟩ := GI_look T hN O.1
  have K2 : GKp x c g g2 := GKp_tr K (GKp_14 l2 (FS_up l3 (by decide))) (Nat.le_refl c)
  unfold fX11_compare fX11_compare_c16 cmpP
  rw [O.1.2.2.1, if_pos rfl, l1, z2_some, if_pos hf, isSgM sw, sw, show zw 61 = 61 by decide, show zw 60 = 60 by decide]
  by_cases c1 : isS (sg n b (skp n b a.1))
  · have hlt : skp n b a.1 < n := sg_lt (b := b) (fun e => by rw [e] at c1; revert c1; decide)
    rw [if_pos c1, if_pos c1, if_neg (show ¬ zw 1 = 0 by decide), zlet_v]
    have GI3 := GI_on l5 l4 (by omega)
    have K3 : GKp x c g (zs g2 14 3 (g2 14 3 + 1)) := GKp_tr K2 on_K (Nat.le_refl c)
    have F3 : FR [14] g1 (zs g2 14 3 (g2 14 3 + 1)) := FR_tr l2 (fun b hb => zs_row_ne (fun e => hb (by rw [e]; decide)))
    obtain ⟨g4, i1, i2⟩ := MC_SU T hN hx hr _ (skp n b a.1 + 1) (c + (eM a.2.2).length) d GI3 (by omega) (by omega) hd
    obtain ⟨g5, p1, p2, _⟩ := GO_bin (s := sg n b (skp n b a.1)) (m := mS (sg n b (skp n b a.1))) T hx (by omega) hcp hf hP (PM_e (PF_SU r (show skp n b a.1 + 1 ≤ n by omega))) K3 (by rw [F3 50 (by decide)]; exact O.2.1) (by rw [F3 51 (by decide)]; exact O.2.2) i2
    rw [i1, zb_some]
    have c1' := c1
    unfold isS at c1'
    unfold mS at p1
    by_cases d1 : sg n b (skp n b a.1) = 61
    · rw [if_pos d1] at p1
      rw [if_pos d1, p1, zb_some]
      exact ⟨g5, rfl, p2⟩
    · rw [if_neg d1] at p1
      rw [if_neg d1]
      by_cases d2 : sg n b (skp n b a.1) = 60
      · rw [if_pos d2] at p1
        rw [if_pos d2, p1, zb_some]
        exact ⟨g5, rfl, p2⟩
      · rw [if_neg d2] at p1
        rw [if_neg d2, p1, zb_some]
        exact ⟨g5, rfl, p2⟩
  · rw [if_neg c1, if_neg c1, if_pos zw_0, zlet_v]
    refine ⟨_, rfl, ?_⟩
    have e0 : fX11_bad g2 = zs g2 14 4 (skp n b a.1 : Int) := by rw [badM l5.2.2.1, l4]
    rw [e0]
    refine ⟨GKp_tr K2 (GKp_14 (fun b hb => zs_row_ne (fun e => hb (by rw [e]; decide))) (fun q hq => zs_ne (fun e => hq (by rw [e]; decide)))) (Nat.le_refl c), fun h => absurd (show (skp n b a.1 : Int) = -1 from h) (by omega), fun _ => ⟨zs_at, TM_to l5.1 (by rw [zs_ne (by decide)]) (zs_row_ne (by decide)), by rw [zs_ne (by decide)]; exact l5.2.2.2.2.1, c + (eM a.2.2).length, skp n b a.1, by rw [zs_row_ne (by decide)]; exact l5.2.2.2.2.2, by rw [zs_ne (by decide)]; exact l4, by omega, by omega, by omega⟩⟩
theorem andLM {n : Nat} {b : Nat → Nat} (T : TV n b) {N : Nat} (hN : 300 ≤ N) {x r : Nat} (hx : x < 5) (hr : r ≤ 6) {Or' An U C : zH → Option zH} {it : Nat → rRes} (hI : ∀ q, q ≤ n → PMr n q (it q)) (hM : MCr n b x r U it) (k : Nat) : ∀ (a : rRes) (p c d F : Nat) (g g1 : zH), PMr n p a → (a.2.1 = -1 → n < a.1 + k) → k < F → c ≤ p → d + r = 6 → GOr n b x p c d (n + 2 + r) a g g1 → ∃ g', fX11_goOnAnd_c0 N Or' An U C F g1 = some g' ∧ GOr n b x p c d (n + 2 + r) (opL n b 38 10 38 10 it k a) g g' := by
  have n240 := T.1
  induction k with
  | zero =>
    intro a p c d F g g1 hP hk hF hcp hd G
    obtain ⟨F, rfl⟩ : ∃ F', F = F' + 1 := ⟨F - 1, by omega⟩
    by_cases hf : a.2.1 = -1
    · have := (hP.1 hf).2.1
      have := hk hf
      omega
    · have hb := hP.2 hf
      refine ⟨g1, ?_, G⟩
      show fX11_goOnAnd_c0b N Or' An U C (fX11_goOnAnd_c0 N Or' An U C F) g1 = _
      unfold fX11_goOnAnd_c0b
      rw [(G.2.2 hf).1, zw_m1, zw_id (show -2147483648 ≤ a.2.1 ∧ a.2.1 < 2147483648 by omega), if_neg hf]
  | succ k ih =>
    intro a p c d F g g1 hP hk hF hcp hd G
    obtain ⟨F, rfl⟩ : ∃ F', F = F' + 1 := ⟨F - 1, by omega⟩
    show ∃ g', fX11_goOnAnd_c0b N Or' An U C (fX11_goOnAnd_c0 N Or' An U C F) g1 = _ ∧ _
    unfold fX11_goOnAnd_c0b opL
    by_cases hf : a.2.1 = -1
    · obtain ⟨a1, a2, a3⟩ := hP.1 hf
      have hk := hk hf
      have sk := skp_b (b := b) a2
      have sw := sg_w (p := skp n b a.1) T
      have O := G.2.1 hf
      obtain ⟨g2, l1, l2, l3, l4, l5⟩ := GI_look T hN O.1
      have K2 : GKp x c g g2 := GKp_tr G.1 (GKp_14 l2 (FS_up l3 (by decide))) (Nat.le_refl c)
      rw [O.1.2.2.1, if_pos rfl, l1, z2_some, if_pos hf, sw, show zw 38 = 38 by decide]
      by_cases c1 : sg n b (skp n b a.1) = 38
      · have hlt : skp n b a.1 < n := sg_lt (b := b) (by omega)
        rw [if_pos c1, if_pos (Or.inl c1), zlet_v]
        have hI' := hI (skp n b a.1 + 1) (by omega)
        have GI3 := GI_on l5 l4 (by omega)
        have K3 : GKp x c g (zs g2 14 3 (g2 14 3 + 1)) := GKp_tr K2 on_K (Nat.le_refl c)
        have F3 : FR [14] g1 (zs g2 14 3 (g2 14 3 + 1)) := FR_tr l2 (fun b hb => zs_row_ne (fun e => hb (by rw [e]; decide)))
        obtain ⟨g3, eg3⟩ : ∃ g3, g3 = zs g2 14 3 (g2 14 3 + 1) := ⟨_, rfl⟩
        rw [← eg3] at GI3 K3 F3 ⊢
        obtain ⟨g4, i1, i2⟩ := hM g3 (skp n b a.1 + 1) (c + (eM a.2.2).length) d GI3 (by omega) (by omega) hd
        rw [i1, zb_some]
        obtain ⟨it', eit⟩ : ∃ it', it' = it (skp n b a.1 + 1) := ⟨_, rfl⟩
        rw [← eit] at i2 hI' ⊢
        obtain ⟨g5, p1, p2, _⟩ := GO_bin (s := sg n b (skp n b a.1)) (m := 10) T hx (by omega) hcp hf hP hI' K3 (by rw [F3 50 (by decide)]; exact O.2.1) (by rw [F3 51 (by decide)]; exact O.2.2) i2
        rw [p1, zb_some]
        have em : (if sg n b (skp n b a.1) = 38 then (10 : Int) else 10) = 10 := by split <;> rfl
        rw [em]
        by_cases ci : it'.2.1 = -1
        · rw [if_pos ci] at p2 ⊢
          obtain ⟨j1, j2, j3⟩ := hI'.1 ci
          refine ih (it'.1, -1, eBin (sg n b (skp n b a.1)) 10 a.2.2 it'.2.2) p c d F g g5 ⟨fun _ => ⟨by show p < it'.1; omega, j2, ?_⟩, fun h => absurd rfl h⟩ (fun _ => by show n < it'.1 + k; omega) (by omega) hcp hd p2
          show p + (eM a.2.2 ++ (eM it'.2.2 ++ [((10 : Int), (0 : Int))])).length ≤ it'.1
          rw [List.length_append, List.length_append, List.length_singleton]
          omega
        · rw [if_neg ci] at p2 ⊢
          have e2 : opL n b 38 10 38 10 it k it' = it' := by
            cases k with
            | zero => rfl
            | succ k => unfold opL; rw [if_neg ci]
          have := ih it' p c d F g g5 ⟨fun h => absurd h ci, hI'.2⟩ (fun h => absurd h ci) (by omega) hcp hd p2
          rw [e2] at this
          exact this
      · rw [if_neg c1, if_neg (fun h => c1 (by rcases h with h | h <;> exact h))]
        exact ⟨g2, rfl, K2, fun _ => GOk_14 O l2 l5, fun h => absurd hf h⟩
    · have hb := hP.2 hf
      rw [(G.2.2 hf).1, zw_m1, zw_id (show -2147483648 ≤ a.2.1 ∧ a.2.1 < 2147483648 by omega), if_neg hf, if_neg hf]
      exact ⟨g1, rfl, G⟩
theorem orLM {n : Nat} {b : Nat → Nat} (T : TV n b) {N : Nat} (hN : 300 ≤ N) {x r : Nat} (hx : x < 5) (hr : r ≤ 6) {Or' An U C : zH → Option zH} {it : Nat → rRes} (hI : ∀ q, q ≤ n → PMr n q (it q)) (hM : MCr n b x r (fun h => zb (U h) fun h6 => zb (An h6) fun h7 => some h7) it) (k : Nat) : ∀ (a : rRes) (p c d F : Nat) (g g1 : zH), PMr n p a → (a.2.1 = -1 → n < a.1 + k) → k < F → c ≤ p → d + r = 6 → GOr n b x p c d (n + 2 + r) a g g1 → ∃ g', fX11_goOnOr_c0 N Or' An U C F g1 = some g' ∧ GOr n b x p c d (n + 2 + r) (opL n b 124 11 124 11 it k a) g g' := by
  have n240 := T.1
  induction k with
  | zero =>
    intro a p c d F g g1 hP hk hF hcp hd G
    obtain ⟨F, rfl⟩ : ∃ F', F = F' + 1 := ⟨F - 1, by omega⟩
    by_cases hf : a.2.1 = -1
    · have := (hP.1 hf).2.1
      have := hk hf
      omega
    · have hb := hP.2 hf
      refine ⟨g1, ?_, G⟩
      show fX11_goOnOr_c0b N Or' An U C (fX11_goOnOr_c0 N Or' An U C F) g1 = _
      unfold fX11_goOnOr_c0b
      rw [(G.2.2 hf).1, zw_m1, zw_id (show -2147483648 ≤ a.2.1 ∧ a.2.1 < 2147483648 by omega), if_neg hf]
  | succ k ih =>
    intro a p c d F g g1 hP hk hF hcp hd G
    obtain ⟨F, rfl⟩ : ∃ F', F = F' + 1 := ⟨F - 1, by omega⟩
    show ∃ g', fX11_goOnOr_c0b N Or' An U C (fX11_goOnOr_c0 N Or' An U C F) g1 = _ ∧ _
    unfold fX11_goOnOr_c0b opL
    by_cases hf : a.2.1 = -1
    · obtain ⟨a1, a2, a3⟩ := hP.1 hf
      have hk := hk hf
      have sk := skp_b (b := b) a2
      have sw := sg_w (p := skp n b a.1) T
      have O := G.2.1 hf
      obtain ⟨g2, l1, l2, l3, l4, l5⟩ := GI_look T hN O.1
      have K2 : GKp x c g g2 := GKp_tr G.1 (GKp_14 l2 (FS_up l3 (by decide))) (Nat.le_refl c)
      rw [O.1.2.2.1, if_pos rfl, l1, z2_some, if_pos hf, sw, show zw 124 = 124 by decide]
      by_cases c1 : sg n b (skp n b a.1) = 124
      · have hlt : skp n b a.1 < n := sg_lt (b := b) (by omega)
        rw [if_pos c1, if_pos (Or.inl c1), zlet_v]
        have hI' := hI (skp n b a.1 + 1) (by omega)
        have GI3 := GI_on l5 l4 (by omega)
        have K3 : GKp x c g (zs g2 14 3 (g2 14 3 + 1)) := GKp_tr K2 on_K (Nat.le_refl c)
        have F3 : FR [14] g1 (zs g2 14 3 (g2 14 3 + 1)) := FR_tr l2 (fun b hb => zs_row_ne (fun e => hb (by rw [e]; decide)))
        obtain ⟨g3, eg3⟩ : ∃ g3, g3 = zs g2 14 3 (g2 14 3 + 1) := ⟨_, rfl⟩
        rw [← eg3] at GI3 K3 F3 ⊢
        obtain ⟨g4, i1, i2⟩ := hM g3 (skp n b a.1 + 1) (c + (eM a.2.2).length) d GI3 (by omega) (by omega) hd
        obtain ⟨g3', j1, j2⟩ : ∃ h6, U g3 = some h6 ∧ An h6 = some g4 := by
          cases hu : U g3 with
          | none =>
            have i1 : zb (U g3) _ = some g4 := i1
            rw [hu] at i1; cases i1
          | some h6 =>
            have i1 : zb (U g3) (fun h6 => zb (An h6) fun h7 => some h7) = some g4 := i1
            rw [hu, zb_some] at i1
            cases ha : An h6 with
            | none => rw [ha] at i1; cases i1
            | some h7 => rw [ha, zb_some] at i1; exact ⟨h6, rfl, by rw [ha]; exact i1⟩
        rw [j1, zb_some, j2, zb_some]
        obtain ⟨it', eit⟩ : ∃ it', it' = it (skp n b a.1 + 1) := ⟨_, rfl⟩
        rw [← eit] at i2 hI' ⊢
        obtain ⟨g5, p1, p2, _⟩ := GO_bin (s := sg n b (skp n b a.1)) (m := 11) T hx (by omega) hcp hf hP hI' K3 (by rw [F3 50 (by decide)]; exact O.2.1) (by rw [F3 51 (by decide)]; exact O.2.2) i2
        rw [p1, zb_some]
        have em : (if sg n b (skp n b a.1) = 124 then (11 : Int) else 11) = 11 := by split <;> rfl
        rw [em]
        by_cases ci : it'.2.1 = -1
        · rw [if_pos ci] at p2 ⊢
          obtain ⟨j1, j2, j3⟩ := hI'.1 ci
          refine ih (it'.1, -1, eBin (sg n b (skp n b a.1)) 11 a.2.2 it'.2.2) p c d F g g5 ⟨fun _ => ⟨by show p < it'.1; omega, j2, ?_⟩, fun h => absurd rfl h⟩ (fun _ => by show n < it'.1 + k; omega) (by omega) hcp hd p2
          show p + (eM a.2.2 ++ (eM it'.2.2 ++ [((11 : Int), (0 : Int))])).length ≤ it'.1
          rw [List.length_append, List.length_append, List.length_singleton]
          omega
        · rw [if_neg ci] at p2 ⊢
          have e2 : opL n b 124 11 124 11 it k it' = it' := by
            cases k with
            | zero => rfl
            | succ k => unfold opL; rw [if_neg ci]
          have := ih it' p c d F g g5 ⟨fun h => absurd h ci, hI'.2⟩ (fun h => absurd h ci) (by omega) hcp hd p2
          rw [e2] at this
          exact this
      · rw [if_neg c1, if_neg (fun h => c1 (by rcases h with h | h <;> exact h))]
        exact ⟨g2, rfl, K2, fun _ => GOk_14 O l2 l5, fun h => absurd hf h⟩
    · have hb := hP.2 hf
      rw [(G.2.2 hf).1, zw_m1, zw_id (show -2147483648 ≤ a.2.1 ∧ a.2.1 < 2147483648 by omega), if_neg hf, if_neg hf]
      exact ⟨g1, rfl, G⟩
theorem orP_and {n : Nat} {b : Nat → Nat} {u : Nat → rRes} (q : Nat) : opG n b 38 10 38 10 u q = andK n b u (u q) := rfl
/-- a condition of units -/
theorem condM {n : Nat} {b : Nat → Nat} (T : TV n b) {N : Nat} (hN : 300 ≤ N) {x r : Nat} (hx : x < 5) (hr : r ≤ 6) (K : Nat) (hU : ∀ K', K ≤ K' → MCr n b x r ((fG_X11_goOnOr N K').2.2.1) (UN n b r)) : (∀ K', K + 1 ≤ K' → ∀ (a : rRes) (p c d : Nat) (g g1 : zH), PF n (2 * r + 5) OKb p a → c ≤ p → d + r = 6 → GOr n b x p c d (n + 2 + r) a g g1 → ∃ g', (fG_X11_goOnOr N K').2.1 g1 = some g' ∧ GOr n b x p c d (n + 2 + r) (andK n b (UN n b r) a) g g') ∧ (∀ K', K + 2 ≤ K' → ∀ (a : rRes) (p c d : Nat) (g g1 : zH), PF n (2 * r + 6) OKb p a → c ≤ p → d + r = 6 → GOr n b x p c d (n + 2 + r) a g g1 → ∃ g', (fG_X11_goOnOr N K').1 g1 = some g' ∧ GOr n b x p c d (n + 2 + r) (orK n b (UN n b r) a) g g') ∧ (∀ K', K + 3 ≤ K' → MCr n b x r ((fG_X11_goOnOr N K').2.2.2) (condG n b (UN n b r))) := by
  have n240 := T.1
  have hUI : ∀ q, q ≤ n → PMr n q (UN n b r q) := fun q hq => PM_b (PF_UN r q hq)
  have fuel : ∀ (p : Nat) (a : rRes) (B : Nat), PF n B OKb p a → a.2.1 = -1 → n < a.1 + (n + 1) := fun p a B h hf => by
    have := (h.1 hf).1
    omega
  have hAnd : ∀ K', K + 1 ≤ K' → ∀ (a : rRes) (p c d : Nat) (g g1 : zH), PF n (2 * r + 5) OKb p a → c ≤ p → d + r = 6 → GOr n b x p c d (n + 2 + r) a g g1 → ∃ g', (fG_X11_goOnOr N K').2.1 g1 = some g' ∧ GOr n b x p c d (n + 2 + r) (andK n b (UN n b r) a) g g' := fun K' hK a p c d g g1 hP hcp hd G => by
    obtain ⟨K1, rfl⟩ : ∃ K1, K' = K1 + 1 := ⟨K' - 1, by omega⟩
    exact andLM T hN hx hr (Or' := (fG_X11_goOnOr N K1).1) (An := (fG_X11_goOnOr N K1).2.1) (U := (fG_X11_goOnOr N K1).2.2.1) (C := (fG_X11_goOnOr N K1).2.2.2) hUI (hU K1 (by omega)) (n + 1) a p c d N g g1 (PM_b hP) (fuel p a _ hP) (by omega) hcp hd G
  have hIt : ∀ K', K + 1 ≤ K' → MCr n b x r (fun h => zb ((fG_X11_goOnOr N K').2.2.1 h) fun h6 => zb ((fG_X11_goOnOr N K').2.1 h6) fun h7 => some h7) (opG n b 38 10 38 10 (UN n b r)) := fun K' hK g p c d H hp hcp hd => by
    obtain ⟨g2, u1, u2⟩ := hU K' (by omega) g p c d H hp hcp hd
    obtain ⟨g3, v1, v2⟩ := hAnd K' hK (UN n b r p) p c d g g2 (PF_up (PF_UN r p hp) (by omega) (fun _ h => h) (Nat.le_refl p)) hcp hd u2
    refine ⟨g3, ?_, v2⟩
    show zb ((fG_X11_goOnOr N K').2.2.1 g) (fun h6 => zb ((fG_X11_goOnOr N K').2.1 h6) fun h7 => some h7) = some g3
    rw [u1, zb_some, v1, zb_some]
  have hOr : ∀ K', K + 2 ≤ K' → ∀ (a : rRes) (p c d : Nat) (g g1 : zH), PF n (2 * r + 6) OKb p a → c ≤ p → d + r = 6 → GOr n b x p c d (n + 2 + r) a g g1 → ∃ g', (fG_X11_goOnOr N K').1 g1 = some g' ∧ GOr n b x p c d (n + 2 + r) (orK n b (UN n b r) a) g g' := fun K' hK a p c d g g1 hP hcp hd G => by
    obtain ⟨K1, rfl⟩ : ∃ K1, K' = K1 + 1 := ⟨K' - 1, by omega⟩
    exact orLM T hN hx hr (Or' := (fG_X11_goOnOr N K1).1) (An := (fG_X11_goOnOr N K1).2.1) (U := (fG_X11_goOnOr N K1).2.2.1) (C := (fG_X11_goOnOr N K1).2.2.2) (fun q hq => PM_b (PF_opG (by decide) (by decide) (okAnd 38 10 (Or.inl ⟨rfl, rfl⟩)) (PF_UN r) hq)) (hIt K1 (by omega)) (n + 1) a p c d N g g1 (PM_b hP) (fuel p a _ hP) (by omega) hcp hd G
  refine ⟨hAnd, hOr, fun K' hK g p c d H hp hcp hd => ?_⟩
  obtain ⟨K1, rfl⟩ : ∃ K1, K' = K1 + 1 := ⟨K' - 1, by omega⟩
  obtain ⟨g2, u1, u2⟩ := hU K1 (by omega) g p c d H hp hcp hd
  have hP1 : PF n (2 * r + 5) OKb p (UN n b r p) := PF_up (PF_UN r p hp) (by omega) (fun _ h => h) (Nat.le_refl p)
  obtain ⟨g3, v1, v2⟩ := hAnd K1 (by omega) (UN n b r p) p c d g g2 hP1 hcp hd u2
  have hP2 : PF n (2 * r + 6) OKb p (andK n b (UN n b r) (UN n b r p)) := PF_up (PF_and (B := 2 * r + 4) (PF_UN r) hP1) (by omega) (fun _ h => h) (Nat.le_refl p)
  obtain ⟨g4, w1, w2⟩ := hOr K1 (by omega) _ p c d g g3 hP2 hcp hd v2
  refine ⟨g4, ?_, w2⟩
  show fX11_condition_b N ((fG_X11_goOnOr N K1).1) ((fG_X11_goOnOr N K1).2.1) ((fG_X11_goOnOr N K1).2.2.1) ((fG_X11_goOnOr N K1).2.2.2) g = some g4
  unfold fX11_condition_b
  rw [u1, zb_some, v1, zb_some, w1, zb_some]
/-- a comparison as a unit -/
theorem plainM {n : Nat} {b : Nat → Nat} (T : TV n b) {N : Nat} (hN : 300 ≤ N) {x r p c d : Nat} (hx : x < 5) (hr : r ≤ 6) {g0 g : zH} (K : GKp x c g0 g) (H : GI n b x p c d g) (hp : p ≤ n) (hcp : c ≤ p) (hd : d + r = 6) : ∃ g', (zb (fX11_sum N g) fun h14 => if zw (h14 14 4) = zw (-1) then zb (fX11_compare N h14) fun h16 => some h16 else some h14) = some g' ∧ GOr n b x p c d (n + 2 + r) (cmpP n b (SU n b r) (SU n b r p)) g0 g' := by
  have n240 := T.1
  obtain ⟨g2, s1, s2⟩ := MC_SU T hN hx hr g p c d H hp hcp hd
  have hP := PF_SU (b := b) r hp
  rw [s1, zb_some]
  by_cases c0 : (SU n b r p).2.1 = -1
  · have O := s2.2.1 c0
    rw [O.1.2.2.1, if_pos rfl]
    obtain ⟨g3, t1, t2⟩ := cmpM T hN hx hr c0 (PM_e hP) hcp hd (GKp_tr K s2.1 (Nat.le_refl c)) O
    rw [t1, zb_some]
    exact ⟨g3, rfl, t2⟩
  · have hb := hP.2 c0
    have e : cmpP n b (SU n b r) (SU n b r p) = SU n b r p := by
      unfold cmpP
      rw [if_neg c0]
    rw [(s2.2.2 c0).1, zw_m1, zw_id (show -2147483648 ≤ (SU n b r p).2.1 ∧ (SU n b r p).2.1 < 2147483648 by omega), if_neg c0, e]
    exact ⟨g2, rfl, GKp_tr K s2.1 (Nat.le_refl c), s2.2.1, s2.2.2⟩
/-- behind a not -/
theorem notM {n : Nat} {b : Nat → Nat} (T : TV n b) {x p p1 c d B : Nat} {a : rRes} {g g1 : zH} (hx : x < 5) (hB : B ≤ 299) (hcp : c ≤ p) (hp : p + 1 ≤ p1) (hP : PMr n p1 a) (G : GOr n b x p1 c (d + 1) B a g g1) : ∃ g2, fX11_put 9 0 g1 = some g2 ∧ GOr n b x p c d (B + 1) (notP a) g (zs g2 14 5 (g2 14 5 - 1)) := by
  have n240 := T.1
  obtain ⟨K, Gk, Gb⟩ := G
  have F : ∀ g2 : zH, FR [14] g2 (zs g2 14 5 (g2 14 5 - 1)) ∧ FS 14 [3, 4, 5] g2 (zs g2 14 5 (g2 14 5 - 1)) := fun g2 => ⟨fun b hb => zs_row_ne (fun e => hb (by rw [e]; decide)), fun q hq => zs_ne (fun e => hq (by rw [e]; decide))⟩
  unfold notP
  by_cases ci : a.2.1 = -1
  · obtain ⟨j1, j2, j3⟩ := hP.1 ci
    obtain ⟨k1, k2, k3⟩ := Gk ci
    have hc520 : c + (eM a.2.2).length < 520 := by omega
    refine ⟨_, putM hx hc520 k1.2.2.2.2.1 k1.2.2.2.2.2, ?_⟩
    rw [if_pos ci]
    obtain ⟨F1, F2⟩ := F (zs (zs (zs g1 50 (520 * x + (c + (eM a.2.2).length)) 9) 51 (520 * x + (c + (eM a.2.2).length)) 0) 52 x ((c + (eM a.2.2).length + 1 : Nat) : Int))
    refine ⟨GKp_tr K (GKp_tr (put_K (c0 := c) hc520 (by omega)) (GKp_14 F1 F2) (Nat.le_refl c)) (Nat.le_refl c), fun _ => ?_, fun h => absurd rfl h⟩
    have PG := put_GI (m := 9) (v := 0) k1
    obtain ⟨w1, w2⟩ := put_seg (m := 9) (v := 0) (w := ((c + (eM a.2.2).length + 1 : Nat) : Int)) k2 k3
    obtain ⟨q1, q2, q3, q4, q5, q6⟩ := PG
    have lM : (eM (eNot a.2.2)).length = (eM a.2.2).length + 1 := by
      show (eM a.2.2 ++ [(9, 0)]).length = _
      rw [List.length_append]; rfl
    refine ⟨⟨TM_to q1 (F2 2 (by decide)) (F1 49 (by decide)), ?_, ?_, ?_, ?_, ?_⟩, ?_, ?_⟩
    · rw [zs_ne (by decide)]; exact q2
    · rw [zs_ne (by decide)]; exact q3
    · rw [zs_at, q4]; omega
    · rw [zs_ne (by decide)]; exact q5
    · rw [F1 52 (by decide), lM, ← Nat.add_assoc]; exact q6
    · rw [F1 50 (by decide)]; exact w1
    · rw [F1 51 (by decide)]; exact w2
  · obtain ⟨f1, f2, f3, c', p', f4, f5, f6, f7, f8⟩ := Gb ci
    obtain ⟨g2, r1, r2, r3⟩ := put_b T (p := p) (c := c) (m := 9) (v := 0) hx (by omega) (show B ≤ 300 by omega) ⟨f1, f2, f3, c', p', f4, f5, f6, by omega, f8⟩
    refine ⟨g2, r1, ?_⟩
    rw [if_neg ci]
    obtain ⟨F1, F2⟩ := F g2
    obtain ⟨f1, f2, f3, c', p', f4, f5, f6, f7, f8⟩ := r3
    refine ⟨GKp_tr K (GKp_tr r2 (GKp_14 F1 F2) (Nat.le_refl c)) (Nat.le_refl c), fun h => absurd h ci, fun _ => ⟨?_, TM_to f2 (F2 2 (by decide)) (F1 49 (by decide)), ?_, c', p', by rw [F1 52 (by decide)]; exact f4, ?_, f6, f7, by omega⟩⟩
    · rw [zs_ne (by decide)]; exact f1
    · rw [zs_ne (by decide)]; exact f3
    · rw [zs_ne (by decide)]; exact f5
theorem MC_UN {n : Nat} {b : Nat → Nat} (T : TV n b) {N : Nat} (hN : 300 ≤ N) {x : Nat} (hx : x < 5) (r : Nat) : r ≤ 6 → ∀ K, 4 * r + 1 ≤ K → MCr n b x r ((fG_X11_goOnOr N K).2.2.1) (UN n b r) := by
  have n240 := T.1
  induction r with
  | zero =>
    intro _ K hK g p c d H hp hcp hd
    obtain ⟨K, rfl⟩ : ∃ K', K = K' + 1 := ⟨K - 1, by omega⟩
    show ∃ g', fX11_unit_b N ((fG_X11_goOnOr N K).1) ((fG_X11_goOnOr N K).2.1) ((fG_X11_goOnOr N K).2.2.1) ((fG_X11_goOnOr N K).2.2.2) g = some g' ∧ GOr n b x p c d (n + 2 + 0) (UN n b 0 p) g g'
    obtain ⟨g1, l1, l2, l3, l4, l5⟩ := GI_look T hN H
    have sk := skp_b (b := b) hp
    have sw := sg_w (p := skp n b p) T
    have K1 : GKp x c g g1 := GKp_14 l2 (FS_up l3 (by decide))
    unfold fX11_unit_b UN
    rw [l1, z2_some, sw, show zw 33 = 33 by decide, show zw 40 = 40 by decide]
    by_cases c33 : sg n b (skp n b p) = 33
    · have hlt : skp n b p < n := sg_lt (b := b) (by rw [c33]; decide)
      obtain ⟨o1, o2⟩ := opens6 (e := eD) (B := n + 2 + 0) K1 l5 l4 sk.1 (by omega) (by omega)
      rw [if_pos c33, if_pos (Or.inl c33), zlet_v, o2, zw_m1, zw_id (show -2147483648 ≤ (skp n b p : Int) ∧ (skp n b p : Int) < 2147483648 by omega), if_neg (by omega)]
      exact ⟨_, rfl, o1⟩
    · rw [if_neg c33]
      by_cases c40 : sg n b (skp n b p) = 40
      · have hlt : skp n b p < n := sg_lt (b := b) (by rw [c40]; decide)
        obtain ⟨o1, o2⟩ := opens6 (e := eD) (B := n + 2 + 0) K1 l5 l4 sk.1 (by omega) (by omega)
        rw [if_pos c40, if_pos (Or.inr c40), zlet_v, o2, zw_m1, zw_id (show -2147483648 ≤ (skp n b p : Int) ∧ (skp n b p : Int) < 2147483648 by omega), if_neg (by omega)]
        exact ⟨_, rfl, o1⟩
      · rw [if_neg c40, if_neg (fun h => by rcases h with h | h; exact c33 h; exact c40 h)]
        exact plainM T hN hx (by decide) K1 l5 hp hcp hd
  | succ r ih =>
    intro hr K hK g p c d H hp hcp hd
    have ih := ih (by omega)
    obtain ⟨K, rfl⟩ : ∃ K', K = K' + 1 := ⟨K - 1, by omega⟩
    obtain ⟨_, _, hC⟩ := condM T hN hx (show r ≤ 6 by omega) (4 * r + 1) (fun K' h => ih K' h)
    show ∃ g', fX11_unit_b N ((fG_X11_goOnOr N K).1) ((fG_X11_goOnOr N K).2.1) ((fG_X11_goOnOr N K).2.2.1) ((fG_X11_goOnOr N K).2.2.2) g = some g' ∧ GOr n b x p c d (n + 2 + (r + 1)) (UN n b (r + 1) p) g g'
    obtain ⟨g1, l1, l2, l3, l4, l5⟩ := GI_look T hN H
    have sk := skp_b (b := b) hp
    have sw := sg_w (p := skp n b p) T
    have K1 : GKp x c g g1 := GKp_14 l2 (FS_up l3 (by decide))
    unfold fX11_unit_b UN
    rw [l1, z2_some, sw, show zw 33 = 33 by decide, show zw 40 = 40 by decide]
    by_cases c33 : sg n b (skp n b p) = 33
    · have hlt : skp n b p < n := sg_lt (b := b) (by rw [c33]; decide)
      obtain ⟨o1, o2, o3⟩ := opensM l5 l4 (by omega) (show d < 6 by omega)
      rw [if_pos c33, if_pos c33, zlet_v, o1.2.2.1, if_pos rfl]
      obtain ⟨g2, u1, u2⟩ := ih K (by omega) (fX11_opens g1) (skp n b p + 1) c (d + 1) o1 (by omega) (by omega) (by omega)
      rw [u1, zb_some]
      obtain ⟨g3, t1, t2⟩ := notM T (p := p) (d := d) hx (by omega) hcp (show p + 1 ≤ skp n b p + 1 by omega) (PM_b (PF_UN (n := n) (b := b) r (skp n b p + 1) (by omega))) (show GOr n b x (skp n b p + 1) c (d + 1) (n + 2 + r) _ g g2 from ⟨GKp_tr (GKp_tr K1 (GKp_14 o2 o3) (Nat.le_refl c)) u2.1 (Nat.le_refl c), u2.2.1, u2.2.2⟩)
      rw [t1, zb_some, zlet_v]
      exact ⟨_, rfl, t2⟩
    · rw [if_neg c33, if_neg c33]
      by_cases c40 : sg n b (skp n b p) = 40
      · have hlt : skp n b p < n := sg_lt (b := b) (by rw [c40]; decide)
        obtain ⟨o1, o2, o3⟩ := opensM l5 l4 (by omega) (show d < 6 by omega)
        rw [if_pos c40, if_pos c40, zlet_v, o1.2.2.1, if_pos rfl]
        obtain ⟨g2, u1, u2⟩ := hC K (by omega) (fX11_opens g1) (skp n b p + 1) c (d + 1) o1 (by omega) (by omega) (by omega)
        rw [u1, zb_some]
        obtain ⟨g3, t1, t2⟩ := closesM T hN (p := p) (d := d) (B := n + 2 + (r + 1)) (s := 41) (by decide) (by decide) (by omega) (show p ≤ skp n b p + 1 by omega) (PM_b (PF_cond (PF_UN r) (show skp n b p + 1 ≤ n by omega))) (show GOr n b x (skp n b p + 1) c (d + 1) (n + 2 + (r + 1) - 1) _ g g2 from ⟨GKp_tr (GKp_tr K1 (GKp_14 o2 o3) (Nat.le_refl c)) u2.1 (Nat.le_refl c), u2.2.1, by rw [show n + 2 + (r + 1) - 1 = n + 2 + r by omega]; exact u2.2.2⟩)
        rw [t1, zb_some]
        exact ⟨g3, rfl, t2⟩
      · rw [if_neg c40, if_neg c40]
        exact plainM T hN hx hr K1 l5 hp hcp hd
