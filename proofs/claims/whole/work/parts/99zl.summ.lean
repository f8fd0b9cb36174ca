/-! the reference reads sums -/
theorem GOk_14 {n : Nat} {b : Nat → Nat} {x c d : Nat} {a : rRes} {g g' : zH} (H : GOk n b x c d a g) (F : FR [14] g g') (G : GI n b x a.1 (c + (eM a.2.2).length) d g') : GOk n b x c d a g' := ⟨G, by rw [F 50 (by decide)]; exact H.2.1, by rw [F 51 (by decide)]; exact H.2.2⟩
theorem termLM {n : Nat} {b : Nat → Nat} (T : TV n b) {N : Nat} (hN : 300 ≤ N) {x r : Nat} (hx : x < 5) (hr : r ≤ 6) {A Tm S : zH → Option zH} {it : Nat → rRes} (hI : ∀ q, q ≤ n → PMr n q (it q)) (hM : MCr n b x r A it) (k : Nat) : ∀ (a : rRes) (p c d F : Nat) (g g1 : zH), a.2.1 = -1 → PMr n p a → n < a.1 + k → k < F → c ≤ p → d + r = 6 → GKp x c g g1 → GOk n b x c d a g1 → g1 14 3 = (skp n b a.1 : Int) → ∃ g', fX11_term_c21 N A Tm S F (sg n b (skp n b a.1)) g1 = some g' ∧ GOr n b x p c d (n + 2 + r) (opL n b 42 4 47 5 it k a) g g' := by
  have n240 := T.1
  induction k with
  | zero =>
    intro a p c d F g g1 hf hP hk
    have := (hP.1 hf).2.1
    omega
  | succ k ih =>
    intro a p c d F g g1 hf hP hk hF hcp hd K O hq
    obtain ⟨F, rfl⟩ : ∃ F', F = F' + 1 := ⟨F - 1, by omega⟩
    obtain ⟨a1, a2, a3⟩ := hP.1 hf
    have sk := skp_b (b := b) a2
    have sw := sg_w (p := skp n b a.1) T
    show ∃ g', fX11_term_c21b N A Tm S (fX11_term_c21 N A Tm S F) (sg n b (skp n b a.1)) g1 = _ ∧ _
    unfold fX11_term_c21b fX11_term_c33 opL
    rw [sw, show zw 42 = 42 by decide, show zw 47 = 47 by decide, if_pos hf]
    by_cases c1 : sg n b (skp n b a.1) = 42 ∨ sg n b (skp n b a.1) = 47
    · have hlt : skp n b a.1 < n := sg_lt (b := b) (by omega)
      rw [if_pos c1]
      have hI' := hI (skp n b a.1 + 1) (by omega)
      have GI2 := GI_on O.1 hq (by omega)
      have K2 : GKp x c g (zs g1 14 3 (g1 14 3 + 1)) := GKp_tr K on_K (Nat.le_refl c)
      obtain ⟨g2, eg2⟩ : ∃ g2, g2 = zs g1 14 3 (g1 14 3 + 1) := ⟨_, rfl⟩
      rw [← eg2] at GI2 K2
      obtain ⟨g3, i1, i2⟩ := hM g2 (skp n b a.1 + 1) (c + (eM a.2.2).length) d GI2 (by omega) (by omega) hd
      have F2 : FR [14] g1 g2 := by rw [eg2]; exact fun b hb => zs_row_ne (fun e => hb (by rw [e]; decide))
      obtain ⟨it', eit⟩ : ∃ it', it' = it (skp n b a.1 + 1) := ⟨_, rfl⟩
      rw [← eit] at i2 hI' ⊢
      obtain ⟨g4, p1, p2, p3⟩ := GO_bin (s := sg n b (skp n b a.1)) (m := if sg n b (skp n b a.1) = 42 then 4 else 5) T hx (by omega) hcp hf hP hI' K2 (by rw [F2 50 (by decide)]; exact O.2.1) (by rw [F2 51 (by decide)]; exact O.2.2) i2
      -- behind the put
      have fin : ∃ g', (if zw (g4 14 4) = zw (-1) then (z2 (fX11_look N g4) fun v7 h6 => fX11_term_c21 N A Tm S F v7 h6) else fX11_term_c21 N A Tm S F (-1) g4) = some g' ∧ GOr n b x p c d (n + 2 + r) (if it'.2.1 = -1 then opL n b 42 4 47 5 it k (it'.1, -1, eBin (sg n b (skp n b a.1)) (if sg n b (skp n b a.1) = 42 then 4 else 5) a.2.2 it'.2.2) else it') g g' := by
        by_cases ci : it'.2.1 = -1
        · rw [if_pos ci] at p2 ⊢
          obtain ⟨j1, j2, j3⟩ := hI'.1 ci
          obtain ⟨P1, P2, _⟩ := p2
          have O4 := P2 rfl
          rw [O4.1.2.2.1, if_pos rfl]
          obtain ⟨g5, l1, l2, l3, l4, l5⟩ := GI_look T hN O4.1
          rw [l1, z2_some]
          refine ih (it'.1, -1, eBin (sg n b (skp n b a.1)) (if sg n b (skp n b a.1) = 42 then 4 else 5) a.2.2 it'.2.2) p c d F g g5 rfl ⟨fun _ => ⟨by show p < it'.1; omega, j2, ?_⟩, fun h => absurd rfl h⟩ (by show n < it'.1 + k; omega) (by omega) hcp hd (GKp_tr P1 (GKp_14 l2 (FS_up l3 (by decide))) (Nat.le_refl c)) (GOk_14 O4 l2 l5) l4
          show p + (eM a.2.2 ++ (eM it'.2.2 ++ [((if sg n b (skp n b a.1) = 42 then 4 else 5 : Int), (0 : Int))])).length ≤ it'.1
          rw [List.length_append, List.length_append, List.length_singleton]
          omega
        · rw [if_neg ci] at p2 ⊢
          obtain ⟨F, rfl⟩ : ∃ F', F = F' + 1 := ⟨F - 1, by omega⟩
          have hb := hI'.2 ci
          have e4 := (p2.2.2 ci).1
          rw [e4, zw_m1, zw_id (show -2147483648 ≤ it'.2.1 ∧ it'.2.1 < 2147483648 by omega), if_neg ci]
          refine ⟨g4, ?_, p2⟩
          show fX11_term_c21b N A Tm S (fX11_term_c21 N A Tm S F) (-1) g4 = _
          unfold fX11_term_c21b
          rw [if_neg (by decide), if_neg (by decide)]
      rw [← eg2, zlet_v, i1, zb_some]
      by_cases c42 : sg n b (skp n b a.1) = 42
      · rw [if_pos c42] at p1 ⊢
        rw [if_pos c42, p1, zb_some]
        exact fin
      · have c47 : sg n b (skp n b a.1) = 47 := by omega
        rw [if_neg c42] at p1 ⊢
        rw [if_pos c47, if_neg c42, p1, zb_some]
        exact fin
    · rw [if_neg c1, if_neg (fun h => c1 (Or.inl h)), if_neg (fun h => c1 (Or.inr h))]
      exact ⟨g1, rfl, K, fun _ => O, fun h => absurd hf h⟩
theorem termGM {n : Nat} {b : Nat → Nat} (T : TV n b) {N : Nat} (hN : 300 ≤ N) {x r : Nat} (hx : x < 5) (hr : r ≤ 6) {A Tm S : zH → Option zH} {it : Nat → rRes} (hI : ∀ q, q ≤ n → PMr n q (it q)) (hM : MCr n b x r A it) : MCr n b x r (fX11_term_b N A Tm S) (opG n b 42 4 47 5 it) := by
  intro g p c d H hp hcp hd
  have n240 := T.1
  obtain ⟨g1, i1, i2⟩ := hM g p c d H hp hcp hd
  unfold fX11_term_b opG
  rw [i1, zb_some]
  have hI' := hI p hp
  by_cases ci : (it p).2.1 = -1
  · have O := i2.2.1 ci
    obtain ⟨j1, j2, j3⟩ := hI'.1 ci
    rw [O.1.2.2.1, if_pos rfl]
    obtain ⟨g5, l1, l2, l3, l4, l5⟩ := GI_look T hN O.1
    rw [l1, z2_some]
    exact termLM T hN hx hr hI hM (n + 1) (it p) p c d N g g5 ci hI' (by omega) (by omega) hcp hd (GKp_tr i2.1 (GKp_14 l2 (FS_up l3 (by decide))) (Nat.le_refl c)) (GOk_14 O l2 l5) l4
  · have hb := hI'.2 ci
    obtain ⟨F, rfl⟩ : ∃ F', N = F' + 1 := ⟨N - 1, by omega⟩
    have e : opL n b 42 4 47 5 it (n + 1) (it p) = it p := by
      unfold opL
      rw [if_neg ci]
    rw [(i2.2.2 ci).1, zw_m1, zw_id (show -2147483648 ≤ (it p).2.1 ∧ (it p).2.1 < 2147483648 by omega), if_neg ci, e]
    refine ⟨g1, ?_, i2⟩
    show fX11_term_c21b (F + 1) A Tm S (fX11_term_c21 (F + 1) A Tm S F) (-1) g1 = _
    unfold fX11_term_c21b
    rw [if_neg (by decide), if_neg (by decide)]
theorem sumLM {n : Nat} {b : Nat → Nat} (T : TV n b) {N : Nat} (hN : 300 ≤ N) {x r : Nat} (hx : x < 5) (hr : r ≤ 6) {A Tm S : zH → Option zH} {it : Nat → rRes} (hI : ∀ q, q ≤ n → PMr n q (it q)) (hM : MCr n b x r Tm it) (k : Nat) : ∀ (a : rRes) (p c d F : Nat) (g g1 : zH), a.2.1 = -1 → PMr n p a → n < a.1 + k → k < F → c ≤ p → d + r = 6 → GKp x c g g1 → GOk n b x c d a g1 → g1 14 3 = (skp n b a.1 : Int) → ∃ g', fX11_sum_c21 N A Tm S F (sg n b (skp n b a.1)) g1 = some g' ∧ GOr n b x p c d (n + 2 + r) (opL n b 43 2 45 3 it k a) g g' := by
  have n240 := T.1
  induction k with
  | zero =>
    intro a p c d F g g1 hf hP hk
    have := (hP.1 hf).2.1
    omega
  | succ k ih =>
    intro a p c d F g g1 hf hP hk hF hcp hd K O hq
    obtain ⟨F, rfl⟩ : ∃ F', F = F' + 1 := ⟨F - 1, by omega⟩
    obtain ⟨a1, a2, a3⟩ := hP.1 hf
    have sk := skp_b (b := b) a2
    have sw := sg_w (p := skp n b a.1) T
    show ∃ g', fX11_sum_c21b N A Tm S (fX11_sum_c21 N A Tm S F) (sg n b (skp n b a.1)) g1 = _ ∧ _
    unfold fX11_sum_c21b fX11_sum_c33 opL
    rw [sw, show zw 43 = 43 by decide, show zw 45 = 45 by decide, if_pos hf]
    by_cases c1 : sg n b (skp n b a.1) = 43 ∨ sg n b (skp n b a.1) = 45
    · have hlt : skp n b a.1 < n := sg_lt (b := b) (by omega)
      rw [if_pos c1]
      have hI' := hI (skp n b a.1 + 1) (by omega)
      have GI2 := GI_on O.1 hq (by omega)
      have K2 : GKp x c g (zs g1 14 3 (g1 14 3 + 1)) := GKp_tr K on_K (Nat.le_refl c)
      obtain ⟨g2, eg2⟩ : ∃ g2, g2 = zs g1 14 3 (g1 14 3 + 1) := ⟨_, rfl⟩
      rw [← eg2] at GI2 K2
      obtain ⟨g3, i1, i2⟩ := hM g2 (skp n b a.1 + 1) (c + (eM a.2.2).length) d GI2 (by omega) (by omega) hd
      have F2 : FR [14] g1 g2 := by rw [eg2]; exact fun b hb => zs_row_ne (fun e => hb (by rw [e]; decide))
      obtain ⟨it', eit⟩ : ∃ it', it' = it (skp n b a.1 + 1) := ⟨_, rfl⟩
      rw [← eit] at i2 hI' ⊢
      obtain ⟨g4, p1, p2, p3⟩ := GO_bin (s := sg n b (skp n b a.1)) (m := if sg n b (skp n b a.1) = 43 then 2 else 3) T hx (by omega) hcp hf hP hI' K2 (by rw [F2 50 (by decide)]; exact O.2.1) (by rw [F2 51 (by decide)]; exact O.2.2) i2
      -- behind the put
      have fin : ∃ g', (if zw (g4 14 4) = zw (-1) then (z2 (fX11_look N g4) fun v7 h6 => fX11_sum_c21 N A Tm S F v7 h6) else fX11_sum_c21 N A Tm S F (-1) g4) = some g' ∧ GOr n b x p c d (n + 2 + r) (if it'.2.1 = -1 then opL n b 43 2 45 3 it k (it'.1, -1, eBin (sg n b (skp n b a.1)) (if sg n b (skp n b a.1) = 43 then 2 else 3) a.2.2 it'.2.2) else it') g g' := by
        by_cases ci : it'.2.1 = -1
        · rw [if_pos ci] at p2 ⊢
          obtain ⟨j1, j2, j3⟩ := hI'.1 ci
          obtain ⟨P1, P2, _⟩ := p2
          have O4 := P2 rfl
          rw [O4.1.2.2.1, if_pos rfl]
          obtain ⟨g5, l1, l2, l3, l4, l5⟩ := GI_look T hN O4.1
          rw [l1, z2_some]
          refine ih (it'.1, -1, eBin (sg n b (skp n b a.1)) (if sg n b (skp n b a.1) = 43 then 2 else 3) a.2.2 it'.2.2) p c d F g g5 rfl ⟨fun _ => ⟨by show p < it'.1; omega, j2, ?_⟩, fun h => absurd rfl h⟩ (by show n < it'.1 + k; omega) (by omega) hcp hd (GKp_tr P1 (GKp_14 l2 (FS_up l3 (by decide))) (Nat.le_refl c)) (GOk_14 O4 l2 l5) l4
          show p + (eM a.2.2 ++ (eM it'.2.2 ++ [((if sg n b (skp n b a.1) = 43 then 2 else 3 : Int), (0 : Int))])).length ≤ it'.1
          rw [List.length_append, List.length_append, List.length_singleton]
          omega
        · rw [if_neg ci] at p2 ⊢
          obtain ⟨F, rfl⟩ : ∃ F', F = F' + 1 := ⟨F - 1, by omega⟩
          have hb := hI'.2 ci
          have e4 := (p2.2.2 ci).1
          rw [e4, zw_m1, zw_id (show -2147483648 ≤ it'.2.1 ∧ it'.2.1 < 2147483648 by omega), if_neg ci]
          refine ⟨g4, ?_, p2⟩
          show fX11_sum_c21b N A Tm S (fX11_sum_c21 N A Tm S F) (-1) g4 = _
          unfold fX11_sum_c21b
          rw [if_neg (by decide), if_neg (by decide)]
      rw [← eg2, zlet_v, i1, zb_some]
      by_cases c42 : sg n b (skp n b a.1) = 43
      · rw [if_pos c42] at p1 ⊢
        rw [if_pos c42, p1, zb_some]
        exact fin
      · have c47 : sg n b (skp n b a.1) = 45 := by omega
        rw [if_neg c42] at p1 ⊢
        rw [if_pos c47, if_neg c42, p1, zb_some]
        exact fin
    · rw [if_neg c1, if_neg (fun h => c1 (Or.inl h)), if_neg (fun h => c1 (Or.inr h))]
      exact ⟨g1, rfl, K, fun _ => O, fun h => absurd hf h⟩
theorem sumGM {n : Nat} {b : Nat → Nat} (T : TV n b) {N : Nat} (hN : 300 ≤ N) {x r : Nat} (hx : x < 5) (hr : r ≤ 6) {A Tm S : zH → Option zH} {it : Nat → rRes} (hI : ∀ q, q ≤ n → PMr n q (it q)) (hM : MCr n b x r Tm it) : MCr n b x r (fX11_sum_b N A Tm S) (opG n b 43 2 45 3 it) := by
  intro g p c d H hp hcp hd
  have n240 := T.1
  obtain ⟨g1, i1, i2⟩ := hM g p c d H hp hcp hd
  unfold fX11_sum_b opG
  rw [i1, zb_some]
  have hI' := hI p hp
  by_cases ci : (it p).2.1 = -1
  · have O := i2.2.1 ci
    obtain ⟨j1, j2, j3⟩ := hI'.1 ci
    rw [O.1.2.2.1, if_pos rfl]
    obtain ⟨g5, l1, l2, l3, l4, l5⟩ := GI_look T hN O.1
    rw [l1, z2_some]
    exact sumLM T hN hx hr hI hM (n + 1) (it p) p c d N g g5 ci hI' (by omega) (by omega) hcp hd (GKp_tr i2.1 (GKp_14 l2 (FS_up l3 (by decide))) (Nat.le_refl c)) (GOk_14 O l2 l5) l4
  · have hb := hI'.2 ci
    obtain ⟨F, rfl⟩ : ∃ F', N = F' + 1 := ⟨N - 1, by omega⟩
    have e : opL n b 43 2 45 3 it (n + 1) (it p) = it p := by
      unfold opL
      rw [if_neg ci]
    rw [(i2.2.2 ci).1, zw_m1, zw_id (show -2147483648 ≤ (it p).2.1 ∧ (it p).2.1 < 2147483648 by omega), if_neg ci, e]
    refine ⟨g1, ?_, i2⟩
    show fX11_sum_c21b (F + 1) A Tm S (fX11_sum_c21 (F + 1) A Tm S F) (-1) g1 = _
    unfold fX11_sum_c21b
    rw [if_neg (by decide), if_neg (by decide)]
/-- the reference's numbers -/
theorem numML {n : Nat} {b : Nat → Nat} (T : TV n b) {N : Nat} {x c d : Nat} (m : Nat) : ∀ (q F l2 : Nat) (v : Int) (g : zH), l2 + m = 4 → m < F → (1 ≤ l2 ∨ dgp n b q) → GI n b x q c d g → g 14 3 = (q : Int) → ∃ g', fX11_plainNumber_c4 N F v (l2 : Int) g = some ((dig n b m q v).2, g') ∧ FR [14] g g' ∧ FS 14 [3, 4] g g' ∧ g' 14 3 = ((dig n b m q v).1 : Int) ∧ g' 14 4 = if dgp n b (dig n b m q v).1 then ((dig n b m q v).1 : Int) else -1 := by
  have n240 := T.1
  induction m with
  | zero =>
    intro q F l2 v g hl hF hd H hq
    obtain ⟨F, rfl⟩ : ∃ F', F = F' + 1 := ⟨F - 1, by omega⟩
    have : l2 = 4 := by omega
    subst this
    have hqn := GI_sk H
    show ∃ g', fX11_plainNumber_c4b N (fX11_plainNumber_c4 N F) v ((4 : Nat) : Int) g = some (v, g') ∧ FR [14] g g' ∧ FS 14 [3, 4] g g' ∧ g' 14 3 = (q : Int) ∧ g' 14 4 = if dgp n b q then (q : Int) else -1
    unfold fX11_plainNumber_c4b
    rw [if_pos (by decide), hereM T H.1 hq (by omega), zb_some, isDM (sg_w T)]
    by_cases cd : dgp n b q
    · rw [if_pos cd, if_pos cd, if_neg (show ¬ zw 1 = 0 by decide), badM H.2.2.1, hq, zlet_v]
      exact ⟨_, rfl, fun b hb => zs_row_ne (fun e => hb (by rw [e]; decide)), fun q hq => zs_ne (fun e => hq (by rw [e]; decide)), by rw [zs_ne (by decide)]; exact hq, zs_at⟩
    · rw [if_neg cd, if_neg cd, if_pos zw_0]
      exact ⟨g, rfl, FR_rf, FS_rf, hq, H.2.2.1⟩
  | succ m ih =>
    intro q F l2 v g hl hF hd H hq
    obtain ⟨F, rfl⟩ : ∃ F', F = F' + 1 := ⟨F - 1, by omega⟩
    have hqn := GI_sk H
    show ∃ g', fX11_plainNumber_c4b N (fX11_plainNumber_c4 N F) v (l2 : Int) g = _ ∧ _
    unfold fX11_plainNumber_c4b dig
    rw [show zw 4 = 4 by decide, zw_id (show -2147483648 ≤ (l2 : Int) ∧ (l2 : Int) < 2147483648 by omega), if_neg (by omega), hereM T H.1 hq (by omega), zb_some, zb_some, zb_some, isDM (sg_w T)]
    by_cases cd : dgp n b q
    · have lq := dgp_lt cd
      rw [if_pos cd, if_pos cd, if_neg (show ¬ zw 1 = 0 by decide)]
      simp only [zlet_v]
      have G2 := GI_on H hq (by omega)
      obtain ⟨g', r1, r2, r3, r4⟩ := ih (q + 1) F (l2 + 1) (v * 10 + sg n b q - 48) (zs g 14 3 (g 14 3 + 1)) (by omega) (by omega) (Or.inl (by omega)) G2 (by rw [zs_at, hq]; rfl)
      refine ⟨g', ?_, FR_tr (fun b hb => zs_row_ne (fun e => hb (by rw [e]; decide))) r2, FS_tr (fun q hq => zs_ne (fun e => hq (by rw [e]; decide))) r3, r4⟩
      rw [← r1, Int.mul_comm 10 v]; rfl
    · rw [if_neg cd, if_neg cd, if_pos zw_0, if_pos zw_0]
      exact ⟨g, rfl, FR_rf, FS_rf, hq, by rw [if_neg cd]; exact H.2.2.1⟩
theorem opensM {n : Nat} {b : Nat → Nat} {x p q c d : Nat} {g : zH} (H : GI n b x p c d g) (hq : g 14 3 = (q : Int)) (hq1 : q + 1 ≤ n) (hd : d < 6) : GI n b x (q + 1) c (d + 1) (fX11_opens g) ∧ FR [14] g (fX11_opens g) ∧ FS 14 [3, 4, 5] g (fX11_opens g) := by
  obtain ⟨h1, _, h2, h3, h4, h5⟩ := H
  have e : fX11_opens g = zs (zs g 14 5 ((d : Int) + 1)) 14 3 ((q : Int) + 1) := by
    unfold fX11_opens
    have e1 : zs g 14 5 ((d : Int) + 1) 14 3 = (q : Int) := by rw [zs_ne (by decide)]; exact hq
    rw [h3, zw_id (show -2147483648 ≤ (d : Int) ∧ (d : Int) < 2147483648 by omega), if_neg (by rw [show zw 6 = 6 by decide]; omega), zlet_v, zlet_v, e1]
  rw [e]
  refine ⟨⟨TM_to h1 (by rw [zs_ne (by decide), zs_ne (by decide)]) (by rw [zs_row_ne (by decide), zs_row_ne (by decide)]), ⟨q + 1, by rw [zs_at]; rfl, Nat.le_refl _, hq1, rfl⟩, ?_, ?_, ?_, ?_⟩, fun b hb => by rw [zs_row_ne (fun e => hb (by rw [e]; decide)), zs_row_ne (fun e => hb (by rw [e]; decide))], fun q hq => by rw [zs_ne (fun e => hq (by rw [e]; decide)), zs_ne (fun e => hq (by rw [e]; decide))]⟩
  · rw [zs_ne (by decide), zs_ne (by decide)]; exact h2
  · rw [zs_ne (by decide), zs_at]; rfl
  · rw [zs_ne (by decide), zs_ne (by decide)]; exact h4
  · rw [zs_row_ne (by decide), zs_row_ne (by decide)]; exact h5
/-- no more may be opened -/
theorem opens6 {n : Nat} {b : Nat → Nat} {x p q c d B : Nat} {g0 g : zH} {e : zE} (K : GKp x c g0 g) (H : GI n b x p c d g) (hq : g 14 3 = (q : Int)) (hpq : p ≤ q) (hB : q + 1 ≤ B) (hd : d = 6) : GOr n b x p c d B (q, (q : Int), e) g0 (fX11_opens g) ∧ fX11_opens g 14 4 = (q : Int) := by
  obtain ⟨h1, _, h2, h3, h4, h5⟩ := H
  have e0 : fX11_opens g = zs (zs (zs g 14 4 (q : Int)) 14 5 (6 + 1)) 14 3 ((q : Int) + 1) := by
    unfold fX11_opens
    have e1 : zs g 14 4 (q : Int) 14 5 = 6 := by rw [zs_ne (by decide), h3, hd]; rfl
    have e2 : zs (zs g 14 4 (q : Int)) 14 5 (6 + 1) 14 3 = (q : Int) := by rw [zs_ne (by decide), zs_ne (by decide)]; exact hq
    rw [h3, hd, if_pos (show zw ((6 : Nat) : Int) = zw 6 from rfl), badM h2, hq, zlet_v, zlet_v, zlet_v, e1, e2]
  have e4 : fX11_opens g 14 4 = (q : Int) := by rw [e0, zs_ne (by decide), zs_ne (by decide), zs_at]
  refine ⟨⟨?_, fun h => absurd (show (q : Int) = -1 from h) (by omega), fun _ => ⟨e4, ?_, ?_, c, q + 1, ?_, ?_, Nat.le_refl c, by omega, hB⟩⟩, e4⟩
  · rw [e0]
    exact GKp_tr K (GKp_14 (fun b hb => by rw [zs_row_ne (fun e => hb (by rw [e]; decide)), zs_row_ne (fun e => hb (by rw [e]; decide)), zs_row_ne (fun e => hb (by rw [e]; decide))]) (fun q hq => by rw [zs_ne (fun e => hq (by rw [e]; decide)), zs_ne (fun e => hq (by rw [e]; decide)), zs_ne (fun e => hq (by rw [e]; decide))])) (Nat.le_refl c)
  · rw [e0]
    exact TM_to h1 (by rw [zs_ne (by decide), zs_ne (by decide), zs_ne (by decide)]) (by rw [zs_row_ne (by decide), zs_row_ne (by decide), zs_row_ne (by decide)])
  · rw [e0, zs_ne (by decide), zs_ne (by decide), zs_ne (by decide)]; exact h4
  · rw [e0, zs_row_ne (by decide), zs_row_ne (by decide), zs_row_ne (by decide)]; exact h5
  · rw [e0, zs_at]; rfl
/-- what was opened is closed: q0 is where it was opened -/
theorem closesM {n : Nat} {b : Nat → Nat} (T : TV n b) {N : Nat} (hN : 300 ≤ N) {x p p1 c d B : Nat} {a : rRes} {g g1 : zH} {s : Int} (hs : zw s = s) (hs1 : s ≠ -1) (hB : n + 1 ≤ B) (hp : p ≤ p1) (hP : PMr n p1 a) (G : GOr n b x p1 c (d + 1) (B - 1) a g g1) : ∃ g', fX11_closes N s g1 = some g' ∧ GOr n b x p c d B (clo n b s a) g g' := by
  obtain ⟨K, Gk, Gb⟩ := G
  have n240 := T.1
  have c20 : ∀ (h : zH), fX11_closes_c20 N h = some (zs (zs h 14 3 (h 14 3 + 1)) 14 5 (h 14 5 - 1)) := fun h => by
    unfold fX11_closes_c20
    rw [zlet_v, zlet_v, zs_ne (show (5 : Nat) ≠ 3 by decide)]
  have K20 : ∀ h : zH, FR [14] h (zs (zs h 14 3 (h 14 3 + 1)) 14 5 (h 14 5 - 1)) ∧ FS 14 [3, 4, 5] h (zs (zs h 14 3 (h 14 3 + 1)) 14 5 (h 14 5 - 1)) := fun h => ⟨fun b hb => by rw [zs_row_ne (fun e => hb (by rw [e]; decide)), zs_row_ne (fun e => hb (by rw [e]; decide))], fun q hq => by rw [zs_ne (fun e => hq (by rw [e]; decide)), zs_ne (fun e => hq (by rw [e]; decide))]⟩
  -- a faulty state goes on
  have badc : ∀ (f : Int) (h : zH), GKp x c g h → f ≠ -1 → GOb n b x p c (B - 1) f h → ∀ q e, GOr n b x p c d B (q, f, e) g (zs (zs h 14 3 (h 14 3 + 1)) 14 5 (h 14 5 - 1)) := fun f h Kh hf O q e => by
    obtain ⟨f1, f2, f3, c', p', f4, f5, f6, f7, f8⟩ := O
    obtain ⟨F1, F2⟩ := K20 h
    refine ⟨GKp_tr Kh (GKp_14 F1 F2) (Nat.le_refl c), fun h => absurd h hf, fun _ => ⟨?_, TM_to f2 (F2 2 (by decide)) (F1 49 (by decide)), by rw [F2 14 (by decide)]; exact f3, c', p' + 1, by rw [F1 52 (by decide)]; exact f4, ?_, f6, by omega, by omega⟩⟩
    · show _ = f
      rw [zs_ne (by decide), zs_ne (by decide)]; exact f1
    · rw [zs_ne (by decide), zs_at, f5]; rfl
  unfold fX11_closes clo
  by_cases ci : a.2.1 = -1
  · obtain ⟨j1, j2, j3⟩ := hP.1 ci
    have O := Gk ci
    have sk := skp_b (b := b) j2
    rw [O.1.2.2.1, if_pos rfl, if_pos ci]
    obtain ⟨g5, l1, l2, l3, l4, l5⟩ := GI_look T hN O.1
    rw [l1, z2_some, hs, sg_w T]
    have K5 : GKp x c g g5 := GKp_tr K (GKp_14 l2 (FS_up l3 (by decide))) (Nat.le_refl c)
    by_cases cs : sg n b (skp n b a.1) = s
    · have hlt : skp n b a.1 < n := sg_lt (b := b) (by rw [cs]; exact hs1)
      rw [if_pos cs, if_pos cs, c20]
      obtain ⟨F1, F2⟩ := K20 g5
      have G5 := GI_on l5 l4 (by omega)
      obtain ⟨m1', m2', m3', m4', m5', m6'⟩ := G5
      refine ⟨_, rfl, GKp_tr K5 (GKp_14 F1 F2) (Nat.le_refl c), fun _ => ⟨⟨TM_to l5.1 (F2 2 (by decide)) (F1 49 (by decide)), ⟨skp n b a.1 + 1, by rw [zs_ne (by decide), zs_at, l4]; rfl, Nat.le_refl _, by show skp n b a.1 + 1 ≤ n; omega, rfl⟩, ?_, ?_, ?_, ?_⟩, ?_, ?_⟩, fun h => absurd rfl h⟩
      · rw [zs_ne (by decide), zs_ne (by decide)]; exact l5.2.2.1
      · rw [zs_at, l5.2.2.2.1]; omega
      · rw [zs_ne (by decide), zs_ne (by decide)]; exact l5.2.2.2.2.1
      · rw [zs_row_ne (by decide), zs_row_ne (by decide)]; exact l5.2.2.2.2.2
      · rw [F1 50 (by decide), l2 50 (by decide)]; exact O.2.1
      · rw [F1 51 (by decide), l2 51 (by decide)]; exact O.2.2
    · rw [if_neg cs, if_neg cs]
      have e0 : fX11_bad g5 = zs g5 14 4 (skp n b a.1 : Int) := by rw [badM l5.2.2.1, l4]
      rw [e0, zlet_v, c20]
      have Kz : GKp x c g (zs g5 14 4 (skp n b a.1 : Int)) := GKp_tr K5 (GKp_14 (fun b hb => zs_row_ne (fun e => hb (by rw [e]; decide))) (fun q hq => zs_ne (fun e => hq (by rw [e]; decide)))) (Nat.le_refl c)
      refine ⟨_, rfl, badc (skp n b a.1 : Int) _ Kz (by omega) ⟨zs_at, TM_to l5.1 (by rw [zs_ne (by decide)]) (zs_row_ne (by decide)), by rw [zs_ne (by decide)]; exact l5.2.2.2.2.1, c + (eM a.2.2).length, skp n b a.1, by rw [zs_row_ne (by decide)]; exact l5.2.2.2.2.2, by rw [zs_ne (by decide)]; exact l4, by omega, by omega, by omega⟩ _ _⟩
  · have hb := hP.2 ci
    obtain ⟨f1, f2, f3, c', p', f4, f5, f6, f7, f8⟩ := Gb ci
    rw [f1, zw_m1, zw_id (show -2147483648 ≤ a.2.1 ∧ a.2.1 < 2147483648 by omega), if_neg ci, if_neg ci, c20]
    exact ⟨_, rfl, badc a.2.1 g1 K ci ⟨f1, f2, f3, c', p', f4, f5, f6, by omega, f8⟩ a.1 a.2.2⟩
