/-! the reference's steps in a rule -/
def GI (n : Nat) (b : Nat → Nat) (x p c d : Nat) (g : zH) : Prop := TMo n b g ∧ (∃ q : Nat, g 14 3 = (q : Int) ∧ p ≤ q ∧ q ≤ n ∧ skp n b q = skp n b p) ∧ g 14 4 = -1 ∧ g 14 5 = (d : Int) ∧ g 14 14 = (x : Int) ∧ g 52 x = (c : Int)
/-- what is left alone -/
def GKp (x c : Nat) (g g' : zH) : Prop := FR [14, 50, 51, 52] g g' ∧ FS 14 [3, 4, 5] g g' ∧ FS 52 [x] g g' ∧ ∀ j, (j < 520 * x + c ∨ 520 * x + 520 ≤ j) → g' 50 j = g 50 j ∧ g' 51 j = g 51 j
def GOk (n : Nat) (b : Nat → Nat) (x c d : Nat) (a : rRes) (g' : zH) : Prop := GI n b x a.1 (c + (eM a.2.2).length) d g' ∧ sgm (g' 50) (520 * x + c) (m1 (eM a.2.2)) ∧ sgm (g' 51) (520 * x + c) (m2 (eM a.2.2))
def GOb (n : Nat) (b : Nat → Nat) (x p c B : Nat) (f : Int) (g' : zH) : Prop := g' 14 4 = f ∧ TMo n b g' ∧ g' 14 14 = (x : Int) ∧ ∃ c' p' : Nat, g' 52 x = (c' : Int) ∧ g' 14 3 = (p' : Int) ∧ c ≤ c' ∧ c' + p ≤ p' + c ∧ p' ≤ B
def GOr (n : Nat) (b : Nat → Nat) (x p c d B : Nat) (a : rRes) (g g' : zH) : Prop := GKp x c g g' ∧ (a.2.1 = -1 → GOk n b x c d a g') ∧ (a.2.1 ≠ -1 → GOb n b x p c B a.2.1 g')
def MCr (n : Nat) (b : Nat → Nat) (x r : Nat) (F : zH → Option zH) (P : Nat → rRes) : Prop := ∀ (g : zH) (p c d : Nat), GI n b x p c d g → p ≤ n → c ≤ p → d + r = 6 → ∃ g', F g = some g' ∧ GOr n b x p c d (n + 2 + r) (P p) g g'
theorem GKp_rf {x c : Nat} {g : zH} : GKp x c g g := ⟨FR_rf, FS_rf, FS_rf, fun j _ => ⟨rfl, rfl⟩⟩
theorem GKp_tr {x c c1 : Nat} {g g1 g2 : zH} (h1 : GKp x c g g1) (h2 : GKp x c1 g1 g2) (hc : c ≤ c1) : GKp x c g g2 := ⟨FR_tr h1.1 h2.1, FS_tr h1.2.1 h2.2.1, FS_tr h1.2.2.1 h2.2.2.1, fun j hj => by
  obtain ⟨a1, a2⟩ := h1.2.2.2 j hj
  obtain ⟨b1, b2⟩ := h2.2.2.2 j (by omega)
  exact ⟨b1.trans a1, b2.trans a2⟩⟩
theorem GKp_14 {x c : Nat} {g g' : zH} (F : FR [14] g g') (G : FS 14 [3, 4, 5] g g') : GKp x c g g' := ⟨FR_up F (by decide), G, FS_of F (by decide), fun j _ => ⟨by rw [F 50 (by decide)], by rw [F 51 (by decide)]⟩⟩
theorem GI_sk {n : Nat} {b : Nat → Nat} {x p c d : Nat} {g : zH} (H : GI n b x p c d g) : p ≤ n := by
  obtain ⟨_, ⟨q, _, h1, h2, _⟩, _⟩ := H
  omega
theorem skp_s {n p : Nat} {b : Nat → Nat} (hp : p ≤ n) : skp n b (skp n b p) = skp n b p := skp_i hp
/-- the reference looks -/
theorem GI_look {n : Nat} {b : Nat → Nat} (T : TV n b) {N : Nat} (hN : 300 ≤ N) {x p c d : Nat} {g : zH} (H : GI n b x p c d g) : ∃ g', fX11_look N g = some (sg n b (skp n b p), g') ∧ FR [14] g g' ∧ FS 14 [3] g g' ∧ g' 14 3 = (skp n b p : Int) ∧ GI n b x p c d g' := by
  have n240 := T.1
  have hp := GI_sk H
  obtain ⟨h1, ⟨q, q1, q2, q3, q4⟩, h2, h3, h4, h5⟩ := H
  obtain ⟨g', e1, e2, e3, e4⟩ := lookM T hN h1 (show q < 100000 by omega) q1
  have sk := skp_b (b := b) hp
  rw [q4] at e1 e4
  refine ⟨g', e1, e2, e3, e4, TM_to h1 (e3 2 (by decide)) (e2 49 (by decide)), ⟨skp n b p, e4, sk.1, sk.2.1, skp_i hp⟩, ?_, ?_, ?_, ?_⟩
  · rw [e3 4 (by decide)]; exact h2
  · rw [e3 5 (by decide)]; exact h3
  · rw [e3 14 (by decide)]; exact h4
  · rw [e2 52 (by decide)]; exact h5
/-- one sign on -/
theorem GI_on {n : Nat} {b : Nat → Nat} {x p q c d : Nat} {g : zH} (H : GI n b x p c d g) (hq : g 14 3 = (q : Int)) (hq1 : q + 1 ≤ n) : GI n b x (q + 1) c d (zs g 14 3 (g 14 3 + 1)) := by
  obtain ⟨h1, _, h2, h3, h4, h5⟩ := H
  refine ⟨TM_to h1 (by rw [zs_ne (by decide)]) (zs_row_ne (by decide)), ⟨q + 1, by rw [zs_at, hq]; rfl, Nat.le_refl _, hq1, rfl⟩, ?_, ?_, ?_, ?_⟩
  · rw [zs_ne (by decide)]; exact h2
  · rw [zs_ne (by decide)]; exact h3
  · rw [zs_ne (by decide)]; exact h4
  · rw [zs_row_ne (by decide)]; exact h5
theorem on_K {x c : Nat} {g : zH} {v : Int} : GKp x c g (zs g 14 3 v) := GKp_14 (fun b hb => zs_row_ne (fun e => hb (by rw [e]; decide))) (fun q hq => zs_ne (fun e => hq (by rw [e]; decide)))
/-- blame at q -/
theorem bad_O {n : Nat} {b : Nat → Nat} {x p c d B q : Nat} {g g1 : zH} {e : zE} (K : GKp x c g g1) (H : GI n b x p c d g1) (hq : g1 14 3 = (q : Int)) (hpq : p ≤ q) (hB : q ≤ B) : GOr n b x p c d B (q, (q : Int), e) g (fX11_bad g1) ∧ fX11_bad g1 = zs g1 14 4 (q : Int) := by
  obtain ⟨h1, _, h2, h3, h4, h5⟩ := H
  have e0 : fX11_bad g1 = zs g1 14 4 (q : Int) := by rw [badM h2, hq]
  refine ⟨⟨?_, fun h => absurd (show (q : Int) = -1 from h) (by omega), fun _ => ?_⟩, e0⟩
  · rw [e0]
    exact GKp_tr K (GKp_14 (fun b hb => zs_row_ne (fun e => hb (by rw [e]; decide))) (fun q hq => zs_ne (fun e => hq (by rw [e]; decide)))) (Nat.le_refl c)
  · rw [e0]
    refine ⟨zs_at, TM_to h1 (by rw [zs_ne (by decide)]) (zs_row_ne (by decide)), by rw [zs_ne (by decide)]; exact h4, c, q, by rw [zs_row_ne (by decide)]; exact h5, by rw [zs_ne (by decide)]; exact hq, Nat.le_refl c, by omega, hB⟩
/-- what the reference puts -/
theorem putM {x c : Nat} {g : zH} {m v : Int} (hx : x < 5) (hc : c < 520) (h14 : g 14 14 = (x : Int)) (h52 : g 52 x = (c : Int)) : fX11_put m v g = some (zs (zs (zs g 50 (520 * x + c) m) 51 (520 * x + c) v) 52 x ((c + 1 : Nat) : Int)) := by
  unfold fX11_put
  have e1 : zs g 50 (520 * x + c) m 14 14 = (x : Int) := by rw [zs_row_ne (by decide)]; exact h14
  have e2 : zs g 50 (520 * x + c) m 52 x = (c : Int) := by rw [zs_row_ne (by decide)]; exact h52
  have e3 : zs (zs g 50 (520 * x + c) m) 51 (520 * x + c) v 14 14 = (x : Int) := by rw [zs_row_ne (by decide)]; exact e1
  have e4 : zs (zs g 50 (520 * x + c) m) 51 (520 * x + c) v 52 x = (c : Int) := by rw [zs_row_ne (by decide)]; exact e2
  rw [h14, zw_id (show -2147483648 ≤ (x : Int) ∧ (x : Int) < 2147483648 by omega), if_pos (by omega), Int.toNat_natCast, h52, show (520 * (x : Int)) + (c : Int) = ((520 * x + c : Nat) : Int) by omega, zw_id (show -2147483648 ≤ ((520 * x + c : Nat) : Int) ∧ ((520 * x + c : Nat) : Int) < 2147483648 by omega), if_pos (by omega), Int.toNat_natCast, zlet_v, e1, zw_id (show -2147483648 ≤ (x : Int) ∧ (x : Int) < 2147483648 by omega), if_pos (by omega), Int.toNat_natCast, e2, show (520 * (x : Int)) + (c : Int) = ((520 * x + c : Nat) : Int) by omega, zw_id (show -2147483648 ≤ ((520 * x + c : Nat) : Int) ∧ ((520 * x + c : Nat) : Int) < 2147483648 by omega), if_pos (by omega), Int.toNat_natCast, zlet_v, e3, zlet_v, zw_id (show -2147483648 ≤ (x : Int) ∧ (x : Int) < 2147483648 by omega), if_pos (by omega), if_pos (by omega), Int.toNat_natCast, e4, zlet_v]
  rfl
theorem put_K {x c c0 : Nat} {g : zH} {m v w : Int} (hc : c < 520) (h0 : c0 ≤ c) : GKp x c0 g (zs (zs (zs g 50 (520 * x + c) m) 51 (520 * x + c) v) 52 x w) := by
  refine ⟨fun b hb => ?_, fun q hq => ?_, fun q hq => ?_, fun j hj => ⟨?_, ?_⟩⟩
  · rw [zs_row_ne (fun e => hb (by rw [e]; decide)), zs_row_ne (fun e => hb (by rw [e]; decide)), zs_row_ne (fun e => hb (by rw [e]; decide))]
  · rw [zs_row_ne (by decide), zs_row_ne (by decide), zs_row_ne (by decide)]
  · rw [zs_ne (fun e => hq (by rw [e]; exact List.mem_singleton.mpr rfl)), zs_row_ne (by decide), zs_row_ne (by decide)]
  · rw [zs_row_ne (by decide), zs_row_ne (by decide), zs_ne (by omega)]
  · rw [zs_row_ne (by decide), zs_ne (by omega), zs_row_ne (by decide)]
/-- putting keeps what it is at -/
theorem put_GI {n : Nat} {b : Nat → Nat} {x p c d : Nat} {g : zH} {m v : Int} (H : GI n b x p c d g) : GI n b x p (c + 1) d (zs (zs (zs g 50 (520 * x + c) m) 51 (520 * x + c) v) 52 x ((c + 1 : Nat) : Int)) := by
  obtain ⟨h1, h6, h2, h3, h4, h5⟩ := H
  have e14 : zs (zs (zs g 50 (520 * x + c) m) 51 (520 * x + c) v) 52 x ((c + 1 : Nat) : Int) 14 = g 14 := by rw [zs_row_ne (by decide), zs_row_ne (by decide), zs_row_ne (by decide)]
  refine ⟨TM_to h1 (by rw [e14]) (by rw [zs_row_ne (by decide), zs_row_ne (by decide), zs_row_ne (by decide)]), ?_, ?_, ?_, ?_, zs_at⟩
  · rw [e14]; exact h6
  · rw [e14]; exact h2
  · rw [e14]; exact h3
  · rw [e14]; exact h4
theorem put_b {n : Nat} {b : Nat → Nat} (T : TV n b) {x p c B : Nat} {f : Int} {g : zH} {m v : Int} (hx : x < 5) (hcp : c + 1 ≤ p + 1) (hB : B ≤ 300) (H : GOb n b x (p + 1) c B f g) : ∃ g', fX11_put m v g = some g' ∧ GKp x c g g' ∧ GOb n b x p c B f g' := by
  obtain ⟨h1, h2, h3, c', p', h4, h5, h6, h7, h8⟩ := H
  refine ⟨_, putM hx (by omega) h3 h4, put_K (by omega) h6, ?_, ?_, ?_, c' + 1, p', zs_at, ?_, by omega, by omega, h8⟩
  · rw [zs_row_ne (by decide), zs_row_ne (by decide), zs_row_ne (by decide)]; exact h1
  · exact TM_to h2 (by rw [zs_row_ne (by decide), zs_row_ne (by decide), zs_row_ne (by decide)]) (by rw [zs_row_ne (by decide), zs_row_ne (by decide), zs_row_ne (by decide)])
  · rw [zs_row_ne (by decide), zs_row_ne (by decide), zs_row_ne (by decide)]; exact h3
  · rw [zs_row_ne (by decide), zs_row_ne (by decide), zs_row_ne (by decide)]; exact h5
/-- one more put behind what was put -/
theorem sgm_put2 {r : Nat → Int} {B : Nat} {X : List Int} {v : Int} (H : sgm r B X) : sgm (zup r (B + X.length) v) B (X ++ [v]) := by
  refine sgm_mk (fun j hj => ?_) (fun j hj => ?_)
  · rw [zup_ne (by omega)]
    exact H j hj
  · have : j = 0 := by simp at hj; omega
    subst this
    rw [Nat.add_zero, zup_at]
    rfl
theorem put_seg {x c0 : Nat} {g : zH} {m v : Int} {M : List (Int × Int)} {w : Int} (H1 : sgm (g 50) (520 * x + c0) (m1 M)) (H2 : sgm (g 51) (520 * x + c0) (m2 M)) : sgm (zs (zs (zs g 50 (520 * x + (c0 + M.length)) m) 51 (520 * x + (c0 + M.length)) v) 52 x w 50) (520 * x + c0) (m1 (M ++ [(m, v)])) ∧ sgm (zs (zs (zs g 50 (520 * x + (c0 + M.length)) m) 51 (520 * x + (c0 + M.length)) v) 52 x w 51) (520 * x + c0) (m2 (M ++ [(m, v)])) := by
  have l1 : (m1 M).length = M.length := m1_len
  have l2 : (m2 M).length = M.length := m2_len
  have e1 : m1 (M ++ [(m, v)]) = m1 M ++ [m] := List.map_append
  have e2 : m2 (M ++ [(m, v)]) = m2 M ++ [v] := List.map_append
  refine ⟨?_, ?_⟩
  · rw [zs_row_ne (by decide), zs_row_ne (by decide), zs_zup, e1]
    have := sgm_put2 (v := m) H1
    rw [l1] at this
    rw [show 520 * x + (c0 + M.length) = 520 * x + c0 + M.length by omega]
    exact this
  · rw [zs_row_ne (by decide), zs_zup, zs_row_ne (by decide), e2]
    have := sgm_put2 (v := v) H2
    rw [l2] at this
    rw [show 520 * x + (c0 + M.length) = 520 * x + c0 + M.length by omega]
    exact this
/-- what is known of positions -/
def PMr (n p : Nat) (a : rRes) : Prop := (a.2.1 = -1 → p < a.1 ∧ a.1 ≤ n ∧ p + (eM a.2.2).length ≤ a.1) ∧ (a.2.1 ≠ -1 → 0 ≤ a.2.1 ∧ a.2.1 ≤ n)
theorem PM_e {n B p : Nat} {a : rRes} (h : PF n B OKe p a) : PMr n p a := ⟨fun hf => by
  obtain ⟨h1, h2, h3, h4, h5⟩ := h.1 hf
  have := h5.1.2.2
  exact ⟨h1, h2, by omega⟩, h.2⟩
theorem PM_b {n B p : Nat} {a : rRes} (h : PF n B OKb p a) : PMr n p a := PM_e (PF_up h (Nat.le_refl B) (fun _ h => h.1) (Nat.le_refl p))
/-- an operation behind both its sides -/
theorem GO_bin {n : Nat} {b : Nat → Nat} (T : TV n b) {x p c d B : Nat} {a it : rRes} {g g2 g3 : zH} {s m : Int} (hx : x < 5) (hB : B ≤ 300) (hcp : c ≤ p) (ha : a.2.1 = -1) (hP : PMr n p a) (hI : PMr n (skp n b a.1 + 1) it) (K : GKp x c g g2) (S1 : sgm (g2 50) (520 * x + c) (m1 (eM a.2.2))) (S2 : sgm (g2 51) (520 * x + c) (m2 (eM a.2.2))) (G : GOr n b x (skp n b a.1 + 1) (c + (eM a.2.2).length) d B it g2 g3) : ∃ g4, fX11_put m 0 g3 = some g4 ∧ GOr n b x p c d B (if it.2.1 = -1 then (it.1, -1, eBin s m a.2.2 it.2.2) else it) g g4 ∧ (it.2.1 = -1 → g4 14 = g3 14) := by
  obtain ⟨G1, G2, G3⟩ := G
  obtain ⟨a1, a2, a3⟩ := hP.1 ha
  have sk := skp_b (b := b) a2
  by_cases ci : it.2.1 = -1
  · obtain ⟨i1, i2, i3⟩ := hI.1 ci
    obtain ⟨k1, k2, k3⟩ := G2 ci
    have n240 := T.1
    have hc520 : c + (eM a.2.2).length + (eM it.2.2).length < 520 := by omega
    refine ⟨_, putM hx hc520 k1.2.2.2.2.1 k1.2.2.2.2.2, ?_, fun _ => by rw [zs_row_ne (by decide), zs_row_ne (by decide), zs_row_ne (by decide)]⟩
    rw [if_pos ci]
    refine ⟨GKp_tr K (GKp_tr G1 (put_K (c0 := c + (eM a.2.2).length) hc520 (by omega)) (Nat.le_refl _)) (by omega), fun _ => ?_, fun h => absurd rfl h⟩
    have S1' : sgm (g3 50) (520 * x + c) (m1 (eM a.2.2 ++ eM it.2.2)) := by
      have : m1 (eM a.2.2 ++ eM it.2.2) = m1 (eM a.2.2) ++ m1 (eM it.2.2) := List.map_append
      rw [this]
      refine sgm_mk (sgm_to S1 (fun j hj => (G1.2.2.2 _ (Or.inl ?_)).1)) ?_
      · rw [m1_len] at hj; omega
      · rw [m1_len, Nat.add_assoc]; exact k2
    have S2' : sgm (g3 51) (520 * x + c) (m2 (eM a.2.2 ++ eM it.2.2)) := by
      have : m2 (eM a.2.2 ++ eM it.2.2) = m2 (eM a.2.2) ++ m2 (eM it.2.2) := List.map_append
      rw [this]
      refine sgm_mk (sgm_to S2 (fun j hj => (G1.2.2.2 _ (Or.inl ?_)).2)) ?_
      · rw [m2_len] at hj; omega
      · rw [m2_len, Nat.add_assoc]; exact k3
    have lM : (eM a.2.2 ++ eM it.2.2).length = (eM a.2.2).length + (eM it.2.2).length := List.length_append
    have eMb : eM (eBin s m a.2.2 it.2.2) = (eM a.2.2 ++ eM it.2.2) ++ [(m, 0)] := by
      show eM a.2.2 ++ (eM it.2.2 ++ [(m, 0)]) = _
      rw [List.append_assoc]
    obtain ⟨w1, w2⟩ := put_seg (m := m) (v := 0) (w := ((c + (eM a.2.2).length + (eM it.2.2).length + 1 : Nat) : Int)) S1' S2'
    rw [lM, ← Nat.add_assoc c] at w1 w2
    refine ⟨?_, ?_, ?_⟩
    · have := put_GI (m := m) (v := 0) k1
      show GI n b x it.1 (c + (eM (eBin s m a.2.2 it.2.2)).length) d _
      rw [eMb, List.length_append, lM, List.length_singleton, ← Nat.add_assoc, ← Nat.add_assoc]
      exact this
    · show sgm _ _ (m1 (eM (eBin s m a.2.2 it.2.2)))
      rw [eMb]; exact w1
    · show sgm _ _ (m2 (eM (eBin s m a.2.2 it.2.2)))
      rw [eMb]; exact w2
  · obtain ⟨f1, f2, f3, c', p', f4, f5, f6, f7, f8⟩ := G3 ci
    refine ⟨_, putM hx (by omega) f3 f4, ?_, fun h => absurd h ci⟩
    rw [if_neg ci]
    refine ⟨GKp_tr K (GKp_tr G1 (put_K (c0 := c + (eM a.2.2).length) (by omega) f6) (Nat.le_refl _)) (by omega), fun h => absurd h ci, fun _ => ⟨?_, ?_, ?_, c' + 1, p', zs_at, ?_, by omega, by omega, f8⟩⟩
    · rw [zs_row_ne (by decide), zs_row_ne (by decide), zs_row_ne (by decide)]; exact f1
    · exact TM_to f2 (by rw [zs_row_ne (by decide), zs_row_ne (by decide), zs_row_ne (by decide)]) (by rw [zs_row_ne (by decide), zs_row_ne (by decide), zs_row_ne (by decide)])
    · rw [zs_row_ne (by decide), zs_row_ne (by decide), zs_row_ne (by decide)]; exact f3
    · rw [zs_row_ne (by decide), zs_row_ne (by decide), zs_row_ne (by decide)]; exact f5
