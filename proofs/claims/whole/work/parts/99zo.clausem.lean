/-! the reference reads a clause -/
/-- a clause as it lies in the reference's rows -/
def lawC (ρ : Nat) (c : rCl) (j o : Nat) (g : zH) : Prop := (g 54 (140 * ρ + j) = (o : Int) ∧ g 55 (140 * ρ + j) = ((o + tlC c : Nat) : Int) ∧ g 56 (140 * ρ + j) = ((o + tlC c + (eM c.2.2).length : Nat) : Int)) ∧ (c.1 = true → sgm (g 50) (520 * ρ + o) (m1 (eM c.2.1)) ∧ sgm (g 51) (520 * ρ + o) (m2 (eM c.2.1))) ∧ (sgm (g 50) (520 * ρ + (o + tlC c)) (m1 (eM c.2.2)) ∧ sgm (g 51) (520 * ρ + (o + tlC c)) (m2 (eM c.2.2)))
theorem lawMo_1 {ρ : Nat} {g : zH} (a : List rCl) (c : rCl) : ∀ j o, lawMo ρ a j o g → lawC ρ c (j + a.length) (o + lawL a) g → lawMo ρ (a ++ [c]) j o g := by
  induction a with
  | nil => intro j o _ h; exact ⟨h.1, h.2.1, h.2.2, trivial⟩
  | cons x a ih =>
    intro j o H h
    obtain ⟨h1, h2, h3, h4⟩ := H
    refine ⟨h1, h2, h3, ih _ _ h4 ?_⟩
    have e1 : j + 1 + a.length = j + (x :: a).length := by rw [List.length_cons]; omega
    have e2 : o + tlC x + (eM x.2.2).length + lawL a = o + lawL (x :: a) := by
      show _ = o + (tlC x + (eM x.2.2).length + lawL a)
      omega
    rw [e1, e2]
    exact h
theorem lawMo_keep {ρ : Nat} {g g' : zH} (cs : List rCl) : ∀ j o, (∀ i, 520 * ρ + o ≤ i → i < 520 * ρ + (o + lawL cs) → g' 50 i = g 50 i ∧ g' 51 i = g 51 i) → (∀ i, 140 * ρ + j ≤ i → i < 140 * ρ + (j + cs.length) → g' 54 i = g 54 i ∧ g' 55 i = g 55 i ∧ g' 56 i = g 56 i) → lawMo ρ cs j o g → lawMo ρ cs j o g' := by
  induction cs with
  | nil => intro j o _ _ H; exact H
  | cons c cs ih =>
    intro j o e1 e2 H
    obtain ⟨⟨a1, a2, a3⟩, h2, h3, h4⟩ := H
    have hL : lawL (c :: cs) = tlC c + (eM c.2.2).length + lawL cs := rfl
    rw [hL] at e1
    rw [List.length_cons] at e2
    obtain ⟨x1, x2, x3⟩ := e2 (140 * ρ + j) (Nat.le_refl _) (by omega)
    refine ⟨⟨x1.trans a1, x2.trans a2, x3.trans a3⟩, fun ht => ?_, ⟨?_, ?_⟩, ih _ _ (fun i h1 h2 => e1 i (by omega) (by omega)) (fun i h1 h2 => e2 i (by omega) (by omega)) h4⟩
    · have tl : tlC c = (eM c.2.1).length := by unfold tlC; rw [if_pos ht]
      obtain ⟨s1, s2⟩ := h2 ht
      refine ⟨sgm_to s1 (fun i hi => ?_), sgm_to s2 (fun i hi => ?_)⟩
      · rw [m1_len] at hi
        exact (e1 _ (by omega) (by omega)).1
      · rw [m2_len] at hi
        exact (e1 _ (by omega) (by omega)).2
    · refine sgm_to h3.1 (fun i hi => ?_)
      rw [m1_len] at hi
      exact (e1 _ (by omega) (by omega)).1
    · refine sgm_to h3.2 (fun i hi => ?_)
      rw [m2_len] at hi
      exact (e1 _ (by omega) (by omega)).2
/-- what a clause leaves alone -/
def GKc (x c j : Nat) (g g' : zH) : Prop := FR [14, 50, 51, 52, 53, 54, 55, 56] g g' ∧ FS 14 [3, 4, 5] g g' ∧ FS 52 [x] g g' ∧ FS 53 [x] g g' ∧ (∀ i, (i < 520 * x + c ∨ 520 * x + 520 ≤ i) → g' 50 i = g 50 i ∧ g' 51 i = g 51 i) ∧ ∀ i, i ≠ 140 * x + j → g' 54 i = g 54 i ∧ g' 55 i = g 55 i ∧ g' 56 i = g 56 i
theorem GKc_p {x c j : Nat} {g g' : zH} (h : GKp x c g g') : GKc x c j g g' := ⟨FR_up h.1 (by decide), h.2.1, h.2.2.1, FS_of h.1 (by decide), h.2.2.2, fun i _ => ⟨by rw [h.1 54 (by decide)], by rw [h.1 55 (by decide)], by rw [h.1 56 (by decide)]⟩⟩
theorem GKc_tr {x c c1 j : Nat} {g g1 g2 : zH} (h1 : GKc x c j g g1) (h2 : GKc x c1 j g1 g2) (hc : c ≤ c1) : GKc x c j g g2 := ⟨FR_tr h1.1 h2.1, FS_tr h1.2.1 h2.2.1, FS_tr h1.2.2.1 h2.2.2.1, FS_tr h1.2.2.2.1 h2.2.2.2.1, fun i hi => by
  obtain ⟨a1, a2⟩ := h1.2.2.2.2.1 i hi
  obtain ⟨b1, b2⟩ := h2.2.2.2.2.1 i (by omega)
  exact ⟨b1.trans a1, b2.trans a2⟩, fun i hi => by
  obtain ⟨a1, a2, a3⟩ := h1.2.2.2.2.2 i hi
  obtain ⟨b1, b2, b3⟩ := h2.2.2.2.2.2 i hi
  exact ⟨b1.trans a1, b2.trans a2, b3.trans a3⟩⟩
theorem GKc_o {x c j o : Nat} {g : zH} {v : Int} (ho : o = 54 ∨ o = 55 ∨ o = 56) : GKc x c j g (zs g o (140 * x + j) v) := by
  have n : ∀ b : Nat, b ≠ o → zs g o (140 * x + j) v b = g b := fun b hb => zs_row_ne hb
  refine ⟨fun b hb => n b (fun e => hb (by rw [e]; rcases ho with h | h | h <;> (rw [h]; decide))), fun q _ => by rw [n 14 (by omega)], fun q _ => by rw [n 52 (by omega)], fun q _ => by rw [n 53 (by omega)], fun i _ => ⟨by rw [n 50 (by omega)], by rw [n 51 (by omega)]⟩, fun i hi => ?_⟩
  have k : ∀ b, zs g o (140 * x + j) v b i = g b i := fun b => by
    by_cases e : b = o
    · rw [e, zs_ne hi]
    · rw [n b e]
  exact ⟨k 54, k 55, k 56⟩
/-- what a clause gives -/
def CLm (n : Nat) (b : Nat → Nat) (x c j : Nat) (r : Nat × Int × rCl) (g' : zH) : Prop := (r.2.1 ≠ -1 → g' 14 4 = r.2.1) ∧ (r.2.1 = -1 → GI n b x r.1 (c + (tlC r.2.2 + (eM r.2.2.2.2).length)) 0 g' ∧ g' 53 x = ((j + 1 : Nat) : Int) ∧ lawC x r.2.2 j c g')
theorem c251M {N x j c' : Nat} {h : zH} (hx : x < 5) (hj : j < 140) (h14 : h 14 14 = (x : Int)) (h52 : h 52 x = (c' : Int)) (h53 : h 53 x = (j : Int)) : fX11_clause_c251 N ((140 * x + j : Nat) : Int) h = some (zs (zs h 56 (140 * x + j) (c' : Int)) 53 x ((j + 1 : Nat) : Int)) := by
  unfold fX11_clause_c251
  have e1 : zs h 56 (140 * x + j) (c' : Int) 14 14 = (x : Int) := by rw [zs_row_ne (by decide)]; exact h14
  have e2 : zs h 56 (140 * x + j) (c' : Int) 53 x = (j : Int) := by rw [zs_row_ne (by decide)]; exact h53
  rw [h14, zw_id (show -2147483648 ≤ (x : Int) ∧ (x : Int) < 2147483648 by omega), if_pos (by omega), zw_id (show -2147483648 ≤ ((140 * x + j : Nat) : Int) ∧ ((140 * x + j : Nat) : Int) < 2147483648 by omega), if_pos (by omega), Int.toNat_natCast, Int.toNat_natCast, h52, zlet_v, zlet_v, e1, zw_id (show -2147483648 ≤ (x : Int) ∧ (x : Int) < 2147483648 by omega), if_pos (by omega), if_pos (by omega), Int.toNat_natCast, e2, zlet_v]
  rfl
theorem GKc_53 {x c j : Nat} {g : zH} {v : Int} : GKc x c j g (zs g 53 x v) := ⟨fun b hb => zs_row_ne (fun e => hb (by rw [e]; decide)), fun q _ => by rw [zs_row_ne (by decide)], fun q _ => by rw [zs_row_ne (by decide)], fun q hq => zs_ne (fun e => hq (by rw [e]; exact List.mem_singleton.mpr rfl)), fun i _ => ⟨by rw [zs_row_ne (by decide)], by rw [zs_row_ne (by decide)]⟩, fun i _ => ⟨by rw [zs_row_ne (by decide)], by rw [zs_row_ne (by decide)], by rw [zs_row_ne (by decide)]⟩⟩
theorem GI_o {n : Nat} {b : Nat → Nat} {x p c d : Nat} {g g' : zH} (H : GI n b x p c d g) (e14 : g' 14 = g 14) (e49 : g' 49 = g 49) (e52 : g' 52 = g 52) : GI n b x p c d g' := by
  unfold GI TMo at *
  rw [e14, e49, e52]; exact H
/-- behind the first part of a clause -/
theorem tailM {n : Nat} {b : Nat → Nat} (T : TV n b) {N : Nat} (hN : 300 ≤ N) {x q c j : Nat} (hx : x < 5) (hj : j < 140) {t : Bool × rRes} {g0 g1 : zH} (hcq : c ≤ q) (hP : PF n 18 OKe q t.2) (K : GKc x c j g0 g1) (h54 : g1 54 (140 * x + j) = (c : Int)) (h53 : g1 53 x = (j : Int)) (hok : t.2.2.1 = -1 → GOk n b x c 0 t.2 g1) (hbad : t.2.2.1 ≠ -1 → GOb n b x q c (n + 8) t.2.2.1 g1) : ∃ g', fX11_clause_c184 N ((140 * x + j : Nat) : Int) (bI t.1) g1 = some g' ∧ GKc x c j g0 g' ∧ CLm n b x c j (cQ n b t) g' := by
  have n240 := T.1
  obtain ⟨g2, eg2⟩ : ∃ g2, g2 = zs g1 55 (140 * x + j) (c : Int) := ⟨_, rfl⟩
  have R2 : ∀ o, o ≠ 55 → g2 o = g1 o := fun o ho => by rw [eg2, zs_row_ne ho]
  have K2 : GKc x c j g0 g2 := by rw [eg2]; exact GKc_tr K (GKc_o (Or.inr (Or.inl rfl))) (Nat.le_refl c)
  unfold fX11_clause_c184 cQ
  rw [zw_id (show -2147483648 ≤ ((140 * x + j : Nat) : Int) ∧ ((140 * x + j : Nat) : Int) < 2147483648 by omega), if_pos (by omega), if_pos (by omega), Int.toNat_natCast, h54, zlet_v, ← eg2, zwB]
  by_cases c0 : t.2.2.1 = -1
  · obtain ⟨t1, t2, t3, t4, t5⟩ := hP.1 c0
    have lM := t5.1.2.2
    have O := hok c0
    have O2 : GI n b x t.2.1 (c + (eM t.2.2.2).length) 0 g2 := GI_o O.1 (R2 14 (by decide)) (R2 49 (by decide)) (R2 52 (by decide))
    rw [if_pos c0]
    cases ht : t.1 with
    | false =>
      rw [if_pos (show bI false = 0 from rfl), if_neg (show ¬ false = true by decide), c251M hx hj O2.2.2.2.2.1 O2.2.2.2.2.2 (by rw [R2 53 (by decide)]; exact h53)]
      have w : ∀ o, o ≠ 53 → o ≠ 56 → zs (zs g2 56 (140 * x + j) ((c + (eM t.2.2.2).length : Nat) : Int)) 53 x ((j + 1 : Nat) : Int) o = g2 o := fun o y z => by rw [zs_row_ne y, zs_row_ne z]
      refine ⟨_, rfl, GKc_tr K2 (GKc_tr (GKc_o (Or.inr (Or.inr rfl))) GKc_53 (Nat.le_refl c)) (Nat.le_refl c), fun h => absurd rfl h, fun _ => ⟨?_, zs_at, ⟨?_, ?_, ?_⟩, fun h => absurd (show false = true from h) (by decide), ?_, ?_⟩⟩
      · show GI n b x t.2.1 (c + (0 + (eM t.2.2.2).length)) 0 _
        rw [Nat.zero_add]
        exact GI_o O2 (w 14 (by decide) (by decide)) (w 49 (by decide) (by decide)) (w 52 (by decide) (by decide))
      · rw [w 54 (by decide) (by decide), R2 54 (by decide)]; exact h54
      · rw [w 55 (by decide) (by decide), eg2, zs_at]; rfl
      · rw [zs_row_ne (by decide), zs_at]; rfl
      · show sgm _ (520 * x + (c + 0)) (m1 (eM t.2.2.2))
        rw [w 50 (by decide) (by decide), R2 50 (by decide), Nat.add_zero]; exact O.2.1
      · show sgm _ (520 * x + (c + 0)) (m2 (eM t.2.2.2))
        rw [w 51 (by decide) (by decide), R2 51 (by decide), Nat.add_zero]; exact O.2.2
    | true =>
      rw [if_neg (show ¬ bI true = 0 by decide), if_pos rfl, O2.2.2.1, if_pos rfl]
      obtain ⟨g3, l1, l2, l3, l4, l5⟩ := GI_look T hN O2
      have sk := skp_b (b := b) t2
      have sw := sg_w (p := skp n b t.2.1) T
      have K3 : GKc x c j g0 g3 := GKc_tr K2 (GKc_p (GKp_14 (c := c) l2 (FS_up l3 (by decide)))) (Nat.le_refl c)
      rw [l1, z2_some, sw, show zw 63 = 63 by decide]
      by_cases c63 : sg n b (skp n b t.2.1) = 63
      · have hlt : skp n b t.2.1 < n := sg_lt (b := b) (by rw [c63]; decide)
        rw [if_pos c63, if_pos c63, zlet_v]
        have G4 := GI_on l5 l4 (by omega)
        obtain ⟨g4, eg4⟩ : ∃ g4, g4 = zs g3 14 3 (g3 14 3 + 1) := ⟨_, rfl⟩
        rw [← eg4] at G4 ⊢
        have R4 : ∀ o, o ≠ 14 → g4 o = g3 o := fun o ho => by rw [eg4, zs_row_ne ho]
        have K4 : GKc x c j g0 g4 := by rw [eg4]; exact GKc_tr K3 (GKc_p (on_K (c := c))) (Nat.le_refl c)
        rw [G4.2.2.2.2.1, zw_id (show -2147483648 ≤ (x : Int) ∧ (x : Int) < 2147483648 by omega), if_pos (by omega), if_pos (by omega), Int.toNat_natCast, G4.2.2.2.2.2, zlet_v]
        obtain ⟨g5, eg5⟩ : ∃ g5, g5 = zs g4 55 (140 * x + j) ((c + (eM t.2.2.2).length : Nat) : Int) := ⟨_, rfl⟩
        rw [← eg5]
        have R5 : ∀ o, o ≠ 55 → g5 o = g4 o := fun o ho => by rw [eg5, zs_row_ne ho]
        have K5 : GKc x c j g0 g5 := by rw [eg5]; exact GKc_tr K4 (GKc_o (Or.inr (Or.inl rfl))) (Nat.le_refl c)
        have G5 : GI n b x (skp n b t.2.1 + 1) (c + (eM t.2.2.2).length) 0 g5 := GI_o G4 (R5 14 (by decide)) (R5 49 (by decide)) (R5 52 (by decide))
        obtain ⟨g6, s1, s2, s3, s4⟩ := MC_SU T hN hx (Nat.le_refl 6) g5 (skp n b t.2.1 + 1) (c + (eM t.2.2.2).length) 0 G5 (by omega) (by omega) rfl
        have hS := PF_SU (b := b) 6 (show skp n b t.2.1 + 1 ≤ n by omega)
        rw [s1, zb_some]
        have K6 : GKc x c j g0 g6 := GKc_tr K5 (GKc_p s2) (by omega)
        have h53' : g6 53 x = (j : Int) := by rw [s2.1 53 (by decide), R5 53 (by decide), R4 53 (by decide), l2 53 (by decide), R2 53 (by decide)]; exact h53
        obtain ⟨s, es⟩ : ∃ s, s = SU n b 6 (skp n b t.2.1 + 1) := ⟨_, rfl⟩
        rw [← es] at s3 s4 hS ⊢
        by_cases c1 : s.2.1 = -1
        · obtain ⟨u1, u2, u3⟩ := s3 c1
          rw [c251M hx hj u1.2.2.2.2.1 u1.2.2.2.2.2 h53']
          have w : ∀ o, o ≠ 53 → o ≠ 56 → zs (zs g6 56 (140 * x + j) ((c + (eM t.2.2.2).length + (eM s.2.2).length : Nat) : Int)) 53 x ((j + 1 : Nat) : Int) o = g6 o := fun o y z => by rw [zs_row_ne y, zs_row_ne z]
          refine ⟨_, rfl, GKc_tr K6 (GKc_tr (GKc_o (Or.inr (Or.inr rfl))) GKc_53 (Nat.le_refl c)) (Nat.le_refl c), fun h => absurd c1 h, fun _ => ⟨?_, zs_at, ⟨?_, ?_, ?_⟩, fun _ => ⟨?_, ?_⟩, ?_, ?_⟩⟩
          · show GI n b x s.1 (c + ((eM t.2.2.2).length + (eM s.2.2).length)) 0 _
            rw [← Nat.add_assoc]
            exact GI_o u1 (w 14 (by decide) (by decide)) (w 49 (by decide) (by decide)) (w 52 (by decide) (by decide))
          · rw [w 54 (by decide) (by decide), s2.1 54 (by decide), R5 54 (by decide), R4 54 (by decide), l2 54 (by decide), R2 54 (by decide)]; exact h54
          · rw [w 55 (by decide) (by decide), s2.1 55 (by decide), eg5, zs_at]; rfl
          · rw [zs_row_ne (by decide), zs_at]; rfl
          · rw [w 50 (by decide) (by decide)]
            refine sgm_to O.2.1 (fun i hi => ?_)
            rw [m1_len] at hi
            have hi : i < (eM t.2.2.2).length := hi
            rw [(s2.2.2.2 _ (Or.inl (by omega))).1, R5 50 (by decide), R4 50 (by decide), l2 50 (by decide), R2 50 (by decide)]
          · rw [w 51 (by decide) (by decide)]
            refine sgm_to O.2.2 (fun i hi => ?_)
            rw [m2_len] at hi
            have hi : i < (eM t.2.2.2).length := hi
            rw [(s2.2.2.2 _ (Or.inl (by omega))).2, R5 51 (by decide), R4 51 (by decide), l2 51 (by decide), R2 51 (by decide)]
          · rw [w 50 (by decide) (by decide)]; exact u2
          · rw [w 51 (by decide) (by decide)]; exact u3
        · obtain ⟨f1, f2, f3, c', p', f4, f5, f6, f7, f8⟩ := s4 c1
          rw [c251M hx hj f3 f4 h53']
          refine ⟨_, rfl, GKc_tr K6 (GKc_tr (GKc_o (Or.inr (Or.inr rfl))) GKc_53 (Nat.le_refl c)) (Nat.le_refl c), fun _ => ?_, fun h => absurd h c1⟩
          rw [zs_row_ne (by decide), zs_row_ne (by decide)]; exact f1
      · rw [if_neg c63, if_neg c63, zlet_v]
        have e0 : fX11_bad g3 = zs g3 14 4 (skp n b t.2.1 : Int) := by rw [badM l5.2.2.1, l4]
        rw [e0]
        exact ⟨_, rfl, GKc_tr K3 (GKc_p (GKp_14 (c := c) (fun b hb => zs_row_ne (fun e => hb (by rw [e]; decide))) (fun q hq => zs_ne (fun e => hq (by rw [e]; decide))))) (Nat.le_refl c), fun _ => zs_at, fun h => absurd (show (skp n b t.2.1 : Int) = -1 from h) (by omega)⟩
  · rw [if_neg c0]
    have hb := hP.2 c0
    obtain ⟨f1, f2, f3, c', p', f4, f5, f6, f7, f8⟩ := hbad c0
    have e251 := c251M (N := N) hx hj (h := g2) (by rw [R2 14 (by decide)]; exact f3) (by rw [R2 52 (by decide)]; exact f4) (by rw [R2 53 (by decide)]; exact h53)
    have fin : GKc x c j g0 (zs (zs g2 56 (140 * x + j) (c' : Int)) 53 x ((j + 1 : Nat) : Int)) ∧ CLm n b x c j (t.2.1, t.2.2.1, dC) (zs (zs g2 56 (140 * x + j) (c' : Int)) 53 x ((j + 1 : Nat) : Int)) := ⟨GKc_tr K2 (GKc_tr (GKc_o (Or.inr (Or.inr rfl))) GKc_53 (Nat.le_refl c)) (Nat.le_refl c), fun _ => by rw [zs_row_ne (by decide), zs_row_ne (by decide), R2 14 (by decide)]; exact f1, fun h => absurd h c0⟩
    cases ht : t.1 with
    | false =>
      rw [if_pos (show bI false = 0 from rfl), e251]
      exact ⟨_, rfl, fin⟩
    | true =>
      rw [if_neg (show ¬ bI true = 0 by decide), R2 14 (by decide), f1, zw_m1, zw_id (show -2147483648 ≤ t.2.2.1 ∧ t.2.2.1 < 2147483648 by omega), if_neg c0, e251]
      exact ⟨_, rfl, fin⟩
